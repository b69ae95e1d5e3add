theorem tb_0 : (Jvm.Cond.initialized "MedalBoardLaw") ∈ lw_gd := tb_in1 (i := 0) rfl rfl
theorem tb_1 : (Jvm.Cond.initialized "MedalBoard") ∈ lw_gd := tb_in1 (i := 1) rfl rfl
theorem tb_2 : (Jvm.Cond.initialized "MedalBoard$Army") ∈ lw_gd := tb_in1 (i := 2) rfl rfl
theorem tb_3 : (Jvm.Cond.initialized "MedalBoard$War") ∈ lw_gd := tb_in1 (i := 3) rfl rfl
theorem tb_4 : (Jvm.Cond.initialized "MedalBoard$Reader") ∈ lw_gd := tb_in1 (i := 4) rfl rfl
theorem tb_5 : (Jvm.Cond.initialized "MedalBoard$Tape") ∈ lw_gd := tb_in1 (i := 5) rfl rfl
theorem tb_6 : (Jvm.Cond.initialized "java/lang/String") ∈ lw_gd := tb_in1 (i := 6) rfl rfl
theorem tb_7 : (Jvm.Cond.initialized "java/lang/StringLatin1") ∈ lw_gd := tb_in1 (i := 7) rfl rfl
theorem tb_8 : (Jvm.Cond.initialized "jdk/internal/util/Preconditions") ∈ lw_gd := tb_in1 (i := 8) rfl rfl
theorem tb_9 : (Jvm.Cond.initialized "java/lang/StringUTF16") ∈ lw_gd := tb_in1 (i := 9) rfl rfl
theorem tb_10 : (Jvm.Cond.initialized "MedalBoard$ArmyReader") ∈ lw_gd := tb_in1 (i := 10) rfl rfl
theorem tb_11 : (Jvm.Cond.initialized "MedalBoard$WarReader") ∈ lw_gd := tb_in1 (i := 11) rfl rfl
theorem tb_12 : (Jvm.Cond.initialized "MedalBoard$Campaign") ∈ lw_gd := tb_in1 (i := 12) rfl rfl
theorem tb_13 : (Jvm.Cond.initialized "MedalBoard$Foresight") ∈ lw_gd := tb_in1 (i := 13) rfl rfl
theorem tb_14 : (Jvm.Cond.initialized "MedalBoard$Pairs") ∈ lw_gd := tb_in1 (i := 14) rfl rfl
theorem tb_15 : (Jvm.Cond.initialized "MedalBoard$Tray") ∈ lw_gd := tb_in1 (i := 15) rfl rfl
theorem tb_16 : (Jvm.Cond.initialized "MedalBoardModel") ∈ lw_gd := tb_in1 (i := 16) rfl rfl
theorem tb_17 : (Jvm.Cond.initialized "java/util/Arrays") ∈ lw_gd := tb_in1 (i := 17) rfl rfl
theorem tb_18 : (Jvm.Cond.initialized "java/lang/System") ∈ lw_gd := tb_in1 (i := 18) rfl rfl
theorem tb_19 : (Jvm.Cond.initialized "java/lang/Math") ∈ lw_gd := tb_in1 (i := 19) rfl rfl
theorem tb_20 : (Jvm.Cond.initialized "java/lang/Integer") ∈ lw_gd := tb_in1 (i := 20) rfl rfl
theorem tb_21 : (Jvm.Cond.initialized "MedalBoard$Council") ∈ lw_gd := tb_in1 (i := 21) rfl rfl
theorem tb_22 : (Jvm.Cond.classLink "MedalBoardLaw" 7 "MedalBoard") ∈ lw_gd := tb_in1 (i := 22) rfl rfl
theorem tb_23 : (Jvm.Cond.instantiable "MedalBoard" 18) ∈ lw_gd := tb_in1 (i := 23) rfl rfl
theorem tb_24 : (Jvm.Cond.methodLink "MedalBoardLaw" 9 ⟨"MedalBoard", "<init>", "()V"⟩) ∈ lw_gd := tb_in1 (i := 24) rfl rfl
theorem tb_25 : (Jvm.Cond.instanceMethod ⟨"MedalBoard", "<init>", "()V"⟩) ∈ lw_gd := tb_in1 (i := 25) rfl rfl
theorem tb_26 : (Jvm.Cond.code ⟨"MedalBoard", "<init>", "()V"⟩ prog_1_method_1_code 2 (Option.none : Option Jvm.ClassFile.FieldType)) ∈ lw_gd := tb_in1 (i := 26) rfl rfl
theorem tb_27 : (Jvm.Cond.methodLink "MedalBoard" 1 ⟨"java/lang/Object", "<init>", "()V"⟩) ∈ lw_gd := tb_in1 (i := 27) rfl rfl
theorem tb_28 : (Jvm.Cond.instanceMethod ⟨"java/lang/Object", "<init>", "()V"⟩) ∈ lw_gd := tb_in1 (i := 28) rfl rfl
theorem tb_29 : (Jvm.Cond.code ⟨"java/lang/Object", "<init>", "()V"⟩ object_method_1_code 1 (Option.none : Option Jvm.ClassFile.FieldType)) ∈ lw_gd := tb_in1 (i := 29) rfl rfl
theorem tb_30 : (Jvm.Cond.classLink "MedalBoard" 20 "MedalBoard$Tray") ∈ lw_gd := tb_in1 (i := 30) rfl rfl
theorem tb_32 : (Jvm.Cond.classLink "MedalBoard" 26 "MedalBoard$Army") ∈ lw_gd := tb_in1 (i := 32) rfl rfl
theorem tb_33 : (Jvm.Cond.instantiable "MedalBoard$Army" 14) ∈ lw_gd := tb_in1 (i := 33) rfl rfl
theorem tb_35 : (Jvm.Cond.instanceMethod ⟨"MedalBoard$Army", "<init>", "()V"⟩) ∈ lw_gd := tb_in1 (i := 35) rfl rfl
theorem tb_36 : (Jvm.Cond.code ⟨"MedalBoard$Army", "<init>", "()V"⟩ prog_2_method_1_code 1 (Option.none : Option Jvm.ClassFile.FieldType)) ∈ lw_gd := tb_in1 (i := 36) rfl rfl
theorem tb_37 : (Jvm.Cond.methodLink "MedalBoard$Army" 3 ⟨"java/lang/Object", "<init>", "()V"⟩) ∈ lw_gd := tb_in1 (i := 37) rfl rfl
theorem tb_38 : (Jvm.Cond.fieldLink "MedalBoard$Army" 9 "MedalBoard$Army" "name" "[J") ∈ lw_gd := tb_in1 (i := 38) rfl rfl
theorem tb_39 : (Jvm.Cond.fieldLink "MedalBoard$Army" 15 "MedalBoard$Army" "courage" "[I") ∈ lw_gd := tb_in1 (i := 39) rfl rfl
theorem tb_40 : (Jvm.Cond.fieldLink "MedalBoard" 251 "MedalBoard$Army" "courage" "[I") ∈ lw_gd := tb_in1 (i := 40) rfl rfl
theorem tb_41 : (Jvm.Cond.fieldLink "MedalBoard$Army" 19 "MedalBoard$Army" "weight" "[I") ∈ lw_gd := tb_in1 (i := 41) rfl rfl
theorem tb_42 : (Jvm.Cond.fieldLink "MedalBoard" 254 "MedalBoard$Army" "weight" "[I") ∈ lw_gd := tb_in1 (i := 42) rfl rfl
theorem tb_43 : (Jvm.Cond.fieldLink "MedalBoard$Army" 22 "MedalBoard$Army" "medals" "[I") ∈ lw_gd := tb_in1 (i := 43) rfl rfl
theorem tb_44 : (Jvm.Cond.fieldLink "MedalBoard$Foresight" 52 "MedalBoard$Army" "medals" "[I") ∈ lw_gd := tb_in1 (i := 44) rfl rfl
theorem tb_45 : (Jvm.Cond.fieldLink "MedalBoard$ArmyReader" 101 "MedalBoard$Army" "medals" "[I") ∈ lw_gd := tb_in1 (i := 45) rfl rfl
theorem tb_46 : (Jvm.Cond.fieldLink "MedalBoard$Campaign" 126 "MedalBoard$Army" "medals" "[I") ∈ lw_gd := tb_in1 (i := 46) rfl rfl
theorem tb_47 : (Jvm.Cond.fieldLink "MedalBoard" 228 "MedalBoard$Army" "medals" "[I") ∈ lw_gd := tb_in1 (i := 47) rfl rfl
theorem tb_48 : (Jvm.Cond.fieldLink "MedalBoard$Army" 25 "MedalBoard$Army" "stood" "[I") ∈ lw_gd := tb_in1 (i := 48) rfl rfl
theorem tb_49 : (Jvm.Cond.fieldLink "MedalBoard" 242 "MedalBoard$Army" "stood" "[I") ∈ lw_gd := tb_in1 (i := 49) rfl rfl
theorem tb_50 : (Jvm.Cond.fieldLink "MedalBoard$Army" 28 "MedalBoard$Army" "fled" "[I") ∈ lw_gd := tb_in1 (i := 50) rfl rfl
theorem tb_51 : (Jvm.Cond.fieldLink "MedalBoard$Campaign" 132 "MedalBoard$Army" "fled" "[I") ∈ lw_gd := tb_in1 (i := 51) rfl rfl
theorem tb_52 : (Jvm.Cond.fieldLink "MedalBoard" 245 "MedalBoard$Army" "fled" "[I") ∈ lw_gd := tb_in1 (i := 52) rfl rfl
theorem tb_53 : (Jvm.Cond.fieldLink "MedalBoard$Army" 31 "MedalBoard$Army" "liked" "[I") ∈ lw_gd := tb_in1 (i := 53) rfl rfl
theorem tb_54 : (Jvm.Cond.fieldLink "MedalBoard$Army" 34 "MedalBoard$Army" "votes" "[I") ∈ lw_gd := tb_in1 (i := 54) rfl rfl
theorem tb_55 : (Jvm.Cond.fieldLink "MedalBoard$Army" 37 "MedalBoard$Army" "count" "I") ∈ lw_gd := tb_in1 (i := 55) rfl rfl
theorem tb_56 : (Jvm.Cond.fieldLink "MedalBoard$Pairs" 41 "MedalBoard$Army" "count" "I") ∈ lw_gd := tb_in1 (i := 56) rfl rfl
theorem tb_57 : (Jvm.Cond.fieldLink "MedalBoard$ArmyReader" 79 "MedalBoard$Army" "count" "I") ∈ lw_gd := tb_in1 (i := 57) rfl rfl
theorem tb_58 : (Jvm.Cond.fieldLink "MedalBoard$Council" 38 "MedalBoard$Army" "count" "I") ∈ lw_gd := tb_in1 (i := 58) rfl rfl
theorem tb_59 : (Jvm.Cond.fieldLink "MedalBoard$Campaign" 106 "MedalBoard$Army" "count" "I") ∈ lw_gd := tb_in1 (i := 59) rfl rfl
theorem tb_60 : (Jvm.Cond.fieldLink "MedalBoard" 190 "MedalBoard$Army" "count" "I") ∈ lw_gd := tb_in1 (i := 60) rfl rfl
theorem tb_61 : (Jvm.Cond.fieldLink "MedalBoard$Army" 41 "MedalBoard$Army" "living" "I") ∈ lw_gd := tb_in1 (i := 61) rfl rfl
theorem tb_62 : (Jvm.Cond.fieldLink "MedalBoard$Council" 9 "MedalBoard$Army" "living" "I") ∈ lw_gd := tb_in1 (i := 62) rfl rfl
theorem tb_63 : (Jvm.Cond.fieldLink "MedalBoard$Foresight" 75 "MedalBoard$Army" "living" "I") ∈ lw_gd := tb_in1 (i := 63) rfl rfl
theorem tb_64 : (Jvm.Cond.fieldLink "MedalBoard" 221 "MedalBoard$Army" "living" "I") ∈ lw_gd := tb_in1 (i := 64) rfl rfl
theorem tb_65 : (Jvm.Cond.fieldLink "MedalBoard$Army" 44 "MedalBoard$Army" "pride" "I") ∈ lw_gd := tb_in1 (i := 65) rfl rfl
theorem tb_66 : (Jvm.Cond.fieldLink "MedalBoard$ArmyReader" 70 "MedalBoard$Army" "pride" "I") ∈ lw_gd := tb_in1 (i := 66) rfl rfl
theorem tb_67 : (Jvm.Cond.fieldLink "MedalBoard" 215 "MedalBoard$Army" "pride" "I") ∈ lw_gd := tb_in1 (i := 67) rfl rfl
theorem tb_68 : (Jvm.Cond.fieldLink "MedalBoard$Army" 47 "MedalBoard$Army" "quota" "I") ∈ lw_gd := tb_in1 (i := 68) rfl rfl
theorem tb_69 : (Jvm.Cond.fieldLink "MedalBoard$ArmyReader" 76 "MedalBoard$Army" "quota" "I") ∈ lw_gd := tb_in1 (i := 69) rfl rfl
theorem tb_70 : (Jvm.Cond.fieldLink "MedalBoard" 218 "MedalBoard$Army" "quota" "I") ∈ lw_gd := tb_in1 (i := 70) rfl rfl
theorem tb_71 : (Jvm.Cond.fieldLink "MedalBoard$Army" 50 "MedalBoard$Army" "melted" "I") ∈ lw_gd := tb_in1 (i := 71) rfl rfl
theorem tb_72 : (Jvm.Cond.fieldLink "MedalBoard" 236 "MedalBoard$Army" "melted" "I") ∈ lw_gd := tb_in1 (i := 72) rfl rfl
theorem tb_73 : (Jvm.Cond.fieldLink "MedalBoard$Army" 53 "MedalBoard$Army" "lost" "I") ∈ lw_gd := tb_in1 (i := 73) rfl rfl
theorem tb_74 : (Jvm.Cond.fieldLink "MedalBoard" 239 "MedalBoard$Army" "lost" "I") ∈ lw_gd := tb_in1 (i := 74) rfl rfl
theorem tb_104 : (Jvm.Cond.arrayClass Jvm.ClassFile.FieldType.long) ∈ lw_gd := tb_in1 (i := 104) rfl rfl
theorem tb_105 : (Jvm.Cond.arrayClass Jvm.ClassFile.FieldType.int) ∈ lw_gd := tb_in1 (i := 105) rfl rfl
theorem tb_106 : (Jvm.Cond.classLink "MedalBoard" 33 "MedalBoard$War") ∈ lw_gd := tb_in1 (i := 106) rfl rfl
theorem tb_107 : (Jvm.Cond.instantiable "MedalBoard$War" 9) ∈ lw_gd := tb_in1 (i := 107) rfl rfl
theorem tb_109 : (Jvm.Cond.instanceMethod ⟨"MedalBoard$War", "<init>", "()V"⟩) ∈ lw_gd := tb_in1 (i := 109) rfl rfl
theorem tb_110 : (Jvm.Cond.code ⟨"MedalBoard$War", "<init>", "()V"⟩ prog_11_method_1_code 1 (Option.none : Option Jvm.ClassFile.FieldType)) ∈ lw_gd := tb_in1 (i := 110) rfl rfl
theorem tb_111 : (Jvm.Cond.methodLink "MedalBoard$War" 3 ⟨"java/lang/Object", "<init>", "()V"⟩) ∈ lw_gd := tb_in1 (i := 111) rfl rfl
theorem tb_112 : (Jvm.Cond.fieldLink "MedalBoard$War" 9 "MedalBoard$War" "deed" "[I") ∈ lw_gd := tb_in1 (i := 112) rfl rfl
theorem tb_113 : (Jvm.Cond.fieldLink "MedalBoard$Campaign" 63 "MedalBoard$War" "deed" "[I") ∈ lw_gd := tb_in1 (i := 113) rfl rfl
theorem tb_114 : (Jvm.Cond.fieldLink "MedalBoard$War" 15 "MedalBoard$War" "man" "[I") ∈ lw_gd := tb_in1 (i := 114) rfl rfl
theorem tb_115 : (Jvm.Cond.fieldLink "MedalBoard$Campaign" 76 "MedalBoard$War" "man" "[I") ∈ lw_gd := tb_in1 (i := 115) rfl rfl
theorem tb_116 : (Jvm.Cond.fieldLink "MedalBoard$WarReader" 97 "MedalBoard$War" "man" "[I") ∈ lw_gd := tb_in1 (i := 116) rfl rfl
theorem tb_117 : (Jvm.Cond.fieldLink "MedalBoard$War" 18 "MedalBoard$War" "other" "[I") ∈ lw_gd := tb_in1 (i := 117) rfl rfl
theorem tb_118 : (Jvm.Cond.fieldLink "MedalBoard$Campaign" 86 "MedalBoard$War" "other" "[I") ∈ lw_gd := tb_in1 (i := 118) rfl rfl
theorem tb_119 : (Jvm.Cond.fieldLink "MedalBoard$WarReader" 111 "MedalBoard$War" "other" "[I") ∈ lw_gd := tb_in1 (i := 119) rfl rfl
theorem tb_120 : (Jvm.Cond.fieldLink "MedalBoard$War" 21 "MedalBoard$War" "sign" "[I") ∈ lw_gd := tb_in1 (i := 120) rfl rfl
theorem tb_121 : (Jvm.Cond.fieldLink "MedalBoard$WarReader" 120 "MedalBoard$War" "sign" "[I") ∈ lw_gd := tb_in1 (i := 121) rfl rfl
theorem tb_122 : (Jvm.Cond.fieldLink "MedalBoard$Campaign" 134 "MedalBoard$War" "sign" "[I") ∈ lw_gd := tb_in1 (i := 122) rfl rfl
theorem tb_123 : (Jvm.Cond.fieldLink "MedalBoard$War" 24 "MedalBoard$War" "number" "[I") ∈ lw_gd := tb_in1 (i := 123) rfl rfl
theorem tb_124 : (Jvm.Cond.fieldLink "MedalBoard$Campaign" 79 "MedalBoard$War" "number" "[I") ∈ lw_gd := tb_in1 (i := 124) rfl rfl
theorem tb_125 : (Jvm.Cond.fieldLink "MedalBoard$WarReader" 104 "MedalBoard$War" "number" "[I") ∈ lw_gd := tb_in1 (i := 125) rfl rfl
theorem tb_126 : (Jvm.Cond.fieldLink "MedalBoard$War" 27 "MedalBoard$War" "mate" "[I") ∈ lw_gd := tb_in1 (i := 126) rfl rfl
theorem tb_127 : (Jvm.Cond.fieldLink "MedalBoard$Campaign" 73 "MedalBoard$War" "mate" "[I") ∈ lw_gd := tb_in1 (i := 127) rfl rfl
theorem tb_128 : (Jvm.Cond.fieldLink "MedalBoard$War" 30 "MedalBoard$War" "there" "Z") ∈ lw_gd := tb_in1 (i := 128) rfl rfl
theorem tb_129 : (Jvm.Cond.fieldLink "MedalBoard$WarReader" 36 "MedalBoard$War" "there" "Z") ∈ lw_gd := tb_in1 (i := 129) rfl rfl
theorem tb_130 : (Jvm.Cond.fieldLink "MedalBoard" 402 "MedalBoard$War" "there" "Z") ∈ lw_gd := tb_in1 (i := 130) rfl rfl
theorem tb_131 : (Jvm.Cond.fieldLink "MedalBoard$War" 34 "MedalBoard$War" "rows" "I") ∈ lw_gd := tb_in1 (i := 131) rfl rfl
theorem tb_132 : (Jvm.Cond.fieldLink "MedalBoard$Campaign" 54 "MedalBoard$War" "rows" "I") ∈ lw_gd := tb_in1 (i := 132) rfl rfl
theorem tb_133 : (Jvm.Cond.fieldLink "MedalBoard$WarReader" 91 "MedalBoard$War" "rows" "I") ∈ lw_gd := tb_in1 (i := 133) rfl rfl
theorem tb_134 : (Jvm.Cond.fieldLink "MedalBoard$War" 38 "MedalBoard$War" "steps" "I") ∈ lw_gd := tb_in1 (i := 134) rfl rfl
theorem tb_135 : (Jvm.Cond.fieldLink "MedalBoard$WarReader" 88 "MedalBoard$War" "steps" "I") ∈ lw_gd := tb_in1 (i := 135) rfl rfl
theorem tb_136 : (Jvm.Cond.fieldLink "MedalBoard" 206 "MedalBoard$War" "steps" "I") ∈ lw_gd := tb_in1 (i := 136) rfl rfl
theorem tb_156 : (Jvm.Cond.classLink "MedalBoard" 46 "MedalBoard$Reader") ∈ lw_gd := tb_in1 (i := 156) rfl rfl
theorem tb_157 : (Jvm.Cond.instantiable "MedalBoard$Reader" 3) ∈ lw_gd := tb_in1 (i := 157) rfl rfl
theorem tb_159 : (Jvm.Cond.instanceMethod ⟨"MedalBoard$Reader", "<init>", "()V"⟩) ∈ lw_gd := tb_in1 (i := 159) rfl rfl
theorem tb_160 : (Jvm.Cond.code ⟨"MedalBoard$Reader", "<init>", "()V"⟩ prog_8_method_1_code 1 (Option.none : Option Jvm.ClassFile.FieldType)) ∈ lw_gd := tb_in1 (i := 160) rfl rfl
theorem tb_161 : (Jvm.Cond.methodLink "MedalBoard$Reader" 3 ⟨"java/lang/Object", "<init>", "()V"⟩) ∈ lw_gd := tb_in1 (i := 161) rfl rfl
theorem tb_162 : (Jvm.Cond.classLink "MedalBoard$Reader" 9 "MedalBoard$Tape") ∈ lw_gd := tb_in1 (i := 162) rfl rfl
theorem tb_163 : (Jvm.Cond.instantiable "MedalBoard$Tape" 10) ∈ lw_gd := tb_in1 (i := 163) rfl rfl
theorem tb_164 : (Jvm.Cond.methodLink "MedalBoard$Reader" 11 ⟨"MedalBoard$Tape", "<init>", "()V"⟩) ∈ lw_gd := tb_in1 (i := 164) rfl rfl
theorem tb_165 : (Jvm.Cond.instanceMethod ⟨"MedalBoard$Tape", "<init>", "()V"⟩) ∈ lw_gd := tb_in1 (i := 165) rfl rfl
theorem tb_166 : (Jvm.Cond.code ⟨"MedalBoard$Tape", "<init>", "()V"⟩ prog_9_method_1_code 6 (Option.none : Option Jvm.ClassFile.FieldType)) ∈ lw_gd := tb_in1 (i := 166) rfl rfl
theorem tb_167 : (Jvm.Cond.methodLink "MedalBoard$Tape" 3 ⟨"java/lang/Object", "<init>", "()V"⟩) ∈ lw_gd := tb_in1 (i := 167) rfl rfl
theorem tb_169 : (Jvm.Cond.methodLink "MedalBoard$Tape" 47 ⟨"java/lang/String", "length", "()I"⟩) ∈ lw_gd := tb_in1 (i := 169) rfl rfl
theorem tb_170 : (Jvm.Cond.instanceMethod ⟨"java/lang/String", "length", "()I"⟩) ∈ lw_gd := tb_in1 (i := 170) rfl rfl
theorem tb_171 : (Jvm.Cond.selects "java/lang/String" ⟨"java/lang/String", "length", "()I"⟩ ⟨"java/lang/String", "length", "()I"⟩) ∈ lw_gd := tb_in1 (i := 171) rfl rfl
theorem tb_172 : (Jvm.Cond.code ⟨"java/lang/String", "length", "()I"⟩ prog_17_method_54_code 1 (Option.some Jvm.ClassFile.FieldType.int)) ∈ lw_gd := tb_in1 (i := 172) rfl rfl
theorem tb_173 : (Jvm.Cond.methodLink "java/lang/String" 335 ⟨"java/lang/String", "coder", "()B"⟩) ∈ lw_gd := tb_in1 (i := 173) rfl rfl
theorem tb_174 : (Jvm.Cond.instanceMethod ⟨"java/lang/String", "coder", "()B"⟩) ∈ lw_gd := tb_in1 (i := 174) rfl rfl
theorem tb_175 : (Jvm.Cond.selects "java/lang/String" ⟨"java/lang/String", "coder", "()B"⟩ ⟨"java/lang/String", "coder", "()B"⟩) ∈ lw_gd := tb_in1 (i := 175) rfl rfl
theorem tb_176 : (Jvm.Cond.code ⟨"java/lang/String", "coder", "()B"⟩ prog_17_method_152_code 1 (Option.some Jvm.ClassFile.FieldType.byte)) ∈ lw_gd := tb_in1 (i := 176) rfl rfl
theorem tb_177 : (Jvm.Cond.fieldLink "java/lang/String" 38 "java/lang/String" "COMPACT_STRINGS" "Z") ∈ lw_gd := tb_in1 (i := 177) rfl rfl
theorem tb_179 : (Jvm.Cond.methodLink "MedalBoard$Tape" 52 ⟨"java/lang/String", "charAt", "(I)C"⟩) ∈ lw_gd := tb_in1 (i := 179) rfl rfl
theorem tb_180 : (Jvm.Cond.instanceMethod ⟨"java/lang/String", "charAt", "(I)C"⟩) ∈ lw_gd := tb_in1 (i := 180) rfl rfl
theorem tb_181 : (Jvm.Cond.selects "java/lang/String" ⟨"java/lang/String", "charAt", "(I)C"⟩ ⟨"java/lang/String", "charAt", "(I)C"⟩) ∈ lw_gd := tb_in1 (i := 181) rfl rfl
theorem tb_182 : (Jvm.Cond.code ⟨"java/lang/String", "charAt", "(I)C"⟩ prog_17_method_56_code 2 (Option.some Jvm.ClassFile.FieldType.char)) ∈ lw_gd := tb_in1 (i := 182) rfl rfl
theorem tb_183 : (Jvm.Cond.methodLink "java/lang/String" 492 ⟨"java/lang/String", "isLatin1", "()Z"⟩) ∈ lw_gd := tb_in1 (i := 183) rfl rfl
theorem tb_184 : (Jvm.Cond.instanceMethod ⟨"java/lang/String", "isLatin1", "()Z"⟩) ∈ lw_gd := tb_in1 (i := 184) rfl rfl
theorem tb_185 : (Jvm.Cond.selects "java/lang/String" ⟨"java/lang/String", "isLatin1", "()Z"⟩ ⟨"java/lang/String", "isLatin1", "()Z"⟩) ∈ lw_gd := tb_in1 (i := 185) rfl rfl
theorem tb_186 : (Jvm.Cond.code ⟨"java/lang/String", "isLatin1", "()Z"⟩ prog_17_method_154_code 1 (Option.some Jvm.ClassFile.FieldType.boolean)) ∈ lw_gd := tb_in1 (i := 186) rfl rfl
theorem tb_187 : (Jvm.Cond.methodLink "java/lang/String" 495 ⟨"java/lang/StringLatin1", "charAt", "([BI)C"⟩) ∈ lw_gd := tb_in1 (i := 187) rfl rfl
theorem tb_188 : (Jvm.Cond.static ⟨"java/lang/StringLatin1", "charAt", "([BI)C"⟩) ∈ lw_gd := tb_in1 (i := 188) rfl rfl
theorem tb_189 : (Jvm.Cond.code ⟨"java/lang/StringLatin1", "charAt", "([BI)C"⟩ prog_18_method_2_code 2 (Option.some Jvm.ClassFile.FieldType.char)) ∈ lw_gd := tb_in1 (i := 189) rfl rfl
theorem tb_190 : (Jvm.Cond.methodLink "java/lang/StringLatin1" 9 ⟨"java/lang/String", "checkIndex", "(II)V"⟩) ∈ lw_gd := tb_in1 (i := 190) rfl rfl
theorem tb_191 : (Jvm.Cond.static ⟨"java/lang/String", "checkIndex", "(II)V"⟩) ∈ lw_gd := tb_in1 (i := 191) rfl rfl
theorem tb_192 : (Jvm.Cond.code ⟨"java/lang/String", "checkIndex", "(II)V"⟩ prog_17_method_155_code 2 (Option.none : Option Jvm.ClassFile.FieldType)) ∈ lw_gd := tb_in1 (i := 192) rfl rfl
theorem tb_193 : (Jvm.Cond.fieldLink "java/lang/String" 1053 "jdk/internal/util/Preconditions" "SIOOBE_FORMATTER" "Ljava/util/function/BiFunction;") ∈ lw_gd := tb_in1 (i := 193) rfl rfl
theorem tb_195 : (Jvm.Cond.methodLink "java/lang/String" 1059 ⟨"jdk/internal/util/Preconditions", "checkIndex", "(IILjava/util/function/BiFunction;)I"⟩) ∈ lw_gd := tb_in1 (i := 195) rfl rfl
theorem tb_196 : (Jvm.Cond.static ⟨"jdk/internal/util/Preconditions", "checkIndex", "(IILjava/util/function/BiFunction;)I"⟩) ∈ lw_gd := tb_in1 (i := 196) rfl rfl
theorem tb_197 : (Jvm.Cond.code ⟨"jdk/internal/util/Preconditions", "checkIndex", "(IILjava/util/function/BiFunction;)I"⟩ prog_22_method_11_code 3 (Option.some Jvm.ClassFile.FieldType.int)) ∈ lw_gd := tb_in1 (i := 197) rfl rfl
theorem tb_198 : (Jvm.Cond.methodLink "java/lang/String" 498 ⟨"java/lang/StringUTF16", "charAt", "([BI)C"⟩) ∈ lw_gd := tb_in1 (i := 198) rfl rfl
theorem tb_199 : (Jvm.Cond.static ⟨"java/lang/StringUTF16", "charAt", "([BI)C"⟩) ∈ lw_gd := tb_in1 (i := 199) rfl rfl
theorem tb_200 : (Jvm.Cond.code ⟨"java/lang/StringUTF16", "charAt", "([BI)C"⟩ prog_19_method_83_code 2 (Option.some Jvm.ClassFile.FieldType.char)) ∈ lw_gd := tb_in1 (i := 200) rfl rfl
theorem tb_201 : (Jvm.Cond.methodLink "java/lang/StringUTF16" 67 ⟨"java/lang/StringUTF16", "checkIndex", "(I[B)V"⟩) ∈ lw_gd := tb_in1 (i := 201) rfl rfl
theorem tb_202 : (Jvm.Cond.static ⟨"java/lang/StringUTF16", "checkIndex", "(I[B)V"⟩) ∈ lw_gd := tb_in1 (i := 202) rfl rfl
theorem tb_203 : (Jvm.Cond.code ⟨"java/lang/StringUTF16", "checkIndex", "(I[B)V"⟩ prog_19_method_91_code 2 (Option.none : Option Jvm.ClassFile.FieldType)) ∈ lw_gd := tb_in1 (i := 203) rfl rfl
theorem tb_204 : (Jvm.Cond.methodLink "java/lang/StringUTF16" 48 ⟨"java/lang/StringUTF16", "length", "([B)I"⟩) ∈ lw_gd := tb_in1 (i := 204) rfl rfl
theorem tb_205 : (Jvm.Cond.static ⟨"java/lang/StringUTF16", "length", "([B)I"⟩) ∈ lw_gd := tb_in1 (i := 205) rfl rfl
theorem tb_206 : (Jvm.Cond.code ⟨"java/lang/StringUTF16", "length", "([B)I"⟩ prog_19_method_6_code 1 (Option.some Jvm.ClassFile.FieldType.int)) ∈ lw_gd := tb_in1 (i := 206) rfl rfl
theorem tb_207 : (Jvm.Cond.methodLink "java/lang/StringUTF16" 414 ⟨"java/lang/String", "checkIndex", "(II)V"⟩) ∈ lw_gd := tb_in1 (i := 207) rfl rfl
theorem tb_208 : (Jvm.Cond.methodLink "java/lang/StringUTF16" 71 ⟨"java/lang/StringUTF16", "getChar", "([BI)C"⟩) ∈ lw_gd := tb_in1 (i := 208) rfl rfl
theorem tb_209 : (Jvm.Cond.static ⟨"java/lang/StringUTF16", "getChar", "([BI)C"⟩) ∈ lw_gd := tb_in1 (i := 209) rfl rfl
theorem tb_210 : (Jvm.Cond.code ⟨"java/lang/StringUTF16", "getChar", "([BI)C"⟩ prog_19_method_5_code 2 (Option.some Jvm.ClassFile.FieldType.char)) ∈ lw_gd := tb_in1 (i := 210) rfl rfl
theorem tb_211 : (Jvm.Cond.fieldLink "java/lang/StringUTF16" 44 "java/lang/StringUTF16" "$assertionsDisabled" "Z") ∈ lw_gd := tb_in1 (i := 211) rfl rfl
theorem tb_213 : (Jvm.Cond.fieldLink "java/lang/StringUTF16" 59 "java/lang/StringUTF16" "HI_BYTE_SHIFT" "I") ∈ lw_gd := tb_in1 (i := 213) rfl rfl
theorem tb_215 : (Jvm.Cond.fieldLink "java/lang/StringUTF16" 63 "java/lang/StringUTF16" "LO_BYTE_SHIFT" "I") ∈ lw_gd := tb_in1 (i := 215) rfl rfl
theorem tb_217 : (Jvm.Cond.constantLong "MedalBoard$Tape" 56 32) ∈ lw_gd := tb_in1 (i := 217) rfl rfl
theorem tb_218 : (Jvm.Cond.fieldLink "MedalBoard$Tape" 9 "MedalBoard$Tape" "bytes" "[B") ∈ lw_gd := tb_in1 (i := 218) rfl rfl
theorem tb_219 : (Jvm.Cond.fieldLink "MedalBoard$Tape" 15 "MedalBoard$Tape" "wordCodes" "[J") ∈ lw_gd := tb_in1 (i := 219) rfl rfl
theorem tb_220 : (Jvm.Cond.fieldLink "MedalBoard$Tape" 19 "MedalBoard$Tape" "length" "I") ∈ lw_gd := tb_in1 (i := 220) rfl rfl
theorem tb_221 : (Jvm.Cond.fieldLink "MedalBoard" 174 "MedalBoard$Tape" "length" "I") ∈ lw_gd := tb_in1 (i := 221) rfl rfl
theorem tb_222 : (Jvm.Cond.fieldLink "MedalBoard$Tape" 23 "MedalBoard$Tape" "kind" "I") ∈ lw_gd := tb_in1 (i := 222) rfl rfl
theorem tb_223 : (Jvm.Cond.fieldLink "MedalBoard$Reader" 32 "MedalBoard$Tape" "kind" "I") ∈ lw_gd := tb_in1 (i := 223) rfl rfl
theorem tb_224 : (Jvm.Cond.fieldLink "MedalBoard$Tape" 26 "MedalBoard$Tape" "start" "I") ∈ lw_gd := tb_in1 (i := 224) rfl rfl
theorem tb_225 : (Jvm.Cond.fieldLink "MedalBoard$Reader" 35 "MedalBoard$Tape" "start" "I") ∈ lw_gd := tb_in1 (i := 225) rfl rfl
theorem tb_226 : (Jvm.Cond.fieldLink "MedalBoard$Tape" 29 "MedalBoard$Tape" "value" "I") ∈ lw_gd := tb_in1 (i := 226) rfl rfl
theorem tb_227 : (Jvm.Cond.fieldLink "MedalBoard$Reader" 38 "MedalBoard$Tape" "value" "I") ∈ lw_gd := tb_in1 (i := 227) rfl rfl
theorem tb_228 : (Jvm.Cond.fieldLink "MedalBoard$WarReader" 123 "MedalBoard$Tape" "value" "I") ∈ lw_gd := tb_in1 (i := 228) rfl rfl
theorem tb_229 : (Jvm.Cond.fieldLink "MedalBoard$Tape" 32 "MedalBoard$Tape" "word" "I") ∈ lw_gd := tb_in1 (i := 229) rfl rfl
theorem tb_230 : (Jvm.Cond.fieldLink "MedalBoard$ArmyReader" 41 "MedalBoard$Tape" "word" "I") ∈ lw_gd := tb_in1 (i := 230) rfl rfl
theorem tb_231 : (Jvm.Cond.fieldLink "MedalBoard$WarReader" 50 "MedalBoard$Tape" "word" "I") ∈ lw_gd := tb_in1 (i := 231) rfl rfl
theorem tb_232 : (Jvm.Cond.fieldLink "MedalBoard$Reader" 48 "MedalBoard$Tape" "word" "I") ∈ lw_gd := tb_in1 (i := 232) rfl rfl
theorem tb_233 : (Jvm.Cond.fieldLink "MedalBoard$Tape" 35 "MedalBoard$Tape" "name" "J") ∈ lw_gd := tb_in1 (i := 233) rfl rfl
theorem tb_234 : (Jvm.Cond.fieldLink "MedalBoard$ArmyReader" 82 "MedalBoard$Tape" "name" "J") ∈ lw_gd := tb_in1 (i := 234) rfl rfl
theorem tb_235 : (Jvm.Cond.fieldLink "MedalBoard$Reader" 55 "MedalBoard$Tape" "name" "J") ∈ lw_gd := tb_in1 (i := 235) rfl rfl
theorem tb_236 : (Jvm.Cond.fieldLink "MedalBoard$Tape" 39 "MedalBoard$Tape" "end" "I") ∈ lw_gd := tb_in1 (i := 236) rfl rfl
theorem tb_237 : (Jvm.Cond.fieldLink "MedalBoard$Tape" 42 "MedalBoard$Tape" "at" "I") ∈ lw_gd := tb_in1 (i := 237) rfl rfl
theorem tb_259 : (Jvm.Cond.arrayClass Jvm.ClassFile.FieldType.byte) ∈ lw_gd := tb_in2 (i := 19) rfl rfl
theorem tb_260 : (Jvm.Cond.fieldLink "MedalBoard$Reader" 12 "MedalBoard$Reader" "tape" "LMedalBoard$Tape;") ∈ lw_gd := tb_in2 (i := 20) rfl rfl
theorem tb_261 : (Jvm.Cond.fieldLink "MedalBoard$ArmyReader" 37 "MedalBoard$Reader" "tape" "LMedalBoard$Tape;") ∈ lw_gd := tb_in2 (i := 21) rfl rfl
theorem tb_262 : (Jvm.Cond.fieldLink "MedalBoard$WarReader" 46 "MedalBoard$Reader" "tape" "LMedalBoard$Tape;") ∈ lw_gd := tb_in2 (i := 22) rfl rfl
theorem tb_263 : (Jvm.Cond.fieldLink "MedalBoard" 164 "MedalBoard$Reader" "tape" "LMedalBoard$Tape;") ∈ lw_gd := tb_in2 (i := 23) rfl rfl
theorem tb_264 : (Jvm.Cond.fieldLink "MedalBoard$Reader" 18 "MedalBoard$Reader" "fault" "I") ∈ lw_gd := tb_in2 (i := 24) rfl rfl
theorem tb_265 : (Jvm.Cond.fieldLink "MedalBoard" 209 "MedalBoard$Reader" "fault" "I") ∈ lw_gd := tb_in2 (i := 25) rfl rfl
theorem tb_266 : (Jvm.Cond.fieldLink "MedalBoard$Reader" 22 "MedalBoard$Reader" "place" "I") ∈ lw_gd := tb_in2 (i := 26) rfl rfl
theorem tb_267 : (Jvm.Cond.fieldLink "MedalBoard" 212 "MedalBoard$Reader" "place" "I") ∈ lw_gd := tb_in2 (i := 27) rfl rfl
theorem tb_275 : (Jvm.Cond.classLink "MedalBoard" 53 "MedalBoard$ArmyReader") ∈ lw_gd := tb_in2 (i := 35) rfl rfl
theorem tb_276 : (Jvm.Cond.instantiable "MedalBoard$ArmyReader" 4) ∈ lw_gd := tb_in2 (i := 36) rfl rfl
theorem tb_277 : (Jvm.Cond.methodLink "MedalBoard" 55 ⟨"MedalBoard$ArmyReader", "<init>", "(LMedalBoard$Reader;LMedalBoard$Army;)V"⟩) ∈ lw_gd := tb_in2 (i := 37) rfl rfl
theorem tb_278 : (Jvm.Cond.instanceMethod ⟨"MedalBoard$ArmyReader", "<init>", "(LMedalBoard$Reader;LMedalBoard$Army;)V"⟩) ∈ lw_gd := tb_in2 (i := 38) rfl rfl
theorem tb_279 : (Jvm.Cond.code ⟨"MedalBoard$ArmyReader", "<init>", "(LMedalBoard$Reader;LMedalBoard$Army;)V"⟩ prog_3_method_1_code 3 (Option.none : Option Jvm.ClassFile.FieldType)) ∈ lw_gd := tb_in2 (i := 39) rfl rfl
theorem tb_280 : (Jvm.Cond.methodLink "MedalBoard$ArmyReader" 3 ⟨"java/lang/Object", "<init>", "()V"⟩) ∈ lw_gd := tb_in2 (i := 40) rfl rfl
theorem tb_281 : (Jvm.Cond.fieldLink "MedalBoard$ArmyReader" 18 "MedalBoard$ArmyReader" "in" "LMedalBoard$Reader;") ∈ lw_gd := tb_in2 (i := 41) rfl rfl
theorem tb_282 : (Jvm.Cond.fieldLink "MedalBoard$ArmyReader" 22 "MedalBoard$ArmyReader" "army" "LMedalBoard$Army;") ∈ lw_gd := tb_in2 (i := 42) rfl rfl
theorem tb_283 : (Jvm.Cond.fieldLink "MedalBoard$ArmyReader" 9 "MedalBoard$ArmyReader" "prideTold" "Z") ∈ lw_gd := tb_in2 (i := 43) rfl rfl
theorem tb_284 : (Jvm.Cond.fieldLink "MedalBoard$ArmyReader" 15 "MedalBoard$ArmyReader" "quotaTold" "Z") ∈ lw_gd := tb_in2 (i := 44) rfl rfl
theorem tb_294 : (Jvm.Cond.classLink "MedalBoard" 62 "MedalBoard$WarReader") ∈ lw_gd := tb_in2 (i := 54) rfl rfl
theorem tb_295 : (Jvm.Cond.instantiable "MedalBoard$WarReader" 5) ∈ lw_gd := tb_in2 (i := 55) rfl rfl
theorem tb_296 : (Jvm.Cond.methodLink "MedalBoard" 64 ⟨"MedalBoard$WarReader", "<init>", "(LMedalBoard$Reader;LMedalBoard$War;LMedalBoard$Army;)V"⟩) ∈ lw_gd := tb_in2 (i := 56) rfl rfl
theorem tb_297 : (Jvm.Cond.instanceMethod ⟨"MedalBoard$WarReader", "<init>", "(LMedalBoard$Reader;LMedalBoard$War;LMedalBoard$Army;)V"⟩) ∈ lw_gd := tb_in2 (i := 57) rfl rfl
theorem tb_298 : (Jvm.Cond.code ⟨"MedalBoard$WarReader", "<init>", "(LMedalBoard$Reader;LMedalBoard$War;LMedalBoard$Army;)V"⟩ prog_12_method_1_code 4 (Option.none : Option Jvm.ClassFile.FieldType)) ∈ lw_gd := tb_in2 (i := 58) rfl rfl
theorem tb_299 : (Jvm.Cond.methodLink "MedalBoard$WarReader" 3 ⟨"java/lang/Object", "<init>", "()V"⟩) ∈ lw_gd := tb_in2 (i := 59) rfl rfl
theorem tb_300 : (Jvm.Cond.fieldLink "MedalBoard$WarReader" 19 "MedalBoard$WarReader" "in" "LMedalBoard$Reader;") ∈ lw_gd := tb_in2 (i := 60) rfl rfl
theorem tb_301 : (Jvm.Cond.fieldLink "MedalBoard$WarReader" 23 "MedalBoard$WarReader" "war" "LMedalBoard$War;") ∈ lw_gd := tb_in2 (i := 61) rfl rfl
theorem tb_302 : (Jvm.Cond.fieldLink "MedalBoard$WarReader" 27 "MedalBoard$WarReader" "army" "LMedalBoard$Army;") ∈ lw_gd := tb_in2 (i := 62) rfl rfl
theorem tb_303 : (Jvm.Cond.fieldLink "MedalBoard$WarReader" 9 "MedalBoard$WarReader" "open" "[I") ∈ lw_gd := tb_in2 (i := 63) rfl rfl
theorem tb_304 : (Jvm.Cond.fieldLink "MedalBoard$WarReader" 15 "MedalBoard$WarReader" "depth" "I") ∈ lw_gd := tb_in2 (i := 64) rfl rfl
theorem tb_318 : (Jvm.Cond.classLink "MedalBoard" 82 "MedalBoard$Campaign") ∈ lw_gd := tb_in2 (i := 78) rfl rfl
theorem tb_319 : (Jvm.Cond.instantiable "MedalBoard$Campaign" 11) ∈ lw_gd := tb_in2 (i := 79) rfl rfl
theorem tb_320 : (Jvm.Cond.methodLink "MedalBoard" 84 ⟨"MedalBoard$Campaign", "<init>", "(LMedalBoard$Army;LMedalBoard$War;)V"⟩) ∈ lw_gd := tb_in2 (i := 80) rfl rfl
theorem tb_321 : (Jvm.Cond.instanceMethod ⟨"MedalBoard$Campaign", "<init>", "(LMedalBoard$Army;LMedalBoard$War;)V"⟩) ∈ lw_gd := tb_in2 (i := 81) rfl rfl
theorem tb_322 : (Jvm.Cond.code ⟨"MedalBoard$Campaign", "<init>", "(LMedalBoard$Army;LMedalBoard$War;)V"⟩ prog_4_method_1_code 3 (Option.none : Option Jvm.ClassFile.FieldType)) ∈ lw_gd := tb_in2 (i := 82) rfl rfl
theorem tb_323 : (Jvm.Cond.methodLink "MedalBoard$Campaign" 3 ⟨"java/lang/Object", "<init>", "()V"⟩) ∈ lw_gd := tb_in2 (i := 83) rfl rfl
theorem tb_324 : (Jvm.Cond.fieldLink "MedalBoard$Campaign" 9 "MedalBoard$Campaign" "roundsLeft" "[I") ∈ lw_gd := tb_in2 (i := 84) rfl rfl
theorem tb_325 : (Jvm.Cond.fieldLink "MedalBoard$Campaign" 41 "MedalBoard$Campaign" "army" "LMedalBoard$Army;") ∈ lw_gd := tb_in2 (i := 85) rfl rfl
theorem tb_326 : (Jvm.Cond.fieldLink "MedalBoard$Campaign" 45 "MedalBoard$Campaign" "war" "LMedalBoard$War;") ∈ lw_gd := tb_in2 (i := 86) rfl rfl
theorem tb_327 : (Jvm.Cond.fieldLink "MedalBoard$Campaign" 15 "MedalBoard$Campaign" "drawn" "I") ∈ lw_gd := tb_in2 (i := 87) rfl rfl
theorem tb_328 : (Jvm.Cond.fieldLink "MedalBoard$Campaign" 19 "MedalBoard$Campaign" "fought" "Z") ∈ lw_gd := tb_in2 (i := 88) rfl rfl
theorem tb_329 : (Jvm.Cond.fieldLink "MedalBoard" 409 "MedalBoard$Campaign" "fought" "Z") ∈ lw_gd := tb_in2 (i := 89) rfl rfl
theorem tb_330 : (Jvm.Cond.fieldLink "MedalBoard$Campaign" 23 "MedalBoard$Campaign" "steps" "I") ∈ lw_gd := tb_in2 (i := 90) rfl rfl
theorem tb_331 : (Jvm.Cond.fieldLink "MedalBoard" 408 "MedalBoard$Campaign" "steps" "I") ∈ lw_gd := tb_in2 (i := 91) rfl rfl
theorem tb_332 : (Jvm.Cond.fieldLink "MedalBoard$Campaign" 26 "MedalBoard$Campaign" "missed" "I") ∈ lw_gd := tb_in2 (i := 92) rfl rfl
theorem tb_333 : (Jvm.Cond.fieldLink "MedalBoard$Campaign" 29 "MedalBoard$Campaign" "stood" "I") ∈ lw_gd := tb_in2 (i := 93) rfl rfl
theorem tb_334 : (Jvm.Cond.fieldLink "MedalBoard$Campaign" 32 "MedalBoard$Campaign" "fled" "I") ∈ lw_gd := tb_in2 (i := 94) rfl rfl
theorem tb_335 : (Jvm.Cond.fieldLink "MedalBoard$Campaign" 35 "MedalBoard$Campaign" "pinned" "I") ∈ lw_gd := tb_in2 (i := 95) rfl rfl
theorem tb_336 : (Jvm.Cond.fieldLink "MedalBoard$Campaign" 38 "MedalBoard$Campaign" "left" "I") ∈ lw_gd := tb_in2 (i := 96) rfl rfl
theorem tb_360 : (Jvm.Cond.classLink "MedalBoard" 94 "MedalBoard$Foresight") ∈ lw_gd := tb_in2 (i := 120) rfl rfl
theorem tb_361 : (Jvm.Cond.instantiable "MedalBoard$Foresight" 3) ∈ lw_gd := tb_in2 (i := 121) rfl rfl
theorem tb_363 : (Jvm.Cond.instanceMethod ⟨"MedalBoard$Foresight", "<init>", "()V"⟩) ∈ lw_gd := tb_in2 (i := 123) rfl rfl
theorem tb_364 : (Jvm.Cond.code ⟨"MedalBoard$Foresight", "<init>", "()V"⟩ prog_6_method_1_code 1 (Option.none : Option Jvm.ClassFile.FieldType)) ∈ lw_gd := tb_in2 (i := 124) rfl rfl
theorem tb_365 : (Jvm.Cond.methodLink "MedalBoard$Foresight" 3 ⟨"java/lang/Object", "<init>", "()V"⟩) ∈ lw_gd := tb_in2 (i := 125) rfl rfl
theorem tb_366 : (Jvm.Cond.classLink "MedalBoard$Foresight" 9 "MedalBoard$Army") ∈ lw_gd := tb_in2 (i := 126) rfl rfl
theorem tb_368 : (Jvm.Cond.fieldLink "MedalBoard$Foresight" 12 "MedalBoard$Foresight" "men" "LMedalBoard$Army;") ∈ lw_gd := tb_in2 (i := 128) rfl rfl
theorem tb_369 : (Jvm.Cond.fieldLink "MedalBoard$Foresight" 18 "MedalBoard$Foresight" "sizes" "[I") ∈ lw_gd := tb_in2 (i := 129) rfl rfl
theorem tb_370 : (Jvm.Cond.fieldLink "MedalBoard$Foresight" 22 "MedalBoard$Foresight" "dangers" "I") ∈ lw_gd := tb_in2 (i := 130) rfl rfl
theorem tb_378 : (Jvm.Cond.classLink "MedalBoard" 101 "MedalBoard$Pairs") ∈ lw_gd := tb_in2 (i := 138) rfl rfl
theorem tb_379 : (Jvm.Cond.instantiable "MedalBoard$Pairs" 7) ∈ lw_gd := tb_in2 (i := 139) rfl rfl
theorem tb_380 : (Jvm.Cond.methodLink "MedalBoard" 103 ⟨"MedalBoard$Pairs", "<init>", "(LMedalBoard$Army;)V"⟩) ∈ lw_gd := tb_in2 (i := 140) rfl rfl
theorem tb_381 : (Jvm.Cond.instanceMethod ⟨"MedalBoard$Pairs", "<init>", "(LMedalBoard$Army;)V"⟩) ∈ lw_gd := tb_in2 (i := 141) rfl rfl
theorem tb_382 : (Jvm.Cond.code ⟨"MedalBoard$Pairs", "<init>", "(LMedalBoard$Army;)V"⟩ prog_7_method_1_code 2 (Option.none : Option Jvm.ClassFile.FieldType)) ∈ lw_gd := tb_in2 (i := 142) rfl rfl
theorem tb_383 : (Jvm.Cond.methodLink "MedalBoard$Pairs" 3 ⟨"java/lang/Object", "<init>", "()V"⟩) ∈ lw_gd := tb_in2 (i := 143) rfl rfl
theorem tb_384 : (Jvm.Cond.fieldLink "MedalBoard$Pairs" 9 "MedalBoard$Pairs" "heroes" "[I") ∈ lw_gd := tb_in2 (i := 144) rfl rfl
theorem tb_385 : (Jvm.Cond.fieldLink "MedalBoard$Pairs" 15 "MedalBoard$Pairs" "tried" "[I") ∈ lw_gd := tb_in2 (i := 145) rfl rfl
theorem tb_386 : (Jvm.Cond.fieldLink "MedalBoard$Pairs" 18 "MedalBoard$Pairs" "chosen" "[I") ∈ lw_gd := tb_in2 (i := 146) rfl rfl
theorem tb_387 : (Jvm.Cond.fieldLink "MedalBoard$Pairs" 31 "MedalBoard$Pairs" "army" "LMedalBoard$Army;") ∈ lw_gd := tb_in2 (i := 147) rfl rfl
theorem tb_388 : (Jvm.Cond.fieldLink "MedalBoard$Pairs" 21 "MedalBoard$Pairs" "heroCount" "I") ∈ lw_gd := tb_in2 (i := 148) rfl rfl
theorem tb_389 : (Jvm.Cond.fieldLink "MedalBoard$Pairs" 25 "MedalBoard$Pairs" "couples" "I") ∈ lw_gd := tb_in2 (i := 149) rfl rfl
theorem tb_390 : (Jvm.Cond.fieldLink "MedalBoard" 370 "MedalBoard$Pairs" "couples" "I") ∈ lw_gd := tb_in2 (i := 150) rfl rfl
theorem tb_391 : (Jvm.Cond.fieldLink "MedalBoard$Pairs" 28 "MedalBoard$Pairs" "fondest" "I") ∈ lw_gd := tb_in2 (i := 151) rfl rfl
theorem tb_392 : (Jvm.Cond.fieldLink "MedalBoard" 373 "MedalBoard$Pairs" "fondest" "I") ∈ lw_gd := tb_in2 (i := 152) rfl rfl
theorem tb_408 : (Jvm.Cond.instantiable "MedalBoard$Tray" 4) ∈ lw_gd := tb_in2 (i := 168) rfl rfl
theorem tb_410 : (Jvm.Cond.instanceMethod ⟨"MedalBoard$Tray", "<init>", "()V"⟩) ∈ lw_gd := tb_in2 (i := 170) rfl rfl
theorem tb_411 : (Jvm.Cond.code ⟨"MedalBoard$Tray", "<init>", "()V"⟩ prog_10_method_1_code 1 (Option.none : Option Jvm.ClassFile.FieldType)) ∈ lw_gd := tb_in2 (i := 171) rfl rfl
theorem tb_412 : (Jvm.Cond.methodLink "MedalBoard$Tray" 3 ⟨"java/lang/Object", "<init>", "()V"⟩) ∈ lw_gd := tb_in2 (i := 172) rfl rfl
theorem tb_413 : (Jvm.Cond.fieldLink "MedalBoard$Tray" 9 "MedalBoard$Tray" "row" "[J") ∈ lw_gd := tb_in2 (i := 173) rfl rfl
theorem tb_414 : (Jvm.Cond.fieldLink "MedalBoard" 154 "MedalBoard$Tray" "row" "[J") ∈ lw_gd := tb_in2 (i := 174) rfl rfl
theorem tb_415 : (Jvm.Cond.fieldLink "MedalBoard$Tray" 15 "MedalBoard$Tray" "missing" "Z") ∈ lw_gd := tb_in2 (i := 175) rfl rfl
theorem tb_416 : (Jvm.Cond.fieldLink "MedalBoard" 131 "MedalBoard$Tray" "missing" "Z") ∈ lw_gd := tb_in2 (i := 176) rfl rfl
theorem tb_417 : (Jvm.Cond.fieldLink "MedalBoard$Tray" 19 "MedalBoard$Tray" "sort" "I") ∈ lw_gd := tb_in2 (i := 177) rfl rfl
theorem tb_418 : (Jvm.Cond.fieldLink "MedalBoard" 151 "MedalBoard$Tray" "sort" "I") ∈ lw_gd := tb_in2 (i := 178) rfl rfl
theorem tb_419 : (Jvm.Cond.fieldLink "MedalBoard$Tray" 23 "MedalBoard$Tray" "many" "I") ∈ lw_gd := tb_in2 (i := 179) rfl rfl
theorem tb_429 : (Jvm.Cond.fieldLink "MedalBoard" 9 "MedalBoard" "latestStatus" "I") ∈ lw_gd := tb_in2 (i := 189) rfl rfl
theorem tb_430 : (Jvm.Cond.fieldLink "MedalBoard" 13 "MedalBoard" "fractionTop" "J") ∈ lw_gd := tb_in2 (i := 190) rfl rfl
theorem tb_431 : (Jvm.Cond.fieldLink "MedalBoard" 17 "MedalBoard" "fractionBottom" "J") ∈ lw_gd := tb_in2 (i := 191) rfl rfl
theorem tb_432 : (Jvm.Cond.fieldLink "MedalBoard" 22 "MedalBoard" "trays" "[LMedalBoard$Tray;") ∈ lw_gd := tb_in2 (i := 192) rfl rfl
theorem tb_433 : (Jvm.Cond.fieldLink "MedalBoard" 29 "MedalBoard" "army" "LMedalBoard$Army;") ∈ lw_gd := tb_in2 (i := 193) rfl rfl
theorem tb_434 : (Jvm.Cond.fieldLink "MedalBoard" 36 "MedalBoard" "war" "LMedalBoard$War;") ∈ lw_gd := tb_in2 (i := 194) rfl rfl
theorem tb_435 : (Jvm.Cond.fieldLink "MedalBoard" 40 "MedalBoard" "draftArmy" "LMedalBoard$Army;") ∈ lw_gd := tb_in2 (i := 195) rfl rfl
theorem tb_436 : (Jvm.Cond.fieldLink "MedalBoard" 43 "MedalBoard" "draftWar" "LMedalBoard$War;") ∈ lw_gd := tb_in2 (i := 196) rfl rfl
theorem tb_437 : (Jvm.Cond.fieldLink "MedalBoard" 49 "MedalBoard" "reader" "LMedalBoard$Reader;") ∈ lw_gd := tb_in2 (i := 197) rfl rfl
theorem tb_438 : (Jvm.Cond.fieldLink "MedalBoard" 58 "MedalBoard" "armyReader" "LMedalBoard$ArmyReader;") ∈ lw_gd := tb_in2 (i := 198) rfl rfl
theorem tb_439 : (Jvm.Cond.fieldLink "MedalBoard" 67 "MedalBoard" "warReader" "LMedalBoard$WarReader;") ∈ lw_gd := tb_in2 (i := 199) rfl rfl
theorem tb_440 : (Jvm.Cond.fieldLink "MedalBoard" 71 "MedalBoard" "markedArmies" "[LMedalBoard$Army;") ∈ lw_gd := tb_in2 (i := 200) rfl rfl
theorem tb_441 : (Jvm.Cond.fieldLink "MedalBoard" 75 "MedalBoard" "markedWars" "[LMedalBoard$War;") ∈ lw_gd := tb_in2 (i := 201) rfl rfl
theorem tb_442 : (Jvm.Cond.fieldLink "MedalBoard" 79 "MedalBoard" "marks" "I") ∈ lw_gd := tb_in2 (i := 202) rfl rfl
theorem tb_443 : (Jvm.Cond.fieldLink "MedalBoard" 87 "MedalBoard" "latest" "LMedalBoard$Campaign;") ∈ lw_gd := tb_in2 (i := 203) rfl rfl
theorem tb_444 : (Jvm.Cond.fieldLink "MedalBoard" 91 "MedalBoard" "trial" "LMedalBoard$Campaign;") ∈ lw_gd := tb_in2 (i := 204) rfl rfl
theorem tb_445 : (Jvm.Cond.fieldLink "MedalBoard" 97 "MedalBoard" "foresight" "LMedalBoard$Foresight;") ∈ lw_gd := tb_in2 (i := 205) rfl rfl
theorem tb_446 : (Jvm.Cond.fieldLink "MedalBoard" 106 "MedalBoard" "pairs" "LMedalBoard$Pairs;") ∈ lw_gd := tb_in2 (i := 206) rfl rfl
theorem tb_484 : (Jvm.Cond.methodLink "MedalBoardLaw" 13 ⟨"MedalBoard", "status", "()I"⟩) ∈ lw_gd := tb_in3 (i := 4) rfl rfl
theorem tb_485 : (Jvm.Cond.instanceMethod ⟨"MedalBoard", "status", "()I"⟩) ∈ lw_gd := tb_in3 (i := 5) rfl rfl
theorem tb_486 : (Jvm.Cond.selects "MedalBoard" ⟨"MedalBoard", "status", "()I"⟩ ⟨"MedalBoard", "status", "()I"⟩) ∈ lw_gd := tb_in3 (i := 6) rfl rfl
theorem tb_487 : (Jvm.Cond.code ⟨"MedalBoard", "status", "()I"⟩ prog_1_method_2_code 1 (Option.some Jvm.ClassFile.FieldType.int)) ∈ lw_gd := tb_in3 (i := 7) rfl rfl
theorem tb_488 : (Jvm.Cond.methodLink "MedalBoardLaw" 18 ⟨"MedalBoard", "top", "()J"⟩) ∈ lw_gd := tb_in3 (i := 8) rfl rfl
theorem tb_489 : (Jvm.Cond.instanceMethod ⟨"MedalBoard", "top", "()J"⟩) ∈ lw_gd := tb_in3 (i := 9) rfl rfl
theorem tb_490 : (Jvm.Cond.selects "MedalBoard" ⟨"MedalBoard", "top", "()J"⟩ ⟨"MedalBoard", "top", "()J"⟩) ∈ lw_gd := tb_in3 (i := 10) rfl rfl
theorem tb_491 : (Jvm.Cond.code ⟨"MedalBoard", "top", "()J"⟩ prog_1_method_3_code 1 (Option.some Jvm.ClassFile.FieldType.long)) ∈ lw_gd := tb_in3 (i := 11) rfl rfl
theorem tb_492 : (Jvm.Cond.methodLink "MedalBoardLaw" 23 ⟨"MedalBoard", "bottom", "()J"⟩) ∈ lw_gd := tb_in3 (i := 12) rfl rfl
theorem tb_493 : (Jvm.Cond.instanceMethod ⟨"MedalBoard", "bottom", "()J"⟩) ∈ lw_gd := tb_in3 (i := 13) rfl rfl
theorem tb_494 : (Jvm.Cond.selects "MedalBoard" ⟨"MedalBoard", "bottom", "()J"⟩ ⟨"MedalBoard", "bottom", "()J"⟩) ∈ lw_gd := tb_in3 (i := 14) rfl rfl
theorem tb_495 : (Jvm.Cond.code ⟨"MedalBoard", "bottom", "()J"⟩ prog_1_method_4_code 1 (Option.some Jvm.ClassFile.FieldType.long)) ∈ lw_gd := tb_in3 (i := 15) rfl rfl
theorem tb_496 : (Jvm.Cond.methodLink "MedalBoardLaw" 27 ⟨"MedalBoard", "tray", "(III)Z"⟩) ∈ lw_gd := tb_in3 (i := 16) rfl rfl
theorem tb_497 : (Jvm.Cond.instanceMethod ⟨"MedalBoard", "tray", "(III)Z"⟩) ∈ lw_gd := tb_in3 (i := 17) rfl rfl
theorem tb_498 : (Jvm.Cond.selects "MedalBoard" ⟨"MedalBoard", "tray", "(III)Z"⟩ ⟨"MedalBoard", "tray", "(III)Z"⟩) ∈ lw_gd := tb_in3 (i := 18) rfl rfl
theorem tb_499 : (Jvm.Cond.code ⟨"MedalBoard", "tray", "(III)Z"⟩ prog_1_method_5_code 5 (Option.some Jvm.ClassFile.FieldType.boolean)) ∈ lw_gd := tb_in3 (i := 19) rfl rfl
theorem tb_500 : (Jvm.Cond.methodLink "MedalBoard" 111 ⟨"MedalBoard", "trayAt", "(I)LMedalBoard$Tray;"⟩) ∈ lw_gd := tb_in3 (i := 20) rfl rfl
theorem tb_502 : (Jvm.Cond.instanceMethod ⟨"MedalBoard", "trayAt", "(I)LMedalBoard$Tray;"⟩) ∈ lw_gd := tb_in3 (i := 22) rfl rfl
theorem tb_503 : (Jvm.Cond.code ⟨"MedalBoard", "trayAt", "(I)LMedalBoard$Tray;"⟩ prog_1_method_61_code 2 (Option.some (Jvm.ClassFile.FieldType.object "MedalBoard$Tray"))) ∈ lw_gd := tb_in3 (i := 23) rfl rfl
theorem tb_504 : (Jvm.Cond.methodLink "MedalBoard" 115 ⟨"MedalBoard", "within", "(III)Z"⟩) ∈ lw_gd := tb_in3 (i := 24) rfl rfl
theorem tb_505 : (Jvm.Cond.static ⟨"MedalBoard", "within", "(III)Z"⟩) ∈ lw_gd := tb_in3 (i := 25) rfl rfl
theorem tb_506 : (Jvm.Cond.code ⟨"MedalBoard", "within", "(III)Z"⟩ prog_1_method_68_code 3 (Option.some Jvm.ClassFile.FieldType.boolean)) ∈ lw_gd := tb_in3 (i := 26) rfl rfl
theorem tb_507 : (Jvm.Cond.methodLink "MedalBoard" 119 ⟨"MedalBoard", "deny", "(I)Z"⟩) ∈ lw_gd := tb_in3 (i := 27) rfl rfl
theorem tb_509 : (Jvm.Cond.instanceMethod ⟨"MedalBoard", "deny", "(I)Z"⟩) ∈ lw_gd := tb_in3 (i := 29) rfl rfl
theorem tb_510 : (Jvm.Cond.code ⟨"MedalBoard", "deny", "(I)Z"⟩ prog_1_method_59_code 2 (Option.some Jvm.ClassFile.FieldType.boolean)) ∈ lw_gd := tb_in3 (i := 30) rfl rfl
theorem tb_511 : (Jvm.Cond.methodLink "MedalBoard" 123 ⟨"MedalBoard$Tray", "lay", "(II)V"⟩) ∈ lw_gd := tb_in3 (i := 31) rfl rfl
theorem tb_512 : (Jvm.Cond.instanceMethod ⟨"MedalBoard$Tray", "lay", "(II)V"⟩) ∈ lw_gd := tb_in3 (i := 32) rfl rfl
theorem tb_513 : (Jvm.Cond.selects "MedalBoard$Tray" ⟨"MedalBoard$Tray", "lay", "(II)V"⟩ ⟨"MedalBoard$Tray", "lay", "(II)V"⟩) ∈ lw_gd := tb_in3 (i := 33) rfl rfl
theorem tb_514 : (Jvm.Cond.code ⟨"MedalBoard$Tray", "lay", "(II)V"⟩ prog_10_method_2_code 3 (Option.none : Option Jvm.ClassFile.FieldType)) ∈ lw_gd := tb_in3 (i := 34) rfl rfl
theorem tb_515 : (Jvm.Cond.methodLink "MedalBoard$Tray" 26 ⟨"java/util/Arrays", "fill", "([JJ)V"⟩) ∈ lw_gd := tb_in3 (i := 35) rfl rfl
theorem tb_516 : (Jvm.Cond.static ⟨"java/util/Arrays", "fill", "([JJ)V"⟩) ∈ lw_gd := tb_in3 (i := 36) rfl rfl
theorem tb_517 : (Jvm.Cond.code ⟨"java/util/Arrays", "fill", "([JJ)V"⟩ prog_21_method_101_code 5 (Option.none : Option Jvm.ClassFile.FieldType)) ∈ lw_gd := tb_in3 (i := 37) rfl rfl
theorem tb_518 : (Jvm.Cond.methodLink "MedalBoard" 127 ⟨"MedalBoard", "allow", "()Z"⟩) ∈ lw_gd := tb_in3 (i := 38) rfl rfl
theorem tb_520 : (Jvm.Cond.instanceMethod ⟨"MedalBoard", "allow", "()Z"⟩) ∈ lw_gd := tb_in3 (i := 40) rfl rfl
theorem tb_521 : (Jvm.Cond.code ⟨"MedalBoard", "allow", "()Z"⟩ prog_1_method_58_code 1 (Option.some Jvm.ClassFile.FieldType.boolean)) ∈ lw_gd := tb_in3 (i := 41) rfl rfl
theorem tb_522 : (Jvm.Cond.methodLink "MedalBoardLaw" 34 ⟨"MedalBoard", "write", "(IIJ)Z"⟩) ∈ lw_gd := tb_in3 (i := 42) rfl rfl
theorem tb_523 : (Jvm.Cond.instanceMethod ⟨"MedalBoard", "write", "(IIJ)Z"⟩) ∈ lw_gd := tb_in3 (i := 43) rfl rfl
theorem tb_524 : (Jvm.Cond.selects "MedalBoard" ⟨"MedalBoard", "write", "(IIJ)Z"⟩ ⟨"MedalBoard", "write", "(IIJ)Z"⟩) ∈ lw_gd := tb_in3 (i := 44) rfl rfl
theorem tb_525 : (Jvm.Cond.code ⟨"MedalBoard", "write", "(IIJ)Z"⟩ prog_1_method_6_code 6 (Option.some Jvm.ClassFile.FieldType.boolean)) ∈ lw_gd := tb_in3 (i := 45) rfl rfl
theorem tb_526 : (Jvm.Cond.methodLink "MedalBoard" 135 ⟨"MedalBoard$Tray", "hasPlaces", "(II)Z"⟩) ∈ lw_gd := tb_in3 (i := 46) rfl rfl
theorem tb_527 : (Jvm.Cond.instanceMethod ⟨"MedalBoard$Tray", "hasPlaces", "(II)Z"⟩) ∈ lw_gd := tb_in3 (i := 47) rfl rfl
theorem tb_528 : (Jvm.Cond.selects "MedalBoard$Tray" ⟨"MedalBoard$Tray", "hasPlaces", "(II)Z"⟩ ⟨"MedalBoard$Tray", "hasPlaces", "(II)Z"⟩) ∈ lw_gd := tb_in3 (i := 48) rfl rfl
theorem tb_529 : (Jvm.Cond.code ⟨"MedalBoard$Tray", "hasPlaces", "(II)Z"⟩ prog_10_method_3_code 3 (Option.some Jvm.ClassFile.FieldType.boolean)) ∈ lw_gd := tb_in3 (i := 49) rfl rfl
theorem tb_530 : (Jvm.Cond.methodLink "MedalBoard" 139 ⟨"MedalBoard$Tray", "put", "(IJ)V"⟩) ∈ lw_gd := tb_in3 (i := 50) rfl rfl
theorem tb_531 : (Jvm.Cond.instanceMethod ⟨"MedalBoard$Tray", "put", "(IJ)V"⟩) ∈ lw_gd := tb_in3 (i := 51) rfl rfl
theorem tb_532 : (Jvm.Cond.selects "MedalBoard$Tray" ⟨"MedalBoard$Tray", "put", "(IJ)V"⟩ ⟨"MedalBoard$Tray", "put", "(IJ)V"⟩) ∈ lw_gd := tb_in3 (i := 52) rfl rfl
theorem tb_533 : (Jvm.Cond.code ⟨"MedalBoard$Tray", "put", "(IJ)V"⟩ prog_10_method_4_code 4 (Option.none : Option Jvm.ClassFile.FieldType)) ∈ lw_gd := tb_in3 (i := 53) rfl rfl
theorem tb_534 : (Jvm.Cond.methodLink "MedalBoard$Tray" 32 ⟨"MedalBoard$Tray", "hasPlaces", "(II)Z"⟩) ∈ lw_gd := tb_in3 (i := 54) rfl rfl
theorem tb_535 : (Jvm.Cond.methodLink "MedalBoard$Tray" 36 ⟨"MedalBoard$Tray", "cut", "(J)J"⟩) ∈ lw_gd := tb_in3 (i := 55) rfl rfl
theorem tb_537 : (Jvm.Cond.instanceMethod ⟨"MedalBoard$Tray", "cut", "(J)J"⟩) ∈ lw_gd := tb_in3 (i := 57) rfl rfl
theorem tb_538 : (Jvm.Cond.code ⟨"MedalBoard$Tray", "cut", "(J)J"⟩ prog_10_method_7_code 3 (Option.some Jvm.ClassFile.FieldType.long)) ∈ lw_gd := tb_in3 (i := 58) rfl rfl
theorem tb_539 : (Jvm.Cond.methodLink "MedalBoardLaw" 39 ⟨"MedalBoard", "read", "(II)J"⟩) ∈ lw_gd := tb_in3 (i := 59) rfl rfl
theorem tb_540 : (Jvm.Cond.instanceMethod ⟨"MedalBoard", "read", "(II)J"⟩) ∈ lw_gd := tb_in3 (i := 60) rfl rfl
theorem tb_541 : (Jvm.Cond.selects "MedalBoard" ⟨"MedalBoard", "read", "(II)J"⟩ ⟨"MedalBoard", "read", "(II)J"⟩) ∈ lw_gd := tb_in3 (i := 61) rfl rfl
theorem tb_542 : (Jvm.Cond.code ⟨"MedalBoard", "read", "(II)J"⟩ prog_1_method_7_code 4 (Option.some Jvm.ClassFile.FieldType.long)) ∈ lw_gd := tb_in3 (i := 62) rfl rfl
theorem tb_543 : (Jvm.Cond.methodLink "MedalBoard" 143 ⟨"MedalBoard", "refuse", "(I)I"⟩) ∈ lw_gd := tb_in3 (i := 63) rfl rfl
theorem tb_545 : (Jvm.Cond.instanceMethod ⟨"MedalBoard", "refuse", "(I)I"⟩) ∈ lw_gd := tb_in3 (i := 65) rfl rfl
theorem tb_546 : (Jvm.Cond.code ⟨"MedalBoard", "refuse", "(I)I"⟩ prog_1_method_57_code 2 (Option.some Jvm.ClassFile.FieldType.int)) ∈ lw_gd := tb_in3 (i := 66) rfl rfl
theorem tb_547 : (Jvm.Cond.methodLink "MedalBoard" 147 ⟨"MedalBoard$Tray", "at", "(I)J"⟩) ∈ lw_gd := tb_in3 (i := 67) rfl rfl
theorem tb_548 : (Jvm.Cond.instanceMethod ⟨"MedalBoard$Tray", "at", "(I)J"⟩) ∈ lw_gd := tb_in3 (i := 68) rfl rfl
theorem tb_549 : (Jvm.Cond.selects "MedalBoard$Tray" ⟨"MedalBoard$Tray", "at", "(I)J"⟩ ⟨"MedalBoard$Tray", "at", "(I)J"⟩) ∈ lw_gd := tb_in3 (i := 69) rfl rfl
theorem tb_550 : (Jvm.Cond.code ⟨"MedalBoard$Tray", "at", "(I)J"⟩ prog_10_method_5_code 2 (Option.some Jvm.ClassFile.FieldType.long)) ∈ lw_gd := tb_in3 (i := 70) rfl rfl
theorem tb_551 : (Jvm.Cond.methodLink "MedalBoardLaw" 44 ⟨"MedalBoard", "pour", "(IIIII)Z"⟩) ∈ lw_gd := tb_in3 (i := 71) rfl rfl
theorem tb_552 : (Jvm.Cond.instanceMethod ⟨"MedalBoard", "pour", "(IIIII)Z"⟩) ∈ lw_gd := tb_in3 (i := 72) rfl rfl
theorem tb_553 : (Jvm.Cond.selects "MedalBoard" ⟨"MedalBoard", "pour", "(IIIII)Z"⟩ ⟨"MedalBoard", "pour", "(IIIII)Z"⟩) ∈ lw_gd := tb_in3 (i := 73) rfl rfl
theorem tb_554 : (Jvm.Cond.code ⟨"MedalBoard", "pour", "(IIIII)Z"⟩ prog_1_method_8_code 8 (Option.some Jvm.ClassFile.FieldType.boolean)) ∈ lw_gd := tb_in3 (i := 74) rfl rfl
theorem tb_555 : (Jvm.Cond.methodLink "MedalBoard" 158 ⟨"java/lang/System", "arraycopy", "(Ljava/lang/Object;ILjava/lang/Object;II)V"⟩) ∈ lw_gd := tb_in3 (i := 75) rfl rfl
theorem tb_556 : (Jvm.Cond.static ⟨"java/lang/System", "arraycopy", "(Ljava/lang/Object;ILjava/lang/Object;II)V"⟩) ∈ lw_gd := tb_in3 (i := 76) rfl rfl
theorem tb_557 : (Jvm.Cond.native ⟨"java/lang/System", "arraycopy", "(Ljava/lang/Object;ILjava/lang/Object;II)V"⟩) ∈ lw_gd := tb_in3 (i := 77) rfl rfl
theorem tb_558 : (Jvm.Cond.methodLink "MedalBoardLaw" 49 ⟨"MedalBoard", "feed", "(IIIII)I"⟩) ∈ lw_gd := tb_in3 (i := 78) rfl rfl
theorem tb_559 : (Jvm.Cond.instanceMethod ⟨"MedalBoard", "feed", "(IIIII)I"⟩) ∈ lw_gd := tb_in3 (i := 79) rfl rfl
theorem tb_560 : (Jvm.Cond.selects "MedalBoard" ⟨"MedalBoard", "feed", "(IIIII)I"⟩ ⟨"MedalBoard", "feed", "(IIIII)I"⟩) ∈ lw_gd := tb_in3 (i := 80) rfl rfl
theorem tb_561 : (Jvm.Cond.code ⟨"MedalBoard", "feed", "(IIIII)I"⟩ prog_1_method_9_code 6 (Option.some Jvm.ClassFile.FieldType.int)) ∈ lw_gd := tb_in3 (i := 81) rfl rfl
theorem tb_562 : (Jvm.Cond.methodLink "MedalBoard" 168 ⟨"MedalBoard$Tape", "append", "(IIIII)I"⟩) ∈ lw_gd := tb_in3 (i := 82) rfl rfl
theorem tb_563 : (Jvm.Cond.instanceMethod ⟨"MedalBoard$Tape", "append", "(IIIII)I"⟩) ∈ lw_gd := tb_in3 (i := 83) rfl rfl
theorem tb_564 : (Jvm.Cond.selects "MedalBoard$Tape" ⟨"MedalBoard$Tape", "append", "(IIIII)I"⟩ ⟨"MedalBoard$Tape", "append", "(IIIII)I"⟩) ∈ lw_gd := tb_in3 (i := 84) rfl rfl
theorem tb_565 : (Jvm.Cond.code ⟨"MedalBoard$Tape", "append", "(IIIII)I"⟩ prog_9_method_2_code 6 (Option.some Jvm.ClassFile.FieldType.int)) ∈ lw_gd := tb_in3 (i := 85) rfl rfl
theorem tb_566 : (Jvm.Cond.methodLink "MedalBoard$Tape" 58 ⟨"MedalBoard$Tape", "appendFour", "(I)V"⟩) ∈ lw_gd := tb_in3 (i := 86) rfl rfl
theorem tb_568 : (Jvm.Cond.instanceMethod ⟨"MedalBoard$Tape", "appendFour", "(I)V"⟩) ∈ lw_gd := tb_in3 (i := 88) rfl rfl
theorem tb_569 : (Jvm.Cond.code ⟨"MedalBoard$Tape", "appendFour", "(I)V"⟩ prog_9_method_3_code 3 (Option.none : Option Jvm.ClassFile.FieldType)) ∈ lw_gd := tb_in3 (i := 89) rfl rfl
theorem tb_570 : (Jvm.Cond.methodLink "MedalBoardLaw" 54 ⟨"MedalBoard", "army", "(I)I"⟩) ∈ lw_gd := tb_in3 (i := 90) rfl rfl
theorem tb_571 : (Jvm.Cond.instanceMethod ⟨"MedalBoard", "army", "(I)I"⟩) ∈ lw_gd := tb_in3 (i := 91) rfl rfl
theorem tb_572 : (Jvm.Cond.selects "MedalBoard" ⟨"MedalBoard", "army", "(I)I"⟩ ⟨"MedalBoard", "army", "(I)I"⟩) ∈ lw_gd := tb_in3 (i := 92) rfl rfl
theorem tb_573 : (Jvm.Cond.code ⟨"MedalBoard", "army", "(I)I"⟩ prog_1_method_10_code 3 (Option.some Jvm.ClassFile.FieldType.int)) ∈ lw_gd := tb_in3 (i := 93) rfl rfl
theorem tb_574 : (Jvm.Cond.methodLink "MedalBoard" 177 ⟨"MedalBoard$Reader", "begin", "(I)V"⟩) ∈ lw_gd := tb_in3 (i := 94) rfl rfl
theorem tb_575 : (Jvm.Cond.instanceMethod ⟨"MedalBoard$Reader", "begin", "(I)V"⟩) ∈ lw_gd := tb_in3 (i := 95) rfl rfl
theorem tb_576 : (Jvm.Cond.selects "MedalBoard$Reader" ⟨"MedalBoard$Reader", "begin", "(I)V"⟩ ⟨"MedalBoard$Reader", "begin", "(I)V"⟩) ∈ lw_gd := tb_in3 (i := 96) rfl rfl
theorem tb_577 : (Jvm.Cond.code ⟨"MedalBoard$Reader", "begin", "(I)V"⟩ prog_8_method_2_code 2 (Option.none : Option Jvm.ClassFile.FieldType)) ∈ lw_gd := tb_in3 (i := 97) rfl rfl
theorem tb_578 : (Jvm.Cond.methodLink "MedalBoard$Reader" 25 ⟨"MedalBoard$Tape", "rewind", "(I)V"⟩) ∈ lw_gd := tb_in3 (i := 98) rfl rfl
theorem tb_579 : (Jvm.Cond.instanceMethod ⟨"MedalBoard$Tape", "rewind", "(I)V"⟩) ∈ lw_gd := tb_in3 (i := 99) rfl rfl
theorem tb_580 : (Jvm.Cond.selects "MedalBoard$Tape" ⟨"MedalBoard$Tape", "rewind", "(I)V"⟩ ⟨"MedalBoard$Tape", "rewind", "(I)V"⟩) ∈ lw_gd := tb_in3 (i := 100) rfl rfl
theorem tb_581 : (Jvm.Cond.code ⟨"MedalBoard$Tape", "rewind", "(I)V"⟩ prog_9_method_4_code 2 (Option.none : Option Jvm.ClassFile.FieldType)) ∈ lw_gd := tb_in3 (i := 101) rfl rfl
theorem tb_582 : (Jvm.Cond.methodLink "MedalBoard$Tape" 62 ⟨"java/lang/Math", "min", "(II)I"⟩) ∈ lw_gd := tb_in3 (i := 102) rfl rfl
theorem tb_583 : (Jvm.Cond.static ⟨"java/lang/Math", "min", "(II)I"⟩) ∈ lw_gd := tb_in3 (i := 103) rfl rfl
theorem tb_584 : (Jvm.Cond.code ⟨"java/lang/Math", "min", "(II)I"⟩ prog_16_method_69_code 2 (Option.some Jvm.ClassFile.FieldType.int)) ∈ lw_gd := tb_in3 (i := 104) rfl rfl
theorem tb_585 : (Jvm.Cond.methodLink "MedalBoard$Tape" 68 ⟨"java/lang/Math", "max", "(II)I"⟩) ∈ lw_gd := tb_in3 (i := 105) rfl rfl
theorem tb_586 : (Jvm.Cond.static ⟨"java/lang/Math", "max", "(II)I"⟩) ∈ lw_gd := tb_in3 (i := 106) rfl rfl
theorem tb_587 : (Jvm.Cond.code ⟨"java/lang/Math", "max", "(II)I"⟩ prog_16_method_65_code 2 (Option.some Jvm.ClassFile.FieldType.int)) ∈ lw_gd := tb_in3 (i := 107) rfl rfl
theorem tb_588 : (Jvm.Cond.methodLink "MedalBoard$Reader" 29 ⟨"MedalBoard$Tape", "next", "()V"⟩) ∈ lw_gd := tb_in3 (i := 108) rfl rfl
theorem tb_589 : (Jvm.Cond.instanceMethod ⟨"MedalBoard$Tape", "next", "()V"⟩) ∈ lw_gd := tb_in3 (i := 109) rfl rfl
theorem tb_590 : (Jvm.Cond.selects "MedalBoard$Tape" ⟨"MedalBoard$Tape", "next", "()V"⟩ ⟨"MedalBoard$Tape", "next", "()V"⟩) ∈ lw_gd := tb_in3 (i := 110) rfl rfl
theorem tb_591 : (Jvm.Cond.code ⟨"MedalBoard$Tape", "next", "()V"⟩ prog_9_method_5_code 1 (Option.none : Option Jvm.ClassFile.FieldType)) ∈ lw_gd := tb_in3 (i := 111) rfl rfl
theorem tb_592 : (Jvm.Cond.methodLink "MedalBoard$Tape" 71 ⟨"MedalBoard$Tape", "isLetter", "(I)Z"⟩) ∈ lw_gd := tb_in3 (i := 112) rfl rfl
theorem tb_593 : (Jvm.Cond.static ⟨"MedalBoard$Tape", "isLetter", "(I)Z"⟩) ∈ lw_gd := tb_in3 (i := 113) rfl rfl
theorem tb_594 : (Jvm.Cond.code ⟨"MedalBoard$Tape", "isLetter", "(I)Z"⟩ prog_9_method_8_code 1 (Option.some Jvm.ClassFile.FieldType.boolean)) ∈ lw_gd := tb_in3 (i := 114) rfl rfl
theorem tb_595 : (Jvm.Cond.methodLink "MedalBoard$Tape" 75 ⟨"MedalBoard$Tape", "takeLetters", "()V"⟩) ∈ lw_gd := tb_in3 (i := 115) rfl rfl
theorem tb_597 : (Jvm.Cond.instanceMethod ⟨"MedalBoard$Tape", "takeLetters", "()V"⟩) ∈ lw_gd := tb_in3 (i := 117) rfl rfl
theorem tb_598 : (Jvm.Cond.code ⟨"MedalBoard$Tape", "takeLetters", "()V"⟩ prog_9_method_6_code 4 (Option.none : Option Jvm.ClassFile.FieldType)) ∈ lw_gd := tb_in3 (i := 118) rfl rfl
theorem tb_599 : (Jvm.Cond.methodLink "MedalBoard$Tape" 78 ⟨"MedalBoard$Tape", "isDigit", "(I)Z"⟩) ∈ lw_gd := tb_in3 (i := 119) rfl rfl
theorem tb_600 : (Jvm.Cond.static ⟨"MedalBoard$Tape", "isDigit", "(I)Z"⟩) ∈ lw_gd := tb_in3 (i := 120) rfl rfl
theorem tb_601 : (Jvm.Cond.code ⟨"MedalBoard$Tape", "isDigit", "(I)Z"⟩ prog_9_method_9_code 1 (Option.some Jvm.ClassFile.FieldType.boolean)) ∈ lw_gd := tb_in3 (i := 121) rfl rfl
theorem tb_602 : (Jvm.Cond.methodLink "MedalBoard$Tape" 81 ⟨"MedalBoard$Tape", "takeDigits", "()V"⟩) ∈ lw_gd := tb_in3 (i := 122) rfl rfl
theorem tb_604 : (Jvm.Cond.instanceMethod ⟨"MedalBoard$Tape", "takeDigits", "()V"⟩) ∈ lw_gd := tb_in3 (i := 124) rfl rfl
theorem tb_605 : (Jvm.Cond.code ⟨"MedalBoard$Tape", "takeDigits", "()V"⟩ prog_9_method_7_code 1 (Option.none : Option Jvm.ClassFile.FieldType)) ∈ lw_gd := tb_in3 (i := 125) rfl rfl
theorem tb_606 : (Jvm.Cond.methodLink "MedalBoard" 181 ⟨"MedalBoard$ArmyReader", "readDraft", "()Z"⟩) ∈ lw_gd := tb_in3 (i := 126) rfl rfl
theorem tb_607 : (Jvm.Cond.instanceMethod ⟨"MedalBoard$ArmyReader", "readDraft", "()Z"⟩) ∈ lw_gd := tb_in3 (i := 127) rfl rfl
theorem tb_608 : (Jvm.Cond.selects "MedalBoard$ArmyReader" ⟨"MedalBoard$ArmyReader", "readDraft", "()Z"⟩ ⟨"MedalBoard$ArmyReader", "readDraft", "()Z"⟩) ∈ lw_gd := tb_in3 (i := 128) rfl rfl
theorem tb_609 : (Jvm.Cond.code ⟨"MedalBoard$ArmyReader", "readDraft", "()Z"⟩ prog_3_method_2_code 3 (Option.some Jvm.ClassFile.FieldType.boolean)) ∈ lw_gd := tb_in3 (i := 129) rfl rfl
theorem tb_610 : (Jvm.Cond.methodLink "MedalBoard$ArmyReader" 26 ⟨"MedalBoard$Army", "clear", "()V"⟩) ∈ lw_gd := tb_in3 (i := 130) rfl rfl
theorem tb_611 : (Jvm.Cond.instanceMethod ⟨"MedalBoard$Army", "clear", "()V"⟩) ∈ lw_gd := tb_in3 (i := 131) rfl rfl
theorem tb_612 : (Jvm.Cond.selects "MedalBoard$Army" ⟨"MedalBoard$Army", "clear", "()V"⟩ ⟨"MedalBoard$Army", "clear", "()V"⟩) ∈ lw_gd := tb_in3 (i := 132) rfl rfl
theorem tb_613 : (Jvm.Cond.code ⟨"MedalBoard$Army", "clear", "()V"⟩ prog_2_method_2_code 1 (Option.none : Option Jvm.ClassFile.FieldType)) ∈ lw_gd := tb_in3 (i := 133) rfl rfl
theorem tb_614 : (Jvm.Cond.methodLink "MedalBoard$Army" 56 ⟨"java/util/Arrays", "fill", "([JJ)V"⟩) ∈ lw_gd := tb_in3 (i := 134) rfl rfl
theorem tb_615 : (Jvm.Cond.methodLink "MedalBoard$Army" 62 ⟨"java/util/Arrays", "fill", "([II)V"⟩) ∈ lw_gd := tb_in3 (i := 135) rfl rfl
theorem tb_616 : (Jvm.Cond.static ⟨"java/util/Arrays", "fill", "([II)V"⟩) ∈ lw_gd := tb_in3 (i := 136) rfl rfl
theorem tb_617 : (Jvm.Cond.code ⟨"java/util/Arrays", "fill", "([II)V"⟩ prog_21_method_103_code 4 (Option.none : Option Jvm.ClassFile.FieldType)) ∈ lw_gd := tb_in3 (i := 137) rfl rfl
theorem tb_618 : (Jvm.Cond.methodLink "MedalBoard$ArmyReader" 31 ⟨"MedalBoard$Reader", "atEnd", "()Z"⟩) ∈ lw_gd := tb_in3 (i := 138) rfl rfl
theorem tb_619 : (Jvm.Cond.instanceMethod ⟨"MedalBoard$Reader", "atEnd", "()Z"⟩) ∈ lw_gd := tb_in3 (i := 139) rfl rfl
theorem tb_620 : (Jvm.Cond.selects "MedalBoard$Reader" ⟨"MedalBoard$Reader", "atEnd", "()Z"⟩ ⟨"MedalBoard$Reader", "atEnd", "()Z"⟩) ∈ lw_gd := tb_in3 (i := 140) rfl rfl
theorem tb_621 : (Jvm.Cond.code ⟨"MedalBoard$Reader", "atEnd", "()Z"⟩ prog_8_method_4_code 1 (Option.some Jvm.ClassFile.FieldType.boolean)) ∈ lw_gd := tb_in3 (i := 141) rfl rfl
theorem tb_622 : (Jvm.Cond.methodLink "MedalBoard$ArmyReader" 47 ⟨"MedalBoard$ArmyReader", "takePride", "()Z"⟩) ∈ lw_gd := tb_in3 (i := 142) rfl rfl
theorem tb_624 : (Jvm.Cond.instanceMethod ⟨"MedalBoard$ArmyReader", "takePride", "()Z"⟩) ∈ lw_gd := tb_in3 (i := 144) rfl rfl
theorem tb_625 : (Jvm.Cond.code ⟨"MedalBoard$ArmyReader", "takePride", "()Z"⟩ prog_3_method_3_code 1 (Option.some Jvm.ClassFile.FieldType.boolean)) ∈ lw_gd := tb_in3 (i := 145) rfl rfl
theorem tb_626 : (Jvm.Cond.methodLink "MedalBoard$ArmyReader" 59 ⟨"MedalBoard$Reader", "fail", "(I)Z"⟩) ∈ lw_gd := tb_in3 (i := 146) rfl rfl
theorem tb_627 : (Jvm.Cond.instanceMethod ⟨"MedalBoard$Reader", "fail", "(I)Z"⟩) ∈ lw_gd := tb_in3 (i := 147) rfl rfl
theorem tb_628 : (Jvm.Cond.selects "MedalBoard$Reader" ⟨"MedalBoard$Reader", "fail", "(I)Z"⟩ ⟨"MedalBoard$Reader", "fail", "(I)Z"⟩) ∈ lw_gd := tb_in3 (i := 148) rfl rfl
theorem tb_629 : (Jvm.Cond.code ⟨"MedalBoard$Reader", "fail", "(I)Z"⟩ prog_8_method_3_code 2 (Option.some Jvm.ClassFile.FieldType.boolean)) ∈ lw_gd := tb_in3 (i := 149) rfl rfl
theorem tb_630 : (Jvm.Cond.methodLink "MedalBoard$ArmyReader" 63 ⟨"MedalBoard$Tape", "next", "()V"⟩) ∈ lw_gd := tb_in3 (i := 150) rfl rfl
theorem tb_631 : (Jvm.Cond.methodLink "MedalBoard$ArmyReader" 66 ⟨"MedalBoard$Reader", "takeNumber", "(II)I"⟩) ∈ lw_gd := tb_in3 (i := 151) rfl rfl
theorem tb_632 : (Jvm.Cond.instanceMethod ⟨"MedalBoard$Reader", "takeNumber", "(II)I"⟩) ∈ lw_gd := tb_in3 (i := 152) rfl rfl
theorem tb_633 : (Jvm.Cond.selects "MedalBoard$Reader" ⟨"MedalBoard$Reader", "takeNumber", "(II)I"⟩ ⟨"MedalBoard$Reader", "takeNumber", "(II)I"⟩) ∈ lw_gd := tb_in3 (i := 153) rfl rfl
theorem tb_634 : (Jvm.Cond.code ⟨"MedalBoard$Reader", "takeNumber", "(II)I"⟩ prog_8_method_8_code 4 (Option.some Jvm.ClassFile.FieldType.int)) ∈ lw_gd := tb_in3 (i := 154) rfl rfl
theorem tb_635 : (Jvm.Cond.methodLink "MedalBoard$Reader" 45 ⟨"MedalBoard$Reader", "fail", "(I)Z"⟩) ∈ lw_gd := tb_in3 (i := 155) rfl rfl
theorem tb_637 : (Jvm.Cond.methodLink "MedalBoard$ArmyReader" 73 ⟨"MedalBoard$Reader", "takeSign", "(I)Z"⟩) ∈ lw_gd := tb_in3 (i := 157) rfl rfl
theorem tb_638 : (Jvm.Cond.instanceMethod ⟨"MedalBoard$Reader", "takeSign", "(I)Z"⟩) ∈ lw_gd := tb_in3 (i := 158) rfl rfl
theorem tb_639 : (Jvm.Cond.selects "MedalBoard$Reader" ⟨"MedalBoard$Reader", "takeSign", "(I)Z"⟩ ⟨"MedalBoard$Reader", "takeSign", "(I)Z"⟩) ∈ lw_gd := tb_in3 (i := 159) rfl rfl
theorem tb_640 : (Jvm.Cond.code ⟨"MedalBoard$Reader", "takeSign", "(I)Z"⟩ prog_8_method_6_code 2 (Option.some Jvm.ClassFile.FieldType.boolean)) ∈ lw_gd := tb_in3 (i := 160) rfl rfl
theorem tb_641 : (Jvm.Cond.methodLink "MedalBoard$Reader" 41 ⟨"MedalBoard$Reader", "isSign", "(I)Z"⟩) ∈ lw_gd := tb_in3 (i := 161) rfl rfl
theorem tb_642 : (Jvm.Cond.instanceMethod ⟨"MedalBoard$Reader", "isSign", "(I)Z"⟩) ∈ lw_gd := tb_in3 (i := 162) rfl rfl
theorem tb_643 : (Jvm.Cond.selects "MedalBoard$Reader" ⟨"MedalBoard$Reader", "isSign", "(I)Z"⟩ ⟨"MedalBoard$Reader", "isSign", "(I)Z"⟩) ∈ lw_gd := tb_in3 (i := 163) rfl rfl
theorem tb_644 : (Jvm.Cond.code ⟨"MedalBoard$Reader", "isSign", "(I)Z"⟩ prog_8_method_5_code 2 (Option.some Jvm.ClassFile.FieldType.boolean)) ∈ lw_gd := tb_in3 (i := 164) rfl rfl
theorem tb_645 : (Jvm.Cond.methodLink "MedalBoard$ArmyReader" 50 ⟨"MedalBoard$ArmyReader", "takeQuota", "()Z"⟩) ∈ lw_gd := tb_in3 (i := 165) rfl rfl
theorem tb_647 : (Jvm.Cond.instanceMethod ⟨"MedalBoard$ArmyReader", "takeQuota", "()Z"⟩) ∈ lw_gd := tb_in3 (i := 167) rfl rfl
theorem tb_648 : (Jvm.Cond.code ⟨"MedalBoard$ArmyReader", "takeQuota", "()Z"⟩ prog_3_method_4_code 1 (Option.some Jvm.ClassFile.FieldType.boolean)) ∈ lw_gd := tb_in3 (i := 168) rfl rfl
theorem tb_649 : (Jvm.Cond.methodLink "MedalBoard$ArmyReader" 53 ⟨"MedalBoard$ArmyReader", "takeNewMan", "()Z"⟩) ∈ lw_gd := tb_in3 (i := 169) rfl rfl
theorem tb_651 : (Jvm.Cond.instanceMethod ⟨"MedalBoard$ArmyReader", "takeNewMan", "()Z"⟩) ∈ lw_gd := tb_in3 (i := 171) rfl rfl
theorem tb_652 : (Jvm.Cond.code ⟨"MedalBoard$ArmyReader", "takeNewMan", "()Z"⟩ prog_3_method_5_code 7 (Option.some Jvm.ClassFile.FieldType.boolean)) ∈ lw_gd := tb_in3 (i := 172) rfl rfl
theorem tb_653 : (Jvm.Cond.methodLink "MedalBoard$ArmyReader" 86 ⟨"MedalBoard$Army", "named", "(J)I"⟩) ∈ lw_gd := tb_in3 (i := 173) rfl rfl
theorem tb_654 : (Jvm.Cond.instanceMethod ⟨"MedalBoard$Army", "named", "(J)I"⟩) ∈ lw_gd := tb_in3 (i := 174) rfl rfl
theorem tb_655 : (Jvm.Cond.selects "MedalBoard$Army" ⟨"MedalBoard$Army", "named", "(J)I"⟩ ⟨"MedalBoard$Army", "named", "(J)I"⟩) ∈ lw_gd := tb_in3 (i := 175) rfl rfl
theorem tb_656 : (Jvm.Cond.code ⟨"MedalBoard$Army", "named", "(J)I"⟩ prog_2_method_5_code 4 (Option.some Jvm.ClassFile.FieldType.int)) ∈ lw_gd := tb_in3 (i := 176) rfl rfl
theorem tb_657 : (Jvm.Cond.methodLink "MedalBoard$ArmyReader" 90 ⟨"MedalBoard$Reader", "takeWord", "(I)Z"⟩) ∈ lw_gd := tb_in3 (i := 177) rfl rfl
theorem tb_658 : (Jvm.Cond.instanceMethod ⟨"MedalBoard$Reader", "takeWord", "(I)Z"⟩) ∈ lw_gd := tb_in3 (i := 178) rfl rfl
theorem tb_659 : (Jvm.Cond.selects "MedalBoard$Reader" ⟨"MedalBoard$Reader", "takeWord", "(I)Z"⟩ ⟨"MedalBoard$Reader", "takeWord", "(I)Z"⟩) ∈ lw_gd := tb_in3 (i := 179) rfl rfl
theorem tb_660 : (Jvm.Cond.code ⟨"MedalBoard$Reader", "takeWord", "(I)Z"⟩ prog_8_method_7_code 2 (Option.some Jvm.ClassFile.FieldType.boolean)) ∈ lw_gd := tb_in3 (i := 180) rfl rfl
theorem tb_661 : (Jvm.Cond.methodLink "MedalBoard$ArmyReader" 93 ⟨"MedalBoard$ArmyReader", "takeIfTold", "(III)I"⟩) ∈ lw_gd := tb_in3 (i := 181) rfl rfl
theorem tb_663 : (Jvm.Cond.instanceMethod ⟨"MedalBoard$ArmyReader", "takeIfTold", "(III)I"⟩) ∈ lw_gd := tb_in3 (i := 183) rfl rfl
theorem tb_664 : (Jvm.Cond.code ⟨"MedalBoard$ArmyReader", "takeIfTold", "(III)I"⟩ prog_3_method_6_code 4 (Option.some Jvm.ClassFile.FieldType.int)) ∈ lw_gd := tb_in3 (i := 184) rfl rfl
theorem tb_665 : (Jvm.Cond.methodLink "MedalBoard$ArmyReader" 97 ⟨"MedalBoard$Army", "add", "(JII)I"⟩) ∈ lw_gd := tb_in3 (i := 185) rfl rfl
theorem tb_666 : (Jvm.Cond.instanceMethod ⟨"MedalBoard$Army", "add", "(JII)I"⟩) ∈ lw_gd := tb_in3 (i := 186) rfl rfl
theorem tb_667 : (Jvm.Cond.selects "MedalBoard$Army" ⟨"MedalBoard$Army", "add", "(JII)I"⟩ ⟨"MedalBoard$Army", "add", "(JII)I"⟩) ∈ lw_gd := tb_in3 (i := 187) rfl rfl
theorem tb_668 : (Jvm.Cond.code ⟨"MedalBoard$Army", "add", "(JII)I"⟩ prog_2_method_4_code 7 (Option.some Jvm.ClassFile.FieldType.int)) ∈ lw_gd := tb_in3 (i := 188) rfl rfl
theorem tb_670 : (Jvm.Cond.methodLink "MedalBoard$ArmyReader" 56 ⟨"MedalBoard$ArmyReader", "takeLikes", "()Z"⟩) ∈ lw_gd := tb_in3 (i := 190) rfl rfl
theorem tb_672 : (Jvm.Cond.instanceMethod ⟨"MedalBoard$ArmyReader", "takeLikes", "()Z"⟩) ∈ lw_gd := tb_in3 (i := 192) rfl rfl
theorem tb_673 : (Jvm.Cond.code ⟨"MedalBoard$ArmyReader", "takeLikes", "()Z"⟩ prog_3_method_7_code 4 (Option.some Jvm.ClassFile.FieldType.boolean)) ∈ lw_gd := tb_in3 (i := 193) rfl rfl
theorem tb_674 : (Jvm.Cond.methodLink "MedalBoard$ArmyReader" 105 ⟨"MedalBoard$Reader", "takeMan", "(LMedalBoard$Army;I)I"⟩) ∈ lw_gd := tb_in3 (i := 194) rfl rfl
theorem tb_675 : (Jvm.Cond.instanceMethod ⟨"MedalBoard$Reader", "takeMan", "(LMedalBoard$Army;I)I"⟩) ∈ lw_gd := tb_in3 (i := 195) rfl rfl
theorem tb_676 : (Jvm.Cond.selects "MedalBoard$Reader" ⟨"MedalBoard$Reader", "takeMan", "(LMedalBoard$Army;I)I"⟩ ⟨"MedalBoard$Reader", "takeMan", "(LMedalBoard$Army;I)I"⟩) ∈ lw_gd := tb_in3 (i := 196) rfl rfl
theorem tb_677 : (Jvm.Cond.code ⟨"MedalBoard$Reader", "takeMan", "(LMedalBoard$Army;I)I"⟩ prog_8_method_9_code 4 (Option.some Jvm.ClassFile.FieldType.int)) ∈ lw_gd := tb_in3 (i := 197) rfl rfl
theorem tb_678 : (Jvm.Cond.methodLink "MedalBoard$Reader" 59 ⟨"MedalBoard$Army", "named", "(J)I"⟩) ∈ lw_gd := tb_in3 (i := 198) rfl rfl
theorem tb_679 : (Jvm.Cond.methodLink "MedalBoard$ArmyReader" 109 ⟨"MedalBoard$Army", "setLiking", "(III)V"⟩) ∈ lw_gd := tb_in3 (i := 199) rfl rfl
theorem tb_680 : (Jvm.Cond.instanceMethod ⟨"MedalBoard$Army", "setLiking", "(III)V"⟩) ∈ lw_gd := tb_in3 (i := 200) rfl rfl
theorem tb_681 : (Jvm.Cond.selects "MedalBoard$Army" ⟨"MedalBoard$Army", "setLiking", "(III)V"⟩ ⟨"MedalBoard$Army", "setLiking", "(III)V"⟩) ∈ lw_gd := tb_in3 (i := 201) rfl rfl
theorem tb_682 : (Jvm.Cond.code ⟨"MedalBoard$Army", "setLiking", "(III)V"⟩ prog_2_method_9_code 4 (Option.none : Option Jvm.ClassFile.FieldType)) ∈ lw_gd := tb_in3 (i := 202) rfl rfl
theorem tb_683 : (Jvm.Cond.methodLink "MedalBoard$Army" 75 ⟨"MedalBoard$Army", "isMan", "(I)Z"⟩) ∈ lw_gd := tb_in3 (i := 203) rfl rfl
theorem tb_684 : (Jvm.Cond.instanceMethod ⟨"MedalBoard$Army", "isMan", "(I)Z"⟩) ∈ lw_gd := tb_in3 (i := 204) rfl rfl
theorem tb_685 : (Jvm.Cond.selects "MedalBoard$Army" ⟨"MedalBoard$Army", "isMan", "(I)Z"⟩ ⟨"MedalBoard$Army", "isMan", "(I)Z"⟩) ∈ lw_gd := tb_in3 (i := 205) rfl rfl
theorem tb_686 : (Jvm.Cond.code ⟨"MedalBoard$Army", "isMan", "(I)Z"⟩ prog_2_method_6_code 2 (Option.some Jvm.ClassFile.FieldType.boolean)) ∈ lw_gd := tb_in3 (i := 206) rfl rfl
theorem tb_687 : (Jvm.Cond.methodLink "MedalBoard" 184 ⟨"MedalBoard$Army", "become", "(LMedalBoard$Army;)V"⟩) ∈ lw_gd := tb_in3 (i := 207) rfl rfl
theorem tb_688 : (Jvm.Cond.instanceMethod ⟨"MedalBoard$Army", "become", "(LMedalBoard$Army;)V"⟩) ∈ lw_gd := tb_in3 (i := 208) rfl rfl
theorem tb_689 : (Jvm.Cond.selects "MedalBoard$Army" ⟨"MedalBoard$Army", "become", "(LMedalBoard$Army;)V"⟩ ⟨"MedalBoard$Army", "become", "(LMedalBoard$Army;)V"⟩) ∈ lw_gd := tb_in3 (i := 209) rfl rfl
theorem tb_690 : (Jvm.Cond.code ⟨"MedalBoard$Army", "become", "(LMedalBoard$Army;)V"⟩ prog_2_method_3_code 2 (Option.none : Option Jvm.ClassFile.FieldType)) ∈ lw_gd := tb_in3 (i := 210) rfl rfl
theorem tb_691 : (Jvm.Cond.methodLink "MedalBoard$Army" 65 ⟨"java/lang/System", "arraycopy", "(Ljava/lang/Object;ILjava/lang/Object;II)V"⟩) ∈ lw_gd := tb_in3 (i := 211) rfl rfl
theorem tb_692 : (Jvm.Cond.methodLink "MedalBoard" 187 ⟨"MedalBoard$War", "clear", "()V"⟩) ∈ lw_gd := tb_in3 (i := 212) rfl rfl
theorem tb_693 : (Jvm.Cond.instanceMethod ⟨"MedalBoard$War", "clear", "()V"⟩) ∈ lw_gd := tb_in3 (i := 213) rfl rfl
theorem tb_694 : (Jvm.Cond.selects "MedalBoard$War" ⟨"MedalBoard$War", "clear", "()V"⟩ ⟨"MedalBoard$War", "clear", "()V"⟩) ∈ lw_gd := tb_in3 (i := 214) rfl rfl
theorem tb_695 : (Jvm.Cond.code ⟨"MedalBoard$War", "clear", "()V"⟩ prog_11_method_2_code 1 (Option.none : Option Jvm.ClassFile.FieldType)) ∈ lw_gd := tb_in3 (i := 215) rfl rfl
theorem tb_696 : (Jvm.Cond.methodLink "MedalBoard" 193 ⟨"MedalBoard", "answer", "(I)I"⟩) ∈ lw_gd := tb_in3 (i := 216) rfl rfl
theorem tb_698 : (Jvm.Cond.instanceMethod ⟨"MedalBoard", "answer", "(I)I"⟩) ∈ lw_gd := tb_in3 (i := 218) rfl rfl
theorem tb_699 : (Jvm.Cond.code ⟨"MedalBoard", "answer", "(I)I"⟩ prog_1_method_56_code 2 (Option.some Jvm.ClassFile.FieldType.int)) ∈ lw_gd := tb_in3 (i := 219) rfl rfl
theorem tb_700 : (Jvm.Cond.methodLink "MedalBoardLaw" 59 ⟨"MedalBoard", "war", "(I)I"⟩) ∈ lw_gd := tb_in3 (i := 220) rfl rfl
theorem tb_701 : (Jvm.Cond.instanceMethod ⟨"MedalBoard", "war", "(I)I"⟩) ∈ lw_gd := tb_in3 (i := 221) rfl rfl
theorem tb_702 : (Jvm.Cond.selects "MedalBoard" ⟨"MedalBoard", "war", "(I)I"⟩ ⟨"MedalBoard", "war", "(I)I"⟩) ∈ lw_gd := tb_in3 (i := 222) rfl rfl
theorem tb_703 : (Jvm.Cond.code ⟨"MedalBoard", "war", "(I)I"⟩ prog_1_method_11_code 3 (Option.some Jvm.ClassFile.FieldType.int)) ∈ lw_gd := tb_in3 (i := 223) rfl rfl
theorem tb_704 : (Jvm.Cond.methodLink "MedalBoard" 196 ⟨"java/lang/Math", "min", "(II)I"⟩) ∈ lw_gd := tb_in3 (i := 224) rfl rfl
theorem tb_705 : (Jvm.Cond.methodLink "MedalBoard" 202 ⟨"MedalBoard$WarReader", "readDraft", "()Z"⟩) ∈ lw_gd := tb_in3 (i := 225) rfl rfl
theorem tb_706 : (Jvm.Cond.instanceMethod ⟨"MedalBoard$WarReader", "readDraft", "()Z"⟩) ∈ lw_gd := tb_in3 (i := 226) rfl rfl
theorem tb_707 : (Jvm.Cond.selects "MedalBoard$WarReader" ⟨"MedalBoard$WarReader", "readDraft", "()Z"⟩ ⟨"MedalBoard$WarReader", "readDraft", "()Z"⟩) ∈ lw_gd := tb_in3 (i := 227) rfl rfl
theorem tb_708 : (Jvm.Cond.code ⟨"MedalBoard$WarReader", "readDraft", "()Z"⟩ prog_12_method_2_code 4 (Option.some Jvm.ClassFile.FieldType.boolean)) ∈ lw_gd := tb_in3 (i := 228) rfl rfl
theorem tb_709 : (Jvm.Cond.methodLink "MedalBoard$WarReader" 31 ⟨"MedalBoard$War", "clear", "()V"⟩) ∈ lw_gd := tb_in3 (i := 229) rfl rfl
theorem tb_710 : (Jvm.Cond.methodLink "MedalBoard$WarReader" 40 ⟨"MedalBoard$Reader", "atEnd", "()Z"⟩) ∈ lw_gd := tb_in3 (i := 230) rfl rfl
theorem tb_711 : (Jvm.Cond.methodLink "MedalBoard$WarReader" 55 ⟨"MedalBoard$WarReader", "takeEnd", "()Z"⟩) ∈ lw_gd := tb_in3 (i := 231) rfl rfl
theorem tb_713 : (Jvm.Cond.instanceMethod ⟨"MedalBoard$WarReader", "takeEnd", "()Z"⟩) ∈ lw_gd := tb_in3 (i := 233) rfl rfl
theorem tb_714 : (Jvm.Cond.code ⟨"MedalBoard$WarReader", "takeEnd", "()Z"⟩ prog_12_method_3_code 1 (Option.some Jvm.ClassFile.FieldType.boolean)) ∈ lw_gd := tb_in3 (i := 234) rfl rfl
theorem tb_716 : (Jvm.Cond.methodLink "MedalBoard$WarReader" 68 ⟨"MedalBoard$Reader", "fail", "(I)Z"⟩) ∈ lw_gd := tb_in3 (i := 236) rfl rfl
theorem tb_717 : (Jvm.Cond.methodLink "MedalBoard$WarReader" 75 ⟨"MedalBoard$Tape", "next", "()V"⟩) ∈ lw_gd := tb_in3 (i := 237) rfl rfl
theorem tb_718 : (Jvm.Cond.methodLink "MedalBoard$WarReader" 78 ⟨"MedalBoard$Reader", "takeSign", "(I)Z"⟩) ∈ lw_gd := tb_in3 (i := 238) rfl rfl
theorem tb_719 : (Jvm.Cond.methodLink "MedalBoard$WarReader" 81 ⟨"MedalBoard$War", "close", "(I)V"⟩) ∈ lw_gd := tb_in3 (i := 239) rfl rfl
theorem tb_720 : (Jvm.Cond.instanceMethod ⟨"MedalBoard$War", "close", "(I)V"⟩) ∈ lw_gd := tb_in4 (i := 0) rfl rfl
theorem tb_721 : (Jvm.Cond.selects "MedalBoard$War" ⟨"MedalBoard$War", "close", "(I)V"⟩ ⟨"MedalBoard$War", "close", "(I)V"⟩) ∈ lw_gd := tb_in4 (i := 1) rfl rfl
theorem tb_722 : (Jvm.Cond.code ⟨"MedalBoard$War", "close", "(I)V"⟩ prog_11_method_5_code 2 (Option.none : Option Jvm.ClassFile.FieldType)) ∈ lw_gd := tb_in4 (i := 2) rfl rfl
theorem tb_724 : (Jvm.Cond.methodLink "MedalBoard$WarReader" 58 ⟨"MedalBoard$WarReader", "takeBegin", "(I)Z"⟩) ∈ lw_gd := tb_in4 (i := 4) rfl rfl
theorem tb_726 : (Jvm.Cond.instanceMethod ⟨"MedalBoard$WarReader", "takeBegin", "(I)Z"⟩) ∈ lw_gd := tb_in4 (i := 6) rfl rfl
theorem tb_727 : (Jvm.Cond.code ⟨"MedalBoard$WarReader", "takeBegin", "(I)Z"⟩ prog_12_method_4_code 3 (Option.some Jvm.ClassFile.FieldType.boolean)) ∈ lw_gd := tb_in4 (i := 7) rfl rfl
theorem tb_728 : (Jvm.Cond.methodLink "MedalBoard$WarReader" 85 ⟨"MedalBoard$WarReader", "holdsOthers", "(I)Z"⟩) ∈ lw_gd := tb_in4 (i := 8) rfl rfl
theorem tb_729 : (Jvm.Cond.static ⟨"MedalBoard$WarReader", "holdsOthers", "(I)Z"⟩) ∈ lw_gd := tb_in4 (i := 9) rfl rfl
theorem tb_730 : (Jvm.Cond.code ⟨"MedalBoard$WarReader", "holdsOthers", "(I)Z"⟩ prog_12_method_6_code 1 (Option.some Jvm.ClassFile.FieldType.boolean)) ∈ lw_gd := tb_in4 (i := 10) rfl rfl
theorem tb_731 : (Jvm.Cond.methodLink "MedalBoard$WarReader" 62 ⟨"MedalBoard$WarReader", "takeRest", "(I)Z"⟩) ∈ lw_gd := tb_in4 (i := 11) rfl rfl
theorem tb_733 : (Jvm.Cond.instanceMethod ⟨"MedalBoard$WarReader", "takeRest", "(I)Z"⟩) ∈ lw_gd := tb_in4 (i := 13) rfl rfl
theorem tb_734 : (Jvm.Cond.code ⟨"MedalBoard$WarReader", "takeRest", "(I)Z"⟩ prog_12_method_7_code 3 (Option.some Jvm.ClassFile.FieldType.boolean)) ∈ lw_gd := tb_in4 (i := 14) rfl rfl
theorem tb_735 : (Jvm.Cond.methodLink "MedalBoard$WarReader" 100 ⟨"MedalBoard$Reader", "takeMan", "(LMedalBoard$Army;I)I"⟩) ∈ lw_gd := tb_in4 (i := 15) rfl rfl
theorem tb_736 : (Jvm.Cond.methodLink "MedalBoard$WarReader" 107 ⟨"MedalBoard$Reader", "takeNumber", "(II)I"⟩) ∈ lw_gd := tb_in4 (i := 16) rfl rfl
theorem tb_737 : (Jvm.Cond.methodLink "MedalBoard$WarReader" 114 ⟨"MedalBoard$WarReader", "takeTest", "(I)Z"⟩) ∈ lw_gd := tb_in4 (i := 17) rfl rfl
theorem tb_739 : (Jvm.Cond.instanceMethod ⟨"MedalBoard$WarReader", "takeTest", "(I)Z"⟩) ∈ lw_gd := tb_in4 (i := 19) rfl rfl
theorem tb_740 : (Jvm.Cond.code ⟨"MedalBoard$WarReader", "takeTest", "(I)Z"⟩ prog_12_method_8_code 3 (Option.some Jvm.ClassFile.FieldType.boolean)) ∈ lw_gd := tb_in4 (i := 20) rfl rfl
theorem tb_741 : (Jvm.Cond.methodLink "MedalBoard$WarReader" 117 ⟨"MedalBoard$Reader", "isSign", "(I)Z"⟩) ∈ lw_gd := tb_in4 (i := 21) rfl rfl
theorem tb_742 : (Jvm.Cond.methodLink "MedalBoard$WarReader" 65 ⟨"MedalBoard$WarReader", "takeLast", "(I)Z"⟩) ∈ lw_gd := tb_in4 (i := 22) rfl rfl
theorem tb_744 : (Jvm.Cond.instanceMethod ⟨"MedalBoard$WarReader", "takeLast", "(I)Z"⟩) ∈ lw_gd := tb_in4 (i := 24) rfl rfl
theorem tb_745 : (Jvm.Cond.code ⟨"MedalBoard$WarReader", "takeLast", "(I)Z"⟩ prog_12_method_5_code 2 (Option.some Jvm.ClassFile.FieldType.boolean)) ∈ lw_gd := tb_in4 (i := 25) rfl rfl
theorem tb_746 : (Jvm.Cond.methodLink "MedalBoard$WarReader" 94 ⟨"MedalBoard$War", "step", "(I)V"⟩) ∈ lw_gd := tb_in4 (i := 26) rfl rfl
theorem tb_747 : (Jvm.Cond.instanceMethod ⟨"MedalBoard$War", "step", "(I)V"⟩) ∈ lw_gd := tb_in4 (i := 27) rfl rfl
theorem tb_748 : (Jvm.Cond.selects "MedalBoard$War" ⟨"MedalBoard$War", "step", "(I)V"⟩ ⟨"MedalBoard$War", "step", "(I)V"⟩) ∈ lw_gd := tb_in4 (i := 28) rfl rfl
theorem tb_749 : (Jvm.Cond.code ⟨"MedalBoard$War", "step", "(I)V"⟩ prog_11_method_4_code 2 (Option.none : Option Jvm.ClassFile.FieldType)) ∈ lw_gd := tb_in4 (i := 29) rfl rfl
theorem tb_750 : (Jvm.Cond.methodLink "MedalBoard" 203 ⟨"MedalBoard$War", "become", "(LMedalBoard$War;)V"⟩) ∈ lw_gd := tb_in4 (i := 30) rfl rfl
theorem tb_751 : (Jvm.Cond.instanceMethod ⟨"MedalBoard$War", "become", "(LMedalBoard$War;)V"⟩) ∈ lw_gd := tb_in4 (i := 31) rfl rfl
theorem tb_752 : (Jvm.Cond.selects "MedalBoard$War" ⟨"MedalBoard$War", "become", "(LMedalBoard$War;)V"⟩ ⟨"MedalBoard$War", "become", "(LMedalBoard$War;)V"⟩) ∈ lw_gd := tb_in4 (i := 32) rfl rfl
theorem tb_753 : (Jvm.Cond.code ⟨"MedalBoard$War", "become", "(LMedalBoard$War;)V"⟩ prog_11_method_3_code 2 (Option.none : Option Jvm.ClassFile.FieldType)) ∈ lw_gd := tb_in4 (i := 33) rfl rfl
theorem tb_754 : (Jvm.Cond.methodLink "MedalBoard$War" 41 ⟨"java/lang/System", "arraycopy", "(Ljava/lang/Object;ILjava/lang/Object;II)V"⟩) ∈ lw_gd := tb_in4 (i := 34) rfl rfl
theorem tb_755 : (Jvm.Cond.methodLink "MedalBoardLaw" 63 ⟨"MedalBoard", "fault", "(I)I"⟩) ∈ lw_gd := tb_in4 (i := 35) rfl rfl
theorem tb_756 : (Jvm.Cond.instanceMethod ⟨"MedalBoard", "fault", "(I)I"⟩) ∈ lw_gd := tb_in4 (i := 36) rfl rfl
theorem tb_757 : (Jvm.Cond.selects "MedalBoard" ⟨"MedalBoard", "fault", "(I)I"⟩ ⟨"MedalBoard", "fault", "(I)I"⟩) ∈ lw_gd := tb_in4 (i := 37) rfl rfl
theorem tb_758 : (Jvm.Cond.code ⟨"MedalBoard", "fault", "(I)I"⟩ prog_1_method_12_code 2 (Option.some Jvm.ClassFile.FieldType.int)) ∈ lw_gd := tb_in4 (i := 38) rfl rfl
theorem tb_759 : (Jvm.Cond.methodLink "MedalBoardLaw" 67 ⟨"MedalBoard", "told", "(I)I"⟩) ∈ lw_gd := tb_in4 (i := 39) rfl rfl
theorem tb_760 : (Jvm.Cond.instanceMethod ⟨"MedalBoard", "told", "(I)I"⟩) ∈ lw_gd := tb_in4 (i := 40) rfl rfl
theorem tb_761 : (Jvm.Cond.selects "MedalBoard" ⟨"MedalBoard", "told", "(I)I"⟩ ⟨"MedalBoard", "told", "(I)I"⟩) ∈ lw_gd := tb_in4 (i := 41) rfl rfl
theorem tb_762 : (Jvm.Cond.code ⟨"MedalBoard", "told", "(I)I"⟩ prog_1_method_13_code 2 (Option.some Jvm.ClassFile.FieldType.int)) ∈ lw_gd := tb_in4 (i := 42) rfl rfl
theorem tb_763 : (Jvm.Cond.methodLink "MedalBoard" 224 ⟨"MedalBoard$Army", "decorated", "()I"⟩) ∈ lw_gd := tb_in4 (i := 43) rfl rfl
theorem tb_764 : (Jvm.Cond.instanceMethod ⟨"MedalBoard$Army", "decorated", "()I"⟩) ∈ lw_gd := tb_in4 (i := 44) rfl rfl
theorem tb_765 : (Jvm.Cond.selects "MedalBoard$Army" ⟨"MedalBoard$Army", "decorated", "()I"⟩ ⟨"MedalBoard$Army", "decorated", "()I"⟩) ∈ lw_gd := tb_in4 (i := 45) rfl rfl
theorem tb_766 : (Jvm.Cond.code ⟨"MedalBoard$Army", "decorated", "()I"⟩ prog_2_method_10_code 3 (Option.some Jvm.ClassFile.FieldType.int)) ∈ lw_gd := tb_in4 (i := 46) rfl rfl
theorem tb_767 : (Jvm.Cond.methodLink "MedalBoard" 232 ⟨"MedalBoard", "sumOf", "([I)I"⟩) ∈ lw_gd := tb_in4 (i := 47) rfl rfl
theorem tb_768 : (Jvm.Cond.static ⟨"MedalBoard", "sumOf", "([I)I"⟩) ∈ lw_gd := tb_in4 (i := 48) rfl rfl
theorem tb_769 : (Jvm.Cond.code ⟨"MedalBoard", "sumOf", "([I)I"⟩ prog_1_method_73_code 6 (Option.some Jvm.ClassFile.FieldType.int)) ∈ lw_gd := tb_in4 (i := 49) rfl rfl
theorem tb_770 : (Jvm.Cond.methodLink "MedalBoardLaw" 71 ⟨"MedalBoard", "man", "(II)I"⟩) ∈ lw_gd := tb_in4 (i := 50) rfl rfl
theorem tb_771 : (Jvm.Cond.instanceMethod ⟨"MedalBoard", "man", "(II)I"⟩) ∈ lw_gd := tb_in4 (i := 51) rfl rfl
theorem tb_772 : (Jvm.Cond.selects "MedalBoard" ⟨"MedalBoard", "man", "(II)I"⟩ ⟨"MedalBoard", "man", "(II)I"⟩) ∈ lw_gd := tb_in4 (i := 52) rfl rfl
theorem tb_773 : (Jvm.Cond.code ⟨"MedalBoard", "man", "(II)I"⟩ prog_1_method_14_code 3 (Option.some Jvm.ClassFile.FieldType.int)) ∈ lw_gd := tb_in4 (i := 53) rfl rfl
theorem tb_774 : (Jvm.Cond.methodLink "MedalBoard" 248 ⟨"MedalBoard$Army", "isMan", "(I)Z"⟩) ∈ lw_gd := tb_in4 (i := 54) rfl rfl
theorem tb_775 : (Jvm.Cond.methodLink "MedalBoard" 257 ⟨"MedalBoard$Army", "lives", "(I)Z"⟩) ∈ lw_gd := tb_in4 (i := 55) rfl rfl
theorem tb_776 : (Jvm.Cond.instanceMethod ⟨"MedalBoard$Army", "lives", "(I)Z"⟩) ∈ lw_gd := tb_in4 (i := 56) rfl rfl
theorem tb_777 : (Jvm.Cond.selects "MedalBoard$Army" ⟨"MedalBoard$Army", "lives", "(I)Z"⟩ ⟨"MedalBoard$Army", "lives", "(I)Z"⟩) ∈ lw_gd := tb_in4 (i := 57) rfl rfl
theorem tb_778 : (Jvm.Cond.code ⟨"MedalBoard$Army", "lives", "(I)Z"⟩ prog_2_method_7_code 2 (Option.some Jvm.ClassFile.FieldType.boolean)) ∈ lw_gd := tb_in4 (i := 58) rfl rfl
theorem tb_779 : (Jvm.Cond.methodLink "MedalBoard" 260 ⟨"MedalBoard$Army", "bravery", "(I)I"⟩) ∈ lw_gd := tb_in4 (i := 59) rfl rfl
theorem tb_780 : (Jvm.Cond.instanceMethod ⟨"MedalBoard$Army", "bravery", "(I)I"⟩) ∈ lw_gd := tb_in4 (i := 60) rfl rfl
theorem tb_781 : (Jvm.Cond.selects "MedalBoard$Army" ⟨"MedalBoard$Army", "bravery", "(I)I"⟩ ⟨"MedalBoard$Army", "bravery", "(I)I"⟩) ∈ lw_gd := tb_in4 (i := 61) rfl rfl
theorem tb_782 : (Jvm.Cond.code ⟨"MedalBoard$Army", "bravery", "(I)I"⟩ prog_2_method_11_code 2 (Option.some Jvm.ClassFile.FieldType.int)) ∈ lw_gd := tb_in4 (i := 62) rfl rfl
theorem tb_783 : (Jvm.Cond.methodLink "MedalBoard$Army" 79 ⟨"MedalBoard$Army", "braveryWith", "(II)I"⟩) ∈ lw_gd := tb_in4 (i := 63) rfl rfl
theorem tb_784 : (Jvm.Cond.instanceMethod ⟨"MedalBoard$Army", "braveryWith", "(II)I"⟩) ∈ lw_gd := tb_in4 (i := 64) rfl rfl
theorem tb_785 : (Jvm.Cond.selects "MedalBoard$Army" ⟨"MedalBoard$Army", "braveryWith", "(II)I"⟩ ⟨"MedalBoard$Army", "braveryWith", "(II)I"⟩) ∈ lw_gd := tb_in4 (i := 65) rfl rfl
theorem tb_786 : (Jvm.Cond.code ⟨"MedalBoard$Army", "braveryWith", "(II)I"⟩ prog_2_method_12_code 4 (Option.some Jvm.ClassFile.FieldType.int)) ∈ lw_gd := tb_in4 (i := 66) rfl rfl
theorem tb_787 : (Jvm.Cond.methodLink "MedalBoardLaw" 76 ⟨"MedalBoard", "likes", "(II)I"⟩) ∈ lw_gd := tb_in4 (i := 67) rfl rfl
theorem tb_788 : (Jvm.Cond.instanceMethod ⟨"MedalBoard", "likes", "(II)I"⟩) ∈ lw_gd := tb_in4 (i := 68) rfl rfl
theorem tb_789 : (Jvm.Cond.selects "MedalBoard" ⟨"MedalBoard", "likes", "(II)I"⟩ ⟨"MedalBoard", "likes", "(II)I"⟩) ∈ lw_gd := tb_in4 (i := 69) rfl rfl
theorem tb_790 : (Jvm.Cond.code ⟨"MedalBoard", "likes", "(II)I"⟩ prog_1_method_15_code 3 (Option.some Jvm.ClassFile.FieldType.int)) ∈ lw_gd := tb_in4 (i := 70) rfl rfl
theorem tb_791 : (Jvm.Cond.methodLink "MedalBoard" 263 ⟨"MedalBoard$Army", "liking", "(II)I"⟩) ∈ lw_gd := tb_in4 (i := 71) rfl rfl
theorem tb_792 : (Jvm.Cond.instanceMethod ⟨"MedalBoard$Army", "liking", "(II)I"⟩) ∈ lw_gd := tb_in4 (i := 72) rfl rfl
theorem tb_793 : (Jvm.Cond.selects "MedalBoard$Army" ⟨"MedalBoard$Army", "liking", "(II)I"⟩ ⟨"MedalBoard$Army", "liking", "(II)I"⟩) ∈ lw_gd := tb_in4 (i := 73) rfl rfl
theorem tb_794 : (Jvm.Cond.code ⟨"MedalBoard$Army", "liking", "(II)I"⟩ prog_2_method_8_code 3 (Option.some Jvm.ClassFile.FieldType.int)) ∈ lw_gd := tb_in4 (i := 74) rfl rfl
theorem tb_795 : (Jvm.Cond.methodLink "MedalBoardLaw" 80 ⟨"MedalBoard", "face", "(II)I"⟩) ∈ lw_gd := tb_in4 (i := 75) rfl rfl
theorem tb_796 : (Jvm.Cond.instanceMethod ⟨"MedalBoard", "face", "(II)I"⟩) ∈ lw_gd := tb_in4 (i := 76) rfl rfl
theorem tb_797 : (Jvm.Cond.selects "MedalBoard" ⟨"MedalBoard", "face", "(II)I"⟩ ⟨"MedalBoard", "face", "(II)I"⟩) ∈ lw_gd := tb_in4 (i := 77) rfl rfl
theorem tb_798 : (Jvm.Cond.code ⟨"MedalBoard", "face", "(II)I"⟩ prog_1_method_16_code 4 (Option.some Jvm.ClassFile.FieldType.int)) ∈ lw_gd := tb_in4 (i := 78) rfl rfl
theorem tb_799 : (Jvm.Cond.methodLink "MedalBoard" 266 ⟨"MedalBoard", "dangerRefusal", "(II)I"⟩) ∈ lw_gd := tb_in4 (i := 79) rfl rfl
theorem tb_801 : (Jvm.Cond.instanceMethod ⟨"MedalBoard", "dangerRefusal", "(II)I"⟩) ∈ lw_gd := tb_in4 (i := 81) rfl rfl
theorem tb_802 : (Jvm.Cond.code ⟨"MedalBoard", "dangerRefusal", "(II)I"⟩ prog_1_method_62_code 3 (Option.some Jvm.ClassFile.FieldType.int)) ∈ lw_gd := tb_in4 (i := 82) rfl rfl
theorem tb_803 : (Jvm.Cond.methodLink "MedalBoard" 294 ⟨"MedalBoard", "isSize", "(I)Z"⟩) ∈ lw_gd := tb_in4 (i := 83) rfl rfl
theorem tb_804 : (Jvm.Cond.static ⟨"MedalBoard", "isSize", "(I)Z"⟩) ∈ lw_gd := tb_in4 (i := 84) rfl rfl
theorem tb_805 : (Jvm.Cond.code ⟨"MedalBoard", "isSize", "(I)Z"⟩ prog_1_method_69_code 1 (Option.some Jvm.ClassFile.FieldType.boolean)) ∈ lw_gd := tb_in4 (i := 85) rfl rfl
theorem tb_806 : (Jvm.Cond.methodLink "MedalBoard" 269 ⟨"MedalBoard$Army", "endure", "(II)I"⟩) ∈ lw_gd := tb_in4 (i := 86) rfl rfl
theorem tb_807 : (Jvm.Cond.instanceMethod ⟨"MedalBoard$Army", "endure", "(II)I"⟩) ∈ lw_gd := tb_in4 (i := 87) rfl rfl
theorem tb_808 : (Jvm.Cond.selects "MedalBoard$Army" ⟨"MedalBoard$Army", "endure", "(II)I"⟩ ⟨"MedalBoard$Army", "endure", "(II)I"⟩) ∈ lw_gd := tb_in4 (i := 88) rfl rfl
theorem tb_809 : (Jvm.Cond.code ⟨"MedalBoard$Army", "endure", "(II)I"⟩ prog_2_method_19_code 4 (Option.some Jvm.ClassFile.FieldType.int)) ∈ lw_gd := tb_in4 (i := 89) rfl rfl
theorem tb_810 : (Jvm.Cond.methodLink "MedalBoard$Army" 83 ⟨"MedalBoard$Army", "bravery", "(I)I"⟩) ∈ lw_gd := tb_in4 (i := 90) rfl rfl
theorem tb_811 : (Jvm.Cond.methodLink "MedalBoard$Army" 87 ⟨"MedalBoard$Army", "runners", "(I)I"⟩) ∈ lw_gd := tb_in4 (i := 91) rfl rfl
theorem tb_812 : (Jvm.Cond.instanceMethod ⟨"MedalBoard$Army", "runners", "(I)I"⟩) ∈ lw_gd := tb_in4 (i := 92) rfl rfl
theorem tb_813 : (Jvm.Cond.selects "MedalBoard$Army" ⟨"MedalBoard$Army", "runners", "(I)I"⟩ ⟨"MedalBoard$Army", "runners", "(I)I"⟩) ∈ lw_gd := tb_in4 (i := 93) rfl rfl
theorem tb_814 : (Jvm.Cond.code ⟨"MedalBoard$Army", "runners", "(I)I"⟩ prog_2_method_14_code 4 (Option.some Jvm.ClassFile.FieldType.int)) ∈ lw_gd := tb_in4 (i := 94) rfl rfl
theorem tb_815 : (Jvm.Cond.methodLink "MedalBoard$Army" 93 ⟨"MedalBoard$Army", "winnerOf", "(I)I"⟩) ∈ lw_gd := tb_in4 (i := 95) rfl rfl
theorem tb_816 : (Jvm.Cond.instanceMethod ⟨"MedalBoard$Army", "winnerOf", "(I)I"⟩) ∈ lw_gd := tb_in4 (i := 96) rfl rfl
theorem tb_817 : (Jvm.Cond.selects "MedalBoard$Army" ⟨"MedalBoard$Army", "winnerOf", "(I)I"⟩ ⟨"MedalBoard$Army", "winnerOf", "(I)I"⟩) ∈ lw_gd := tb_in4 (i := 97) rfl rfl
theorem tb_818 : (Jvm.Cond.code ⟨"MedalBoard$Army", "winnerOf", "(I)I"⟩ prog_2_method_18_code 5 (Option.some Jvm.ClassFile.FieldType.int)) ∈ lw_gd := tb_in4 (i := 98) rfl rfl
theorem tb_819 : (Jvm.Cond.methodLink "MedalBoard$Army" 90 ⟨"MedalBoard$Army", "choiceOf", "(II)I"⟩) ∈ lw_gd := tb_in4 (i := 99) rfl rfl
theorem tb_820 : (Jvm.Cond.instanceMethod ⟨"MedalBoard$Army", "choiceOf", "(II)I"⟩) ∈ lw_gd := tb_in4 (i := 100) rfl rfl
theorem tb_821 : (Jvm.Cond.selects "MedalBoard$Army" ⟨"MedalBoard$Army", "choiceOf", "(II)I"⟩ ⟨"MedalBoard$Army", "choiceOf", "(II)I"⟩) ∈ lw_gd := tb_in4 (i := 101) rfl rfl
theorem tb_822 : (Jvm.Cond.code ⟨"MedalBoard$Army", "choiceOf", "(II)I"⟩ prog_2_method_16_code 7 (Option.some Jvm.ClassFile.FieldType.int)) ∈ lw_gd := tb_in4 (i := 102) rfl rfl
theorem tb_823 : (Jvm.Cond.methodLink "MedalBoard$Army" 96 ⟨"MedalBoard$Army", "pin", "(I)Z"⟩) ∈ lw_gd := tb_in4 (i := 103) rfl rfl
theorem tb_824 : (Jvm.Cond.instanceMethod ⟨"MedalBoard$Army", "pin", "(I)Z"⟩) ∈ lw_gd := tb_in4 (i := 104) rfl rfl
theorem tb_825 : (Jvm.Cond.selects "MedalBoard$Army" ⟨"MedalBoard$Army", "pin", "(I)Z"⟩ ⟨"MedalBoard$Army", "pin", "(I)Z"⟩) ∈ lw_gd := tb_in4 (i := 105) rfl rfl
theorem tb_826 : (Jvm.Cond.code ⟨"MedalBoard$Army", "pin", "(I)Z"⟩ prog_2_method_20_code 2 (Option.some Jvm.ClassFile.FieldType.boolean)) ∈ lw_gd := tb_in4 (i := 106) rfl rfl
theorem tb_827 : (Jvm.Cond.methodLink "MedalBoardLaw" 84 ⟨"MedalBoard", "give", "(II)I"⟩) ∈ lw_gd := tb_in4 (i := 107) rfl rfl
theorem tb_828 : (Jvm.Cond.instanceMethod ⟨"MedalBoard", "give", "(II)I"⟩) ∈ lw_gd := tb_in4 (i := 108) rfl rfl
theorem tb_829 : (Jvm.Cond.selects "MedalBoard" ⟨"MedalBoard", "give", "(II)I"⟩ ⟨"MedalBoard", "give", "(II)I"⟩) ∈ lw_gd := tb_in4 (i := 109) rfl rfl
theorem tb_830 : (Jvm.Cond.code ⟨"MedalBoard", "give", "(II)I"⟩ prog_1_method_17_code 3 (Option.some Jvm.ClassFile.FieldType.int)) ∈ lw_gd := tb_in4 (i := 110) rfl rfl
theorem tb_831 : (Jvm.Cond.methodLink "MedalBoard" 272 ⟨"MedalBoard$Army", "handOver", "(II)Z"⟩) ∈ lw_gd := tb_in4 (i := 111) rfl rfl
theorem tb_832 : (Jvm.Cond.instanceMethod ⟨"MedalBoard$Army", "handOver", "(II)Z"⟩) ∈ lw_gd := tb_in4 (i := 112) rfl rfl
theorem tb_833 : (Jvm.Cond.selects "MedalBoard$Army" ⟨"MedalBoard$Army", "handOver", "(II)Z"⟩ ⟨"MedalBoard$Army", "handOver", "(II)Z"⟩) ∈ lw_gd := tb_in4 (i := 113) rfl rfl
theorem tb_834 : (Jvm.Cond.code ⟨"MedalBoard$Army", "handOver", "(II)Z"⟩ prog_2_method_22_code 3 (Option.some Jvm.ClassFile.FieldType.boolean)) ∈ lw_gd := tb_in4 (i := 114) rfl rfl
theorem tb_835 : (Jvm.Cond.methodLink "MedalBoard$Army" 99 ⟨"MedalBoard$Army", "lives", "(I)Z"⟩) ∈ lw_gd := tb_in4 (i := 115) rfl rfl
theorem tb_836 : (Jvm.Cond.methodLink "MedalBoardLaw" 88 ⟨"MedalBoard", "lose", "(I)I"⟩) ∈ lw_gd := tb_in4 (i := 116) rfl rfl
theorem tb_837 : (Jvm.Cond.instanceMethod ⟨"MedalBoard", "lose", "(I)I"⟩) ∈ lw_gd := tb_in4 (i := 117) rfl rfl
theorem tb_838 : (Jvm.Cond.selects "MedalBoard" ⟨"MedalBoard", "lose", "(I)I"⟩ ⟨"MedalBoard", "lose", "(I)I"⟩) ∈ lw_gd := tb_in4 (i := 118) rfl rfl
theorem tb_839 : (Jvm.Cond.code ⟨"MedalBoard", "lose", "(I)I"⟩ prog_1_method_18_code 2 (Option.some Jvm.ClassFile.FieldType.int)) ∈ lw_gd := tb_in4 (i := 119) rfl rfl
theorem tb_840 : (Jvm.Cond.methodLink "MedalBoard" 275 ⟨"MedalBoard$Army", "loseOne", "(I)Z"⟩) ∈ lw_gd := tb_in4 (i := 120) rfl rfl
theorem tb_841 : (Jvm.Cond.instanceMethod ⟨"MedalBoard$Army", "loseOne", "(I)Z"⟩) ∈ lw_gd := tb_in4 (i := 121) rfl rfl
theorem tb_842 : (Jvm.Cond.selects "MedalBoard$Army" ⟨"MedalBoard$Army", "loseOne", "(I)Z"⟩ ⟨"MedalBoard$Army", "loseOne", "(I)Z"⟩) ∈ lw_gd := tb_in4 (i := 122) rfl rfl
theorem tb_843 : (Jvm.Cond.code ⟨"MedalBoard$Army", "loseOne", "(I)Z"⟩ prog_2_method_23_code 2 (Option.some Jvm.ClassFile.FieldType.boolean)) ∈ lw_gd := tb_in4 (i := 123) rfl rfl
theorem tb_844 : (Jvm.Cond.methodLink "MedalBoardLaw" 92 ⟨"MedalBoard", "fall", "(I)I"⟩) ∈ lw_gd := tb_in4 (i := 124) rfl rfl
theorem tb_845 : (Jvm.Cond.instanceMethod ⟨"MedalBoard", "fall", "(I)I"⟩) ∈ lw_gd := tb_in4 (i := 125) rfl rfl
theorem tb_846 : (Jvm.Cond.selects "MedalBoard" ⟨"MedalBoard", "fall", "(I)I"⟩ ⟨"MedalBoard", "fall", "(I)I"⟩) ∈ lw_gd := tb_in4 (i := 126) rfl rfl
theorem tb_847 : (Jvm.Cond.code ⟨"MedalBoard", "fall", "(I)I"⟩ prog_1_method_19_code 2 (Option.some Jvm.ClassFile.FieldType.int)) ∈ lw_gd := tb_in4 (i := 127) rfl rfl
theorem tb_848 : (Jvm.Cond.methodLink "MedalBoard" 278 ⟨"MedalBoard$Army", "strike", "(I)Z"⟩) ∈ lw_gd := tb_in4 (i := 128) rfl rfl
theorem tb_849 : (Jvm.Cond.instanceMethod ⟨"MedalBoard$Army", "strike", "(I)Z"⟩) ∈ lw_gd := tb_in4 (i := 129) rfl rfl
theorem tb_850 : (Jvm.Cond.selects "MedalBoard$Army" ⟨"MedalBoard$Army", "strike", "(I)Z"⟩ ⟨"MedalBoard$Army", "strike", "(I)Z"⟩) ∈ lw_gd := tb_in4 (i := 130) rfl rfl
theorem tb_851 : (Jvm.Cond.code ⟨"MedalBoard$Army", "strike", "(I)Z"⟩ prog_2_method_24_code 2 (Option.some Jvm.ClassFile.FieldType.boolean)) ∈ lw_gd := tb_in4 (i := 131) rfl rfl
theorem tb_852 : (Jvm.Cond.methodLink "MedalBoard" 281 ⟨"java/lang/Integer", "bitCount", "(I)I"⟩) ∈ lw_gd := tb_in4 (i := 132) rfl rfl
theorem tb_853 : (Jvm.Cond.static ⟨"java/lang/Integer", "bitCount", "(I)I"⟩) ∈ lw_gd := tb_in4 (i := 133) rfl rfl
theorem tb_854 : (Jvm.Cond.code ⟨"java/lang/Integer", "bitCount", "(I)I"⟩ prog_15_method_49_code 1 (Option.some Jvm.ClassFile.FieldType.int)) ∈ lw_gd := tb_in4 (i := 134) rfl rfl
theorem tb_855 : (Jvm.Cond.constant "java/lang/Integer" 265 1431655765) ∈ lw_gd := tb_in4 (i := 135) rfl rfl
theorem tb_856 : (Jvm.Cond.constant "java/lang/Integer" 266 858993459) ∈ lw_gd := tb_in4 (i := 136) rfl rfl
theorem tb_857 : (Jvm.Cond.constant "java/lang/Integer" 267 252645135) ∈ lw_gd := tb_in4 (i := 137) rfl rfl
theorem tb_858 : (Jvm.Cond.methodLink "MedalBoardLaw" 96 ⟨"MedalBoard", "enlist", "(II)I"⟩) ∈ lw_gd := tb_in4 (i := 138) rfl rfl
theorem tb_859 : (Jvm.Cond.instanceMethod ⟨"MedalBoard", "enlist", "(II)I"⟩) ∈ lw_gd := tb_in4 (i := 139) rfl rfl
theorem tb_860 : (Jvm.Cond.selects "MedalBoard" ⟨"MedalBoard", "enlist", "(II)I"⟩ ⟨"MedalBoard", "enlist", "(II)I"⟩) ∈ lw_gd := tb_in4 (i := 140) rfl rfl
theorem tb_861 : (Jvm.Cond.code ⟨"MedalBoard", "enlist", "(II)I"⟩ prog_1_method_20_code 3 (Option.some Jvm.ClassFile.FieldType.int)) ∈ lw_gd := tb_in4 (i := 141) rfl rfl
theorem tb_862 : (Jvm.Cond.methodLink "MedalBoard" 286 ⟨"MedalBoard$Army", "add", "(JII)I"⟩) ∈ lw_gd := tb_in4 (i := 142) rfl rfl
theorem tb_863 : (Jvm.Cond.methodLink "MedalBoardLaw" 100 ⟨"MedalBoard", "train", "(II)Z"⟩) ∈ lw_gd := tb_in4 (i := 143) rfl rfl
theorem tb_864 : (Jvm.Cond.instanceMethod ⟨"MedalBoard", "train", "(II)Z"⟩) ∈ lw_gd := tb_in4 (i := 144) rfl rfl
theorem tb_865 : (Jvm.Cond.selects "MedalBoard" ⟨"MedalBoard", "train", "(II)Z"⟩ ⟨"MedalBoard", "train", "(II)Z"⟩) ∈ lw_gd := tb_in4 (i := 145) rfl rfl
theorem tb_866 : (Jvm.Cond.code ⟨"MedalBoard", "train", "(II)Z"⟩ prog_1_method_21_code 3 (Option.some Jvm.ClassFile.FieldType.boolean)) ∈ lw_gd := tb_in4 (i := 146) rfl rfl
theorem tb_867 : (Jvm.Cond.methodLink "MedalBoardLaw" 105 ⟨"MedalBoard", "weigh", "(II)Z"⟩) ∈ lw_gd := tb_in4 (i := 147) rfl rfl
theorem tb_868 : (Jvm.Cond.instanceMethod ⟨"MedalBoard", "weigh", "(II)Z"⟩) ∈ lw_gd := tb_in4 (i := 148) rfl rfl
theorem tb_869 : (Jvm.Cond.selects "MedalBoard" ⟨"MedalBoard", "weigh", "(II)Z"⟩ ⟨"MedalBoard", "weigh", "(II)Z"⟩) ∈ lw_gd := tb_in4 (i := 149) rfl rfl
theorem tb_870 : (Jvm.Cond.code ⟨"MedalBoard", "weigh", "(II)Z"⟩ prog_1_method_22_code 3 (Option.some Jvm.ClassFile.FieldType.boolean)) ∈ lw_gd := tb_in4 (i := 150) rfl rfl
theorem tb_871 : (Jvm.Cond.methodLink "MedalBoardLaw" 109 ⟨"MedalBoard", "charm", "(III)Z"⟩) ∈ lw_gd := tb_in4 (i := 151) rfl rfl
theorem tb_872 : (Jvm.Cond.instanceMethod ⟨"MedalBoard", "charm", "(III)Z"⟩) ∈ lw_gd := tb_in4 (i := 152) rfl rfl
theorem tb_873 : (Jvm.Cond.selects "MedalBoard" ⟨"MedalBoard", "charm", "(III)Z"⟩ ⟨"MedalBoard", "charm", "(III)Z"⟩) ∈ lw_gd := tb_in4 (i := 153) rfl rfl
theorem tb_874 : (Jvm.Cond.code ⟨"MedalBoard", "charm", "(III)Z"⟩ prog_1_method_23_code 4 (Option.some Jvm.ClassFile.FieldType.boolean)) ∈ lw_gd := tb_in4 (i := 154) rfl rfl
theorem tb_875 : (Jvm.Cond.methodLink "MedalBoard" 290 ⟨"MedalBoard$Army", "setLiking", "(III)V"⟩) ∈ lw_gd := tb_in4 (i := 155) rfl rfl
theorem tb_876 : (Jvm.Cond.methodLink "MedalBoardLaw" 113 ⟨"MedalBoard", "rule", "(II)Z"⟩) ∈ lw_gd := tb_in4 (i := 156) rfl rfl
theorem tb_877 : (Jvm.Cond.instanceMethod ⟨"MedalBoard", "rule", "(II)Z"⟩) ∈ lw_gd := tb_in4 (i := 157) rfl rfl
theorem tb_878 : (Jvm.Cond.selects "MedalBoard" ⟨"MedalBoard", "rule", "(II)Z"⟩ ⟨"MedalBoard", "rule", "(II)Z"⟩) ∈ lw_gd := tb_in4 (i := 158) rfl rfl
theorem tb_879 : (Jvm.Cond.code ⟨"MedalBoard", "rule", "(II)Z"⟩ prog_1_method_24_code 3 (Option.some Jvm.ClassFile.FieldType.boolean)) ∈ lw_gd := tb_in4 (i := 159) rfl rfl
theorem tb_880 : (Jvm.Cond.methodLink "MedalBoardLaw" 117 ⟨"MedalBoard", "brave", "(I)I"⟩) ∈ lw_gd := tb_in4 (i := 160) rfl rfl
theorem tb_881 : (Jvm.Cond.instanceMethod ⟨"MedalBoard", "brave", "(I)I"⟩) ∈ lw_gd := tb_in4 (i := 161) rfl rfl
theorem tb_882 : (Jvm.Cond.selects "MedalBoard" ⟨"MedalBoard", "brave", "(I)I"⟩ ⟨"MedalBoard", "brave", "(I)I"⟩) ∈ lw_gd := tb_in4 (i := 162) rfl rfl
theorem tb_883 : (Jvm.Cond.code ⟨"MedalBoard", "brave", "(I)I"⟩ prog_1_method_25_code 2 (Option.some Jvm.ClassFile.FieldType.int)) ∈ lw_gd := tb_in4 (i := 163) rfl rfl
theorem tb_884 : (Jvm.Cond.methodLink "MedalBoard" 297 ⟨"MedalBoard$Army", "runners", "(I)I"⟩) ∈ lw_gd := tb_in4 (i := 164) rfl rfl
theorem tb_885 : (Jvm.Cond.methodLink "MedalBoardLaw" 121 ⟨"MedalBoard", "limit", "(I)I"⟩) ∈ lw_gd := tb_in4 (i := 165) rfl rfl
theorem tb_886 : (Jvm.Cond.instanceMethod ⟨"MedalBoard", "limit", "(I)I"⟩) ∈ lw_gd := tb_in4 (i := 166) rfl rfl
theorem tb_887 : (Jvm.Cond.selects "MedalBoard" ⟨"MedalBoard", "limit", "(I)I"⟩ ⟨"MedalBoard", "limit", "(I)I"⟩) ∈ lw_gd := tb_in4 (i := 167) rfl rfl
theorem tb_888 : (Jvm.Cond.code ⟨"MedalBoard", "limit", "(I)I"⟩ prog_1_method_26_code 3 (Option.some Jvm.ClassFile.FieldType.int)) ∈ lw_gd := tb_in4 (i := 168) rfl rfl
theorem tb_889 : (Jvm.Cond.methodLink "MedalBoardLaw" 125 ⟨"MedalBoard", "candidates", "(II)I"⟩) ∈ lw_gd := tb_in4 (i := 169) rfl rfl
theorem tb_890 : (Jvm.Cond.instanceMethod ⟨"MedalBoard", "candidates", "(II)I"⟩) ∈ lw_gd := tb_in4 (i := 170) rfl rfl
theorem tb_891 : (Jvm.Cond.selects "MedalBoard" ⟨"MedalBoard", "candidates", "(II)I"⟩ ⟨"MedalBoard", "candidates", "(II)I"⟩) ∈ lw_gd := tb_in4 (i := 171) rfl rfl
theorem tb_892 : (Jvm.Cond.code ⟨"MedalBoard", "candidates", "(II)I"⟩ prog_1_method_27_code 4 (Option.some Jvm.ClassFile.FieldType.int)) ∈ lw_gd := tb_in4 (i := 172) rfl rfl
theorem tb_893 : (Jvm.Cond.methodLink "MedalBoard" 300 ⟨"MedalBoard$Army", "othersWhoRun", "(II)I"⟩) ∈ lw_gd := tb_in4 (i := 173) rfl rfl
theorem tb_894 : (Jvm.Cond.instanceMethod ⟨"MedalBoard$Army", "othersWhoRun", "(II)I"⟩) ∈ lw_gd := tb_in4 (i := 174) rfl rfl
theorem tb_895 : (Jvm.Cond.selects "MedalBoard$Army" ⟨"MedalBoard$Army", "othersWhoRun", "(II)I"⟩ ⟨"MedalBoard$Army", "othersWhoRun", "(II)I"⟩) ∈ lw_gd := tb_in4 (i := 175) rfl rfl
theorem tb_896 : (Jvm.Cond.code ⟨"MedalBoard$Army", "othersWhoRun", "(II)I"⟩ prog_2_method_15_code 3 (Option.some Jvm.ClassFile.FieldType.int)) ∈ lw_gd := tb_in4 (i := 176) rfl rfl
theorem tb_897 : (Jvm.Cond.methodLink "MedalBoardLaw" 129 ⟨"MedalBoard", "voteOf", "(III)I"⟩) ∈ lw_gd := tb_in4 (i := 177) rfl rfl
theorem tb_898 : (Jvm.Cond.instanceMethod ⟨"MedalBoard", "voteOf", "(III)I"⟩) ∈ lw_gd := tb_in4 (i := 178) rfl rfl
theorem tb_899 : (Jvm.Cond.selects "MedalBoard" ⟨"MedalBoard", "voteOf", "(III)I"⟩ ⟨"MedalBoard", "voteOf", "(III)I"⟩) ∈ lw_gd := tb_in4 (i := 179) rfl rfl
theorem tb_900 : (Jvm.Cond.code ⟨"MedalBoard", "voteOf", "(III)I"⟩ prog_1_method_28_code 5 (Option.some Jvm.ClassFile.FieldType.int)) ∈ lw_gd := tb_in4 (i := 180) rfl rfl
theorem tb_901 : (Jvm.Cond.methodLink "MedalBoard" 303 ⟨"MedalBoard$Army", "choiceOf", "(II)I"⟩) ∈ lw_gd := tb_in4 (i := 181) rfl rfl
theorem tb_902 : (Jvm.Cond.methodLink "MedalBoardLaw" 134 ⟨"MedalBoard", "votes", "(III)I"⟩) ∈ lw_gd := tb_in4 (i := 182) rfl rfl
theorem tb_903 : (Jvm.Cond.instanceMethod ⟨"MedalBoard", "votes", "(III)I"⟩) ∈ lw_gd := tb_in4 (i := 183) rfl rfl
theorem tb_904 : (Jvm.Cond.selects "MedalBoard" ⟨"MedalBoard", "votes", "(III)I"⟩ ⟨"MedalBoard", "votes", "(III)I"⟩) ∈ lw_gd := tb_in4 (i := 184) rfl rfl
theorem tb_905 : (Jvm.Cond.code ⟨"MedalBoard", "votes", "(III)I"⟩ prog_1_method_29_code 5 (Option.some Jvm.ClassFile.FieldType.int)) ∈ lw_gd := tb_in4 (i := 185) rfl rfl
theorem tb_906 : (Jvm.Cond.methodLink "MedalBoard" 306 ⟨"MedalBoard", "holds", "(II)Z"⟩) ∈ lw_gd := tb_in4 (i := 186) rfl rfl
theorem tb_907 : (Jvm.Cond.static ⟨"MedalBoard", "holds", "(II)Z"⟩) ∈ lw_gd := tb_in4 (i := 187) rfl rfl
theorem tb_908 : (Jvm.Cond.code ⟨"MedalBoard", "holds", "(II)Z"⟩ prog_1_method_70_code 2 (Option.some Jvm.ClassFile.FieldType.boolean)) ∈ lw_gd := tb_in4 (i := 188) rfl rfl
theorem tb_909 : (Jvm.Cond.methodLink "MedalBoard" 309 ⟨"MedalBoard$Army", "votesFor", "(II)I"⟩) ∈ lw_gd := tb_in4 (i := 189) rfl rfl
theorem tb_910 : (Jvm.Cond.instanceMethod ⟨"MedalBoard$Army", "votesFor", "(II)I"⟩) ∈ lw_gd := tb_in4 (i := 190) rfl rfl
theorem tb_911 : (Jvm.Cond.selects "MedalBoard$Army" ⟨"MedalBoard$Army", "votesFor", "(II)I"⟩ ⟨"MedalBoard$Army", "votesFor", "(II)I"⟩) ∈ lw_gd := tb_in4 (i := 191) rfl rfl
theorem tb_912 : (Jvm.Cond.code ⟨"MedalBoard$Army", "votesFor", "(II)I"⟩ prog_2_method_17_code 5 (Option.some Jvm.ClassFile.FieldType.int)) ∈ lw_gd := tb_in4 (i := 192) rfl rfl
theorem tb_913 : (Jvm.Cond.methodLink "MedalBoardLaw" 138 ⟨"MedalBoard", "goesTo", "(II)I"⟩) ∈ lw_gd := tb_in4 (i := 193) rfl rfl
theorem tb_914 : (Jvm.Cond.instanceMethod ⟨"MedalBoard", "goesTo", "(II)I"⟩) ∈ lw_gd := tb_in4 (i := 194) rfl rfl
theorem tb_915 : (Jvm.Cond.selects "MedalBoard" ⟨"MedalBoard", "goesTo", "(II)I"⟩ ⟨"MedalBoard", "goesTo", "(II)I"⟩) ∈ lw_gd := tb_in4 (i := 195) rfl rfl
theorem tb_916 : (Jvm.Cond.code ⟨"MedalBoard", "goesTo", "(II)I"⟩ prog_1_method_30_code 5 (Option.some Jvm.ClassFile.FieldType.int)) ∈ lw_gd := tb_in4 (i := 196) rfl rfl
theorem tb_917 : (Jvm.Cond.methodLink "MedalBoard" 312 ⟨"MedalBoard$Army", "winnerOf", "(I)I"⟩) ∈ lw_gd := tb_in4 (i := 197) rfl rfl
theorem tb_918 : (Jvm.Cond.methodLink "MedalBoardLaw" 142 ⟨"MedalBoard", "carries", "(I)I"⟩) ∈ lw_gd := tb_in4 (i := 198) rfl rfl
theorem tb_919 : (Jvm.Cond.instanceMethod ⟨"MedalBoard", "carries", "(I)I"⟩) ∈ lw_gd := tb_in4 (i := 199) rfl rfl
theorem tb_920 : (Jvm.Cond.selects "MedalBoard" ⟨"MedalBoard", "carries", "(I)I"⟩ ⟨"MedalBoard", "carries", "(I)I"⟩) ∈ lw_gd := tb_in4 (i := 200) rfl rfl
theorem tb_921 : (Jvm.Cond.code ⟨"MedalBoard", "carries", "(I)I"⟩ prog_1_method_31_code 2 (Option.some Jvm.ClassFile.FieldType.int)) ∈ lw_gd := tb_in4 (i := 201) rfl rfl
theorem tb_922 : (Jvm.Cond.methodLink "MedalBoard" 315 ⟨"MedalBoard$Army", "isCarriedBy", "(I)Z"⟩) ∈ lw_gd := tb_in4 (i := 202) rfl rfl
theorem tb_923 : (Jvm.Cond.instanceMethod ⟨"MedalBoard$Army", "isCarriedBy", "(I)Z"⟩) ∈ lw_gd := tb_in4 (i := 203) rfl rfl
theorem tb_924 : (Jvm.Cond.selects "MedalBoard$Army" ⟨"MedalBoard$Army", "isCarriedBy", "(I)Z"⟩ ⟨"MedalBoard$Army", "isCarriedBy", "(I)Z"⟩) ∈ lw_gd := tb_in4 (i := 204) rfl rfl
theorem tb_925 : (Jvm.Cond.code ⟨"MedalBoard$Army", "isCarriedBy", "(I)Z"⟩ prog_2_method_26_code 2 (Option.some Jvm.ClassFile.FieldType.boolean)) ∈ lw_gd := tb_in4 (i := 205) rfl rfl
theorem tb_926 : (Jvm.Cond.methodLink "MedalBoard$Army" 102 ⟨"MedalBoard$Army", "weightOf", "(I)I"⟩) ∈ lw_gd := tb_in4 (i := 206) rfl rfl
theorem tb_927 : (Jvm.Cond.instanceMethod ⟨"MedalBoard$Army", "weightOf", "(I)I"⟩) ∈ lw_gd := tb_in4 (i := 207) rfl rfl
theorem tb_928 : (Jvm.Cond.selects "MedalBoard$Army" ⟨"MedalBoard$Army", "weightOf", "(I)I"⟩ ⟨"MedalBoard$Army", "weightOf", "(I)I"⟩) ∈ lw_gd := tb_in4 (i := 208) rfl rfl
theorem tb_929 : (Jvm.Cond.code ⟨"MedalBoard$Army", "weightOf", "(I)I"⟩ prog_2_method_25_code 4 (Option.some Jvm.ClassFile.FieldType.int)) ∈ lw_gd := tb_in4 (i := 209) rfl rfl
theorem tb_930 : (Jvm.Cond.methodLink "MedalBoardLaw" 146 ⟨"MedalBoard", "fewest", "()I"⟩) ∈ lw_gd := tb_in4 (i := 210) rfl rfl
theorem tb_931 : (Jvm.Cond.instanceMethod ⟨"MedalBoard", "fewest", "()I"⟩) ∈ lw_gd := tb_in4 (i := 211) rfl rfl
theorem tb_932 : (Jvm.Cond.selects "MedalBoard" ⟨"MedalBoard", "fewest", "()I"⟩ ⟨"MedalBoard", "fewest", "()I"⟩) ∈ lw_gd := tb_in4 (i := 212) rfl rfl
theorem tb_933 : (Jvm.Cond.code ⟨"MedalBoard", "fewest", "()I"⟩ prog_1_method_32_code 2 (Option.some Jvm.ClassFile.FieldType.int)) ∈ lw_gd := tb_in4 (i := 213) rfl rfl
theorem tb_934 : (Jvm.Cond.methodLink "MedalBoard" 318 ⟨"MedalBoard$Council", "fewestOf", "(LMedalBoard$Army;)I"⟩) ∈ lw_gd := tb_in4 (i := 214) rfl rfl
theorem tb_935 : (Jvm.Cond.static ⟨"MedalBoard$Council", "fewestOf", "(LMedalBoard$Army;)I"⟩) ∈ lw_gd := tb_in4 (i := 215) rfl rfl
theorem tb_936 : (Jvm.Cond.code ⟨"MedalBoard$Council", "fewestOf", "(LMedalBoard$Army;)I"⟩ prog_5_method_2_code 5 (Option.some Jvm.ClassFile.FieldType.int)) ∈ lw_gd := tb_in4 (i := 216) rfl rfl
theorem tb_937 : (Jvm.Cond.methodLink "MedalBoard$Council" 15 ⟨"java/lang/Integer", "bitCount", "(I)I"⟩) ∈ lw_gd := tb_in4 (i := 217) rfl rfl
theorem tb_938 : (Jvm.Cond.methodLink "MedalBoard$Council" 21 ⟨"MedalBoard$Army", "isCarriedBy", "(I)Z"⟩) ∈ lw_gd := tb_in4 (i := 218) rfl rfl
theorem tb_939 : (Jvm.Cond.methodLink "MedalBoardLaw" 150 ⟨"MedalBoard", "fewestSet", "()I"⟩) ∈ lw_gd := tb_in4 (i := 219) rfl rfl
theorem tb_940 : (Jvm.Cond.instanceMethod ⟨"MedalBoard", "fewestSet", "()I"⟩) ∈ lw_gd := tb_in4 (i := 220) rfl rfl
theorem tb_941 : (Jvm.Cond.selects "MedalBoard" ⟨"MedalBoard", "fewestSet", "()I"⟩ ⟨"MedalBoard", "fewestSet", "()I"⟩) ∈ lw_gd := tb_in4 (i := 221) rfl rfl
theorem tb_942 : (Jvm.Cond.code ⟨"MedalBoard", "fewestSet", "()I"⟩ prog_1_method_33_code 2 (Option.some Jvm.ClassFile.FieldType.int)) ∈ lw_gd := tb_in4 (i := 222) rfl rfl
theorem tb_943 : (Jvm.Cond.methodLink "MedalBoardLaw" 154 ⟨"MedalBoard", "power", "(I)Z"⟩) ∈ lw_gd := tb_in4 (i := 223) rfl rfl
theorem tb_944 : (Jvm.Cond.instanceMethod ⟨"MedalBoard", "power", "(I)Z"⟩) ∈ lw_gd := tb_in4 (i := 224) rfl rfl
theorem tb_945 : (Jvm.Cond.selects "MedalBoard" ⟨"MedalBoard", "power", "(I)Z"⟩ ⟨"MedalBoard", "power", "(I)Z"⟩) ∈ lw_gd := tb_in4 (i := 225) rfl rfl
theorem tb_946 : (Jvm.Cond.code ⟨"MedalBoard", "power", "(I)Z"⟩ prog_1_method_34_code 2 (Option.some Jvm.ClassFile.FieldType.boolean)) ∈ lw_gd := tb_in4 (i := 226) rfl rfl
theorem tb_947 : (Jvm.Cond.methodLink "MedalBoard" 324 ⟨"MedalBoard$Council", "ordersCarriedBy", "(LMedalBoard$Army;I)I"⟩) ∈ lw_gd := tb_in4 (i := 227) rfl rfl
theorem tb_948 : (Jvm.Cond.static ⟨"MedalBoard$Council", "ordersCarriedBy", "(LMedalBoard$Army;I)I"⟩) ∈ lw_gd := tb_in4 (i := 228) rfl rfl
theorem tb_949 : (Jvm.Cond.code ⟨"MedalBoard$Council", "ordersCarriedBy", "(LMedalBoard$Army;I)I"⟩ prog_5_method_4_code 8 (Option.some Jvm.ClassFile.FieldType.int)) ∈ lw_gd := tb_in4 (i := 229) rfl rfl
theorem tb_950 : (Jvm.Cond.methodLink "MedalBoard$Council" 33 ⟨"MedalBoard$Council", "ordersOf", "(I)I"⟩) ∈ lw_gd := tb_in4 (i := 230) rfl rfl
theorem tb_951 : (Jvm.Cond.static ⟨"MedalBoard$Council", "ordersOf", "(I)I"⟩) ∈ lw_gd := tb_in4 (i := 231) rfl rfl
theorem tb_952 : (Jvm.Cond.code ⟨"MedalBoard$Council", "ordersOf", "(I)I"⟩ prog_5_method_3_code 1 (Option.some Jvm.ClassFile.FieldType.int)) ∈ lw_gd := tb_in4 (i := 232) rfl rfl
theorem tb_956 : (Jvm.Cond.methodLink "MedalBoard" 328 ⟨"MedalBoard$Council", "ordersOf", "(I)I"⟩) ∈ lw_gd := tb_in4 (i := 236) rfl rfl
theorem tb_957 : (Jvm.Cond.methodLink "MedalBoard" 331 ⟨"MedalBoard", "tell", "(JJ)V"⟩) ∈ lw_gd := tb_in4 (i := 237) rfl rfl
theorem tb_959 : (Jvm.Cond.instanceMethod ⟨"MedalBoard", "tell", "(JJ)V"⟩) ∈ lw_gd := tb_in4 (i := 239) rfl rfl
theorem tb_960 : (Jvm.Cond.code ⟨"MedalBoard", "tell", "(JJ)V"⟩ prog_1_method_60_code 7 (Option.none : Option Jvm.ClassFile.FieldType)) ∈ lw_gd := tb_in5 (i := 0) rfl rfl
theorem tb_961 : (Jvm.Cond.methodLink "MedalBoard" 415 ⟨"MedalBoard", "commonDivisor", "(JJ)J"⟩) ∈ lw_gd := tb_in5 (i := 1) rfl rfl
theorem tb_962 : (Jvm.Cond.static ⟨"MedalBoard", "commonDivisor", "(JJ)J"⟩) ∈ lw_gd := tb_in5 (i := 2) rfl rfl
theorem tb_963 : (Jvm.Cond.code ⟨"MedalBoard", "commonDivisor", "(JJ)J"⟩ prog_1_method_74_code 11 (Option.some Jvm.ClassFile.FieldType.long)) ∈ lw_gd := tb_in5 (i := 3) rfl rfl
theorem tb_964 : (Jvm.Cond.methodLink "MedalBoardLaw" 159 ⟨"MedalBoard", "mightiest", "()I"⟩) ∈ lw_gd := tb_in5 (i := 4) rfl rfl
theorem tb_965 : (Jvm.Cond.instanceMethod ⟨"MedalBoard", "mightiest", "()I"⟩) ∈ lw_gd := tb_in5 (i := 5) rfl rfl
theorem tb_966 : (Jvm.Cond.selects "MedalBoard" ⟨"MedalBoard", "mightiest", "()I"⟩ ⟨"MedalBoard", "mightiest", "()I"⟩) ∈ lw_gd := tb_in5 (i := 6) rfl rfl
theorem tb_967 : (Jvm.Cond.code ⟨"MedalBoard", "mightiest", "()I"⟩ prog_1_method_35_code 2 (Option.some Jvm.ClassFile.FieldType.int)) ∈ lw_gd := tb_in5 (i := 7) rfl rfl
theorem tb_968 : (Jvm.Cond.methodLink "MedalBoard" 335 ⟨"MedalBoard$Council", "mightiestOf", "(LMedalBoard$Army;)I"⟩) ∈ lw_gd := tb_in5 (i := 8) rfl rfl
theorem tb_969 : (Jvm.Cond.static ⟨"MedalBoard$Council", "mightiestOf", "(LMedalBoard$Army;)I"⟩) ∈ lw_gd := tb_in5 (i := 9) rfl rfl
theorem tb_970 : (Jvm.Cond.code ⟨"MedalBoard$Council", "mightiestOf", "(LMedalBoard$Army;)I"⟩ prog_5_method_5_code 5 (Option.some Jvm.ClassFile.FieldType.int)) ∈ lw_gd := tb_in5 (i := 10) rfl rfl
theorem tb_971 : (Jvm.Cond.methodLink "MedalBoard$Council" 41 ⟨"MedalBoard$Army", "lives", "(I)Z"⟩) ∈ lw_gd := tb_in5 (i := 11) rfl rfl
theorem tb_972 : (Jvm.Cond.methodLink "MedalBoard$Council" 44 ⟨"MedalBoard$Council", "ordersCarriedBy", "(LMedalBoard$Army;I)I"⟩) ∈ lw_gd := tb_in5 (i := 12) rfl rfl
theorem tb_973 : (Jvm.Cond.methodLink "MedalBoardLaw" 163 ⟨"MedalBoard", "veto", "(I)I"⟩) ∈ lw_gd := tb_in5 (i := 13) rfl rfl
theorem tb_974 : (Jvm.Cond.instanceMethod ⟨"MedalBoard", "veto", "(I)I"⟩) ∈ lw_gd := tb_in5 (i := 14) rfl rfl
theorem tb_975 : (Jvm.Cond.selects "MedalBoard" ⟨"MedalBoard", "veto", "(I)I"⟩ ⟨"MedalBoard", "veto", "(I)I"⟩) ∈ lw_gd := tb_in5 (i := 15) rfl rfl
theorem tb_976 : (Jvm.Cond.code ⟨"MedalBoard", "veto", "(I)I"⟩ prog_1_method_36_code 3 (Option.some Jvm.ClassFile.FieldType.int)) ∈ lw_gd := tb_in5 (i := 16) rfl rfl
theorem tb_977 : (Jvm.Cond.methodLink "MedalBoardLaw" 167 ⟨"MedalBoard", "most", "(III)I"⟩) ∈ lw_gd := tb_in5 (i := 17) rfl rfl
theorem tb_978 : (Jvm.Cond.instanceMethod ⟨"MedalBoard", "most", "(III)I"⟩) ∈ lw_gd := tb_in5 (i := 18) rfl rfl
theorem tb_979 : (Jvm.Cond.selects "MedalBoard" ⟨"MedalBoard", "most", "(III)I"⟩ ⟨"MedalBoard", "most", "(III)I"⟩) ∈ lw_gd := tb_in5 (i := 19) rfl rfl
theorem tb_980 : (Jvm.Cond.code ⟨"MedalBoard", "most", "(III)I"⟩ prog_1_method_37_code 6 (Option.some Jvm.ClassFile.FieldType.int)) ∈ lw_gd := tb_in5 (i := 20) rfl rfl
theorem tb_981 : (Jvm.Cond.methodLink "MedalBoard" 338 ⟨"MedalBoard", "ordersRefusal", "(ILMedalBoard$Tray;I)I"⟩) ∈ lw_gd := tb_in5 (i := 21) rfl rfl
theorem tb_983 : (Jvm.Cond.instanceMethod ⟨"MedalBoard", "ordersRefusal", "(ILMedalBoard$Tray;I)I"⟩) ∈ lw_gd := tb_in5 (i := 23) rfl rfl
theorem tb_984 : (Jvm.Cond.code ⟨"MedalBoard", "ordersRefusal", "(ILMedalBoard$Tray;I)I"⟩ prog_1_method_63_code 5 (Option.some Jvm.ClassFile.FieldType.int)) ∈ lw_gd := tb_in5 (i := 24) rfl rfl
theorem tb_985 : (Jvm.Cond.methodLink "MedalBoard" 419 ⟨"MedalBoard$Tray", "sizesRefusal", "(II)I"⟩) ∈ lw_gd := tb_in5 (i := 25) rfl rfl
theorem tb_986 : (Jvm.Cond.instanceMethod ⟨"MedalBoard$Tray", "sizesRefusal", "(II)I"⟩) ∈ lw_gd := tb_in5 (i := 26) rfl rfl
theorem tb_987 : (Jvm.Cond.selects "MedalBoard$Tray" ⟨"MedalBoard$Tray", "sizesRefusal", "(II)I"⟩ ⟨"MedalBoard$Tray", "sizesRefusal", "(II)I"⟩) ∈ lw_gd := tb_in5 (i := 27) rfl rfl
theorem tb_988 : (Jvm.Cond.code ⟨"MedalBoard$Tray", "sizesRefusal", "(II)I"⟩ prog_10_method_6_code 6 (Option.some Jvm.ClassFile.FieldType.int)) ∈ lw_gd := tb_in5 (i := 28) rfl rfl
theorem tb_989 : (Jvm.Cond.methodLink "MedalBoard$Tray" 40 ⟨"MedalBoard$Tray", "at", "(I)J"⟩) ∈ lw_gd := tb_in5 (i := 29) rfl rfl
theorem tb_990 : (Jvm.Cond.constantLong "MedalBoard$Tray" 44 99) ∈ lw_gd := tb_in5 (i := 30) rfl rfl
theorem tb_991 : (Jvm.Cond.methodLink "MedalBoard" 342 ⟨"MedalBoard$Foresight", "look", "(LMedalBoard$Army;LMedalBoard$Tray;I)V"⟩) ∈ lw_gd := tb_in5 (i := 31) rfl rfl
theorem tb_992 : (Jvm.Cond.instanceMethod ⟨"MedalBoard$Foresight", "look", "(LMedalBoard$Army;LMedalBoard$Tray;I)V"⟩) ∈ lw_gd := tb_in5 (i := 32) rfl rfl
theorem tb_993 : (Jvm.Cond.selects "MedalBoard$Foresight" ⟨"MedalBoard$Foresight", "look", "(LMedalBoard$Army;LMedalBoard$Tray;I)V"⟩ ⟨"MedalBoard$Foresight", "look", "(LMedalBoard$Army;LMedalBoard$Tray;I)V"⟩) ∈ lw_gd := tb_in5 (i := 33) rfl rfl
theorem tb_994 : (Jvm.Cond.code ⟨"MedalBoard$Foresight", "look", "(LMedalBoard$Army;LMedalBoard$Tray;I)V"⟩ prog_6_method_2_code 5 (Option.none : Option Jvm.ClassFile.FieldType)) ∈ lw_gd := tb_in5 (i := 34) rfl rfl
theorem tb_995 : (Jvm.Cond.methodLink "MedalBoard$Foresight" 26 ⟨"MedalBoard$Army", "become", "(LMedalBoard$Army;)V"⟩) ∈ lw_gd := tb_in5 (i := 35) rfl rfl
theorem tb_996 : (Jvm.Cond.methodLink "MedalBoard$Foresight" 30 ⟨"java/lang/Math", "min", "(II)I"⟩) ∈ lw_gd := tb_in5 (i := 36) rfl rfl
theorem tb_997 : (Jvm.Cond.methodLink "MedalBoard$Foresight" 36 ⟨"java/lang/Math", "max", "(II)I"⟩) ∈ lw_gd := tb_in5 (i := 37) rfl rfl
theorem tb_998 : (Jvm.Cond.methodLink "MedalBoard$Foresight" 39 ⟨"MedalBoard$Tray", "at", "(I)J"⟩) ∈ lw_gd := tb_in5 (i := 38) rfl rfl
theorem tb_999 : (Jvm.Cond.methodLink "MedalBoard" 346 ⟨"MedalBoard$Foresight", "mostFor", "(I)I"⟩) ∈ lw_gd := tb_in5 (i := 39) rfl rfl
theorem tb_1000 : (Jvm.Cond.instanceMethod ⟨"MedalBoard$Foresight", "mostFor", "(I)I"⟩) ∈ lw_gd := tb_in5 (i := 40) rfl rfl
theorem tb_1001 : (Jvm.Cond.selects "MedalBoard$Foresight" ⟨"MedalBoard$Foresight", "mostFor", "(I)I"⟩ ⟨"MedalBoard$Foresight", "mostFor", "(I)I"⟩) ∈ lw_gd := tb_in5 (i := 41) rfl rfl
theorem tb_1002 : (Jvm.Cond.code ⟨"MedalBoard$Foresight", "mostFor", "(I)I"⟩ prog_6_method_3_code 2 (Option.some Jvm.ClassFile.FieldType.int)) ∈ lw_gd := tb_in5 (i := 42) rfl rfl
theorem tb_1003 : (Jvm.Cond.methodLink "MedalBoard$Foresight" 45 ⟨"MedalBoard$Army", "isMan", "(I)Z"⟩) ∈ lw_gd := tb_in5 (i := 43) rfl rfl
theorem tb_1004 : (Jvm.Cond.methodLink "MedalBoard$Foresight" 49 ⟨"MedalBoard$Foresight", "mostFrom", "(II)I"⟩) ∈ lw_gd := tb_in5 (i := 44) rfl rfl
theorem tb_1006 : (Jvm.Cond.instanceMethod ⟨"MedalBoard$Foresight", "mostFrom", "(II)I"⟩) ∈ lw_gd := tb_in5 (i := 46) rfl rfl
theorem tb_1007 : (Jvm.Cond.code ⟨"MedalBoard$Foresight", "mostFrom", "(II)I"⟩ prog_6_method_6_code 6 (Option.some Jvm.ClassFile.FieldType.int)) ∈ lw_gd := tb_in5 (i := 47) rfl rfl
theorem tb_1008 : (Jvm.Cond.methodLink "MedalBoard$Foresight" 62 ⟨"MedalBoard$Army", "runners", "(I)I"⟩) ∈ lw_gd := tb_in5 (i := 48) rfl rfl
theorem tb_1009 : (Jvm.Cond.methodLink "MedalBoard$Foresight" 78 ⟨"MedalBoard$Foresight", "mostIfStood", "(III)I"⟩) ∈ lw_gd := tb_in5 (i := 49) rfl rfl
theorem tb_1011 : (Jvm.Cond.instanceMethod ⟨"MedalBoard$Foresight", "mostIfStood", "(III)I"⟩) ∈ lw_gd := tb_in5 (i := 51) rfl rfl
theorem tb_1012 : (Jvm.Cond.code ⟨"MedalBoard$Foresight", "mostIfStood", "(III)I"⟩ prog_6_method_7_code 7 (Option.some Jvm.ClassFile.FieldType.int)) ∈ lw_gd := tb_in5 (i := 52) rfl rfl
theorem tb_1013 : (Jvm.Cond.methodLink "MedalBoard$Foresight" 66 ⟨"MedalBoard$Army", "winnerOf", "(I)I"⟩) ∈ lw_gd := tb_in5 (i := 53) rfl rfl
theorem tb_1014 : (Jvm.Cond.methodLink "MedalBoard$Foresight" 69 ⟨"MedalBoard$Army", "pin", "(I)Z"⟩) ∈ lw_gd := tb_in5 (i := 54) rfl rfl
theorem tb_1015 : (Jvm.Cond.methodLink "MedalBoard$Foresight" 82 ⟨"MedalBoard$Army", "unpin", "(I)V"⟩) ∈ lw_gd := tb_in5 (i := 55) rfl rfl
theorem tb_1016 : (Jvm.Cond.instanceMethod ⟨"MedalBoard$Army", "unpin", "(I)V"⟩) ∈ lw_gd := tb_in5 (i := 56) rfl rfl
theorem tb_1017 : (Jvm.Cond.selects "MedalBoard$Army" ⟨"MedalBoard$Army", "unpin", "(I)V"⟩ ⟨"MedalBoard$Army", "unpin", "(I)V"⟩) ∈ lw_gd := tb_in5 (i := 57) rfl rfl
theorem tb_1018 : (Jvm.Cond.code ⟨"MedalBoard$Army", "unpin", "(I)V"⟩ prog_2_method_21_code 2 (Option.none : Option Jvm.ClassFile.FieldType)) ∈ lw_gd := tb_in5 (i := 58) rfl rfl
theorem tb_1019 : (Jvm.Cond.methodLink "MedalBoardLaw" 171 ⟨"MedalBoard", "facesAt", "(IIII)I"⟩) ∈ lw_gd := tb_in5 (i := 59) rfl rfl
theorem tb_1020 : (Jvm.Cond.instanceMethod ⟨"MedalBoard", "facesAt", "(IIII)I"⟩) ∈ lw_gd := tb_in5 (i := 60) rfl rfl
theorem tb_1021 : (Jvm.Cond.selects "MedalBoard" ⟨"MedalBoard", "facesAt", "(IIII)I"⟩ ⟨"MedalBoard", "facesAt", "(IIII)I"⟩) ∈ lw_gd := tb_in5 (i := 61) rfl rfl
theorem tb_1022 : (Jvm.Cond.code ⟨"MedalBoard", "facesAt", "(IIII)I"⟩ prog_1_method_38_code 7 (Option.some Jvm.ClassFile.FieldType.int)) ∈ lw_gd := tb_in5 (i := 62) rfl rfl
theorem tb_1023 : (Jvm.Cond.methodLink "MedalBoard" 349 ⟨"MedalBoard$Foresight", "facerOf", "(II)I"⟩) ∈ lw_gd := tb_in5 (i := 63) rfl rfl
theorem tb_1024 : (Jvm.Cond.instanceMethod ⟨"MedalBoard$Foresight", "facerOf", "(II)I"⟩) ∈ lw_gd := tb_in5 (i := 64) rfl rfl
theorem tb_1025 : (Jvm.Cond.selects "MedalBoard$Foresight" ⟨"MedalBoard$Foresight", "facerOf", "(II)I"⟩ ⟨"MedalBoard$Foresight", "facerOf", "(II)I"⟩) ∈ lw_gd := tb_in5 (i := 65) rfl rfl
theorem tb_1026 : (Jvm.Cond.code ⟨"MedalBoard$Foresight", "facerOf", "(II)I"⟩ prog_6_method_4_code 5 (Option.some Jvm.ClassFile.FieldType.int)) ∈ lw_gd := tb_in5 (i := 66) rfl rfl
theorem tb_1027 : (Jvm.Cond.methodLink "MedalBoard$Foresight" 55 ⟨"MedalBoard$Foresight", "firstBestFacer", "(II)I"⟩) ∈ lw_gd := tb_in5 (i := 67) rfl rfl
theorem tb_1029 : (Jvm.Cond.instanceMethod ⟨"MedalBoard$Foresight", "firstBestFacer", "(II)I"⟩) ∈ lw_gd := tb_in5 (i := 69) rfl rfl
theorem tb_1030 : (Jvm.Cond.code ⟨"MedalBoard$Foresight", "firstBestFacer", "(II)I"⟩ prog_6_method_5_code 8 (Option.some Jvm.ClassFile.FieldType.int)) ∈ lw_gd := tb_in5 (i := 70) rfl rfl
theorem tb_1032 : (Jvm.Cond.static ⟨"MedalBoard", "firstOf", "(I)I"⟩) ∈ lw_gd := tb_in5 (i := 72) rfl rfl
theorem tb_1033 : (Jvm.Cond.code ⟨"MedalBoard", "firstOf", "(I)I"⟩ prog_1_method_71_code 2 (Option.some Jvm.ClassFile.FieldType.int)) ∈ lw_gd := tb_in5 (i := 73) rfl rfl
theorem tb_1034 : (Jvm.Cond.methodLink "MedalBoard$Foresight" 58 ⟨"MedalBoard$Army", "stands", "(II)Z"⟩) ∈ lw_gd := tb_in5 (i := 74) rfl rfl
theorem tb_1035 : (Jvm.Cond.instanceMethod ⟨"MedalBoard$Army", "stands", "(II)Z"⟩) ∈ lw_gd := tb_in5 (i := 75) rfl rfl
theorem tb_1036 : (Jvm.Cond.selects "MedalBoard$Army" ⟨"MedalBoard$Army", "stands", "(II)Z"⟩ ⟨"MedalBoard$Army", "stands", "(II)Z"⟩) ∈ lw_gd := tb_in5 (i := 76) rfl rfl
theorem tb_1037 : (Jvm.Cond.code ⟨"MedalBoard$Army", "stands", "(II)Z"⟩ prog_2_method_13_code 3 (Option.some Jvm.ClassFile.FieldType.boolean)) ∈ lw_gd := tb_in5 (i := 77) rfl rfl
theorem tb_1038 : (Jvm.Cond.methodLink "MedalBoardLaw" 176 ⟨"MedalBoard", "seen", "(III)I"⟩) ∈ lw_gd := tb_in5 (i := 78) rfl rfl
theorem tb_1039 : (Jvm.Cond.instanceMethod ⟨"MedalBoard", "seen", "(III)I"⟩) ∈ lw_gd := tb_in5 (i := 79) rfl rfl
theorem tb_1040 : (Jvm.Cond.selects "MedalBoard" ⟨"MedalBoard", "seen", "(III)I"⟩ ⟨"MedalBoard", "seen", "(III)I"⟩) ∈ lw_gd := tb_in5 (i := 80) rfl rfl
theorem tb_1041 : (Jvm.Cond.code ⟨"MedalBoard", "seen", "(III)I"⟩ prog_1_method_39_code 6 (Option.some Jvm.ClassFile.FieldType.int)) ∈ lw_gd := tb_in5 (i := 81) rfl rfl
theorem tb_1042 : (Jvm.Cond.methodLink "MedalBoard" 352 ⟨"MedalBoard", "seenRefusal", "(ILMedalBoard$Tray;I)I"⟩) ∈ lw_gd := tb_in5 (i := 82) rfl rfl
theorem tb_1044 : (Jvm.Cond.instanceMethod ⟨"MedalBoard", "seenRefusal", "(ILMedalBoard$Tray;I)I"⟩) ∈ lw_gd := tb_in5 (i := 84) rfl rfl
theorem tb_1045 : (Jvm.Cond.code ⟨"MedalBoard", "seenRefusal", "(ILMedalBoard$Tray;I)I"⟩ prog_1_method_65_code 8 (Option.some Jvm.ClassFile.FieldType.int)) ∈ lw_gd := tb_in5 (i := 85) rfl rfl
theorem tb_1046 : (Jvm.Cond.methodLink "MedalBoard" 355 ⟨"MedalBoard", "fittingCourages", "(ILMedalBoard$Tray;I)I"⟩) ∈ lw_gd := tb_in5 (i := 86) rfl rfl
theorem tb_1048 : (Jvm.Cond.instanceMethod ⟨"MedalBoard", "fittingCourages", "(ILMedalBoard$Tray;I)I"⟩) ∈ lw_gd := tb_in5 (i := 88) rfl rfl
theorem tb_1049 : (Jvm.Cond.code ⟨"MedalBoard", "fittingCourages", "(ILMedalBoard$Tray;I)I"⟩ prog_1_method_66_code 9 (Option.some Jvm.ClassFile.FieldType.int)) ∈ lw_gd := tb_in5 (i := 89) rfl rfl
theorem tb_1050 : (Jvm.Cond.methodLink "MedalBoard" 422 ⟨"MedalBoard$Army", "braveryWith", "(II)I"⟩) ∈ lw_gd := tb_in5 (i := 90) rfl rfl
theorem tb_1051 : (Jvm.Cond.methodLink "MedalBoardLaw" 180 ⟨"MedalBoard", "seenAt", "(IIII)I"⟩) ∈ lw_gd := tb_in5 (i := 91) rfl rfl
theorem tb_1052 : (Jvm.Cond.instanceMethod ⟨"MedalBoard", "seenAt", "(IIII)I"⟩) ∈ lw_gd := tb_in5 (i := 92) rfl rfl
theorem tb_1053 : (Jvm.Cond.selects "MedalBoard" ⟨"MedalBoard", "seenAt", "(IIII)I"⟩ ⟨"MedalBoard", "seenAt", "(IIII)I"⟩) ∈ lw_gd := tb_in5 (i := 93) rfl rfl
theorem tb_1054 : (Jvm.Cond.code ⟨"MedalBoard", "seenAt", "(IIII)I"⟩ prog_1_method_40_code 8 (Option.some Jvm.ClassFile.FieldType.int)) ∈ lw_gd := tb_in5 (i := 94) rfl rfl
theorem tb_1055 : (Jvm.Cond.methodLink "MedalBoard" 358 ⟨"MedalBoard", "firstOf", "(I)I"⟩) ∈ lw_gd := tb_in5 (i := 95) rfl rfl
theorem tb_1056 : (Jvm.Cond.methodLink "MedalBoard" 361 ⟨"MedalBoard", "lastOf", "(I)I"⟩) ∈ lw_gd := tb_in5 (i := 96) rfl rfl
theorem tb_1057 : (Jvm.Cond.static ⟨"MedalBoard", "lastOf", "(I)I"⟩) ∈ lw_gd := tb_in5 (i := 97) rfl rfl
theorem tb_1058 : (Jvm.Cond.code ⟨"MedalBoard", "lastOf", "(I)I"⟩ prog_1_method_72_code 2 (Option.some Jvm.ClassFile.FieldType.int)) ∈ lw_gd := tb_in5 (i := 98) rfl rfl
theorem tb_1059 : (Jvm.Cond.methodLink "MedalBoardLaw" 184 ⟨"MedalBoard", "ask", "(III)I"⟩) ∈ lw_gd := tb_in5 (i := 99) rfl rfl
theorem tb_1060 : (Jvm.Cond.instanceMethod ⟨"MedalBoard", "ask", "(III)I"⟩) ∈ lw_gd := tb_in5 (i := 100) rfl rfl
theorem tb_1061 : (Jvm.Cond.selects "MedalBoard" ⟨"MedalBoard", "ask", "(III)I"⟩ ⟨"MedalBoard", "ask", "(III)I"⟩) ∈ lw_gd := tb_in5 (i := 101) rfl rfl
theorem tb_1062 : (Jvm.Cond.code ⟨"MedalBoard", "ask", "(III)I"⟩ prog_1_method_41_code 7 (Option.some Jvm.ClassFile.FieldType.int)) ∈ lw_gd := tb_in5 (i := 102) rfl rfl
theorem tb_1063 : (Jvm.Cond.methodLink "MedalBoard" 364 ⟨"MedalBoard", "tellingSize", "(II)I"⟩) ∈ lw_gd := tb_in5 (i := 103) rfl rfl
theorem tb_1065 : (Jvm.Cond.instanceMethod ⟨"MedalBoard", "tellingSize", "(II)I"⟩) ∈ lw_gd := tb_in5 (i := 105) rfl rfl
theorem tb_1066 : (Jvm.Cond.code ⟨"MedalBoard", "tellingSize", "(II)I"⟩ prog_1_method_67_code 9 (Option.some Jvm.ClassFile.FieldType.int)) ∈ lw_gd := tb_in5 (i := 106) rfl rfl
theorem tb_1067 : (Jvm.Cond.methodLink "MedalBoard" 425 ⟨"java/lang/Math", "max", "(II)I"⟩) ∈ lw_gd := tb_in5 (i := 107) rfl rfl
theorem tb_1068 : (Jvm.Cond.methodLink "MedalBoardLaw" 188 ⟨"MedalBoard", "couples", "(I)I"⟩) ∈ lw_gd := tb_in5 (i := 108) rfl rfl
theorem tb_1069 : (Jvm.Cond.instanceMethod ⟨"MedalBoard", "couples", "(I)I"⟩) ∈ lw_gd := tb_in5 (i := 109) rfl rfl
theorem tb_1070 : (Jvm.Cond.selects "MedalBoard" ⟨"MedalBoard", "couples", "(I)I"⟩ ⟨"MedalBoard", "couples", "(I)I"⟩) ∈ lw_gd := tb_in5 (i := 110) rfl rfl
theorem tb_1071 : (Jvm.Cond.code ⟨"MedalBoard", "couples", "(I)I"⟩ prog_1_method_42_code 2 (Option.some Jvm.ClassFile.FieldType.int)) ∈ lw_gd := tb_in5 (i := 111) rfl rfl
theorem tb_1072 : (Jvm.Cond.methodLink "MedalBoard" 367 ⟨"MedalBoard$Pairs", "match", "(I)V"⟩) ∈ lw_gd := tb_in5 (i := 112) rfl rfl
theorem tb_1073 : (Jvm.Cond.instanceMethod ⟨"MedalBoard$Pairs", "match", "(I)V"⟩) ∈ lw_gd := tb_in5 (i := 113) rfl rfl
theorem tb_1074 : (Jvm.Cond.selects "MedalBoard$Pairs" ⟨"MedalBoard$Pairs", "match", "(I)V"⟩ ⟨"MedalBoard$Pairs", "match", "(I)V"⟩) ∈ lw_gd := tb_in5 (i := 114) rfl rfl
theorem tb_1075 : (Jvm.Cond.code ⟨"MedalBoard$Pairs", "match", "(I)V"⟩ prog_7_method_2_code 4 (Option.none : Option Jvm.ClassFile.FieldType)) ∈ lw_gd := tb_in5 (i := 115) rfl rfl
theorem tb_1076 : (Jvm.Cond.methodLink "MedalBoard$Pairs" 35 ⟨"MedalBoard$Army", "runners", "(I)I"⟩) ∈ lw_gd := tb_in5 (i := 116) rfl rfl
theorem tb_1077 : (Jvm.Cond.methodLink "MedalBoard$Pairs" 44 ⟨"MedalBoard$Army", "lives", "(I)Z"⟩) ∈ lw_gd := tb_in5 (i := 117) rfl rfl
theorem tb_1078 : (Jvm.Cond.methodLink "MedalBoard$Pairs" 48 ⟨"java/lang/Integer", "bitCount", "(I)I"⟩) ∈ lw_gd := tb_in5 (i := 118) rfl rfl
theorem tb_1079 : (Jvm.Cond.methodLink "MedalBoard$Pairs" 53 ⟨"java/lang/Math", "min", "(II)I"⟩) ∈ lw_gd := tb_in5 (i := 119) rfl rfl
theorem tb_1080 : (Jvm.Cond.methodLink "MedalBoard$Pairs" 59 ⟨"MedalBoard$Pairs", "search", "(IIII)V"⟩) ∈ lw_gd := tb_in5 (i := 120) rfl rfl
theorem tb_1082 : (Jvm.Cond.instanceMethod ⟨"MedalBoard$Pairs", "search", "(IIII)V"⟩) ∈ lw_gd := tb_in5 (i := 122) rfl rfl
theorem tb_1083 : (Jvm.Cond.code ⟨"MedalBoard$Pairs", "search", "(IIII)V"⟩ prog_7_method_3_code 7 (Option.none : Option Jvm.ClassFile.FieldType)) ∈ lw_gd := tb_in5 (i := 123) rfl rfl
theorem tb_1084 : (Jvm.Cond.methodLink "MedalBoard$Pairs" 63 ⟨"java/lang/System", "arraycopy", "(Ljava/lang/Object;ILjava/lang/Object;II)V"⟩) ∈ lw_gd := tb_in5 (i := 124) rfl rfl
theorem tb_1085 : (Jvm.Cond.methodLink "MedalBoard$Pairs" 69 ⟨"MedalBoard$Army", "liking", "(II)I"⟩) ∈ lw_gd := tb_in5 (i := 125) rfl rfl
theorem tb_1086 : (Jvm.Cond.methodLink "MedalBoardLaw" 192 ⟨"MedalBoard", "fondness", "(I)I"⟩) ∈ lw_gd := tb_in5 (i := 126) rfl rfl
theorem tb_1087 : (Jvm.Cond.instanceMethod ⟨"MedalBoard", "fondness", "(I)I"⟩) ∈ lw_gd := tb_in5 (i := 127) rfl rfl
theorem tb_1088 : (Jvm.Cond.selects "MedalBoard" ⟨"MedalBoard", "fondness", "(I)I"⟩ ⟨"MedalBoard", "fondness", "(I)I"⟩) ∈ lw_gd := tb_in5 (i := 128) rfl rfl
theorem tb_1089 : (Jvm.Cond.code ⟨"MedalBoard", "fondness", "(I)I"⟩ prog_1_method_43_code 2 (Option.some Jvm.ClassFile.FieldType.int)) ∈ lw_gd := tb_in5 (i := 129) rfl rfl
theorem tb_1090 : (Jvm.Cond.methodLink "MedalBoardLaw" 196 ⟨"MedalBoard", "partner", "(II)I"⟩) ∈ lw_gd := tb_in5 (i := 130) rfl rfl
theorem tb_1091 : (Jvm.Cond.instanceMethod ⟨"MedalBoard", "partner", "(II)I"⟩) ∈ lw_gd := tb_in5 (i := 131) rfl rfl
theorem tb_1092 : (Jvm.Cond.selects "MedalBoard" ⟨"MedalBoard", "partner", "(II)I"⟩ ⟨"MedalBoard", "partner", "(II)I"⟩) ∈ lw_gd := tb_in5 (i := 132) rfl rfl
theorem tb_1093 : (Jvm.Cond.code ⟨"MedalBoard", "partner", "(II)I"⟩ prog_1_method_44_code 4 (Option.some Jvm.ClassFile.FieldType.int)) ∈ lw_gd := tb_in5 (i := 133) rfl rfl
theorem tb_1094 : (Jvm.Cond.methodLink "MedalBoard" 376 ⟨"MedalBoard$Pairs", "partnerOf", "(I)I"⟩) ∈ lw_gd := tb_in5 (i := 134) rfl rfl
theorem tb_1095 : (Jvm.Cond.instanceMethod ⟨"MedalBoard$Pairs", "partnerOf", "(I)I"⟩) ∈ lw_gd := tb_in5 (i := 135) rfl rfl
theorem tb_1096 : (Jvm.Cond.selects "MedalBoard$Pairs" ⟨"MedalBoard$Pairs", "partnerOf", "(I)I"⟩ ⟨"MedalBoard$Pairs", "partnerOf", "(I)I"⟩) ∈ lw_gd := tb_in5 (i := 136) rfl rfl
theorem tb_1097 : (Jvm.Cond.code ⟨"MedalBoard$Pairs", "partnerOf", "(I)I"⟩ prog_7_method_4_code 3 (Option.some Jvm.ClassFile.FieldType.int)) ∈ lw_gd := tb_in5 (i := 137) rfl rfl
theorem tb_1098 : (Jvm.Cond.methodLink "MedalBoardLaw" 200 ⟨"MedalBoard", "game", "(IIII)I"⟩) ∈ lw_gd := tb_in5 (i := 138) rfl rfl
theorem tb_1099 : (Jvm.Cond.instanceMethod ⟨"MedalBoard", "game", "(IIII)I"⟩) ∈ lw_gd := tb_in5 (i := 139) rfl rfl
theorem tb_1100 : (Jvm.Cond.selects "MedalBoard" ⟨"MedalBoard", "game", "(IIII)I"⟩ ⟨"MedalBoard", "game", "(IIII)I"⟩) ∈ lw_gd := tb_in5 (i := 140) rfl rfl
theorem tb_1101 : (Jvm.Cond.code ⟨"MedalBoard", "game", "(IIII)I"⟩ prog_1_method_45_code 7 (Option.some Jvm.ClassFile.FieldType.int)) ∈ lw_gd := tb_in5 (i := 141) rfl rfl
theorem tb_1102 : (Jvm.Cond.methodLink "MedalBoard" 379 ⟨"MedalBoard", "gameRefusal", "(IILMedalBoard$Tray;I)I"⟩) ∈ lw_gd := tb_in5 (i := 142) rfl rfl
theorem tb_1104 : (Jvm.Cond.instanceMethod ⟨"MedalBoard", "gameRefusal", "(IILMedalBoard$Tray;I)I"⟩) ∈ lw_gd := tb_in5 (i := 144) rfl rfl
theorem tb_1105 : (Jvm.Cond.code ⟨"MedalBoard", "gameRefusal", "(IILMedalBoard$Tray;I)I"⟩ prog_1_method_64_code 7 (Option.some Jvm.ClassFile.FieldType.int)) ∈ lw_gd := tb_in5 (i := 145) rfl rfl
theorem tb_1106 : (Jvm.Cond.methodLink "MedalBoard" 383 ⟨"MedalBoard$Foresight", "valueFor", "(II)I"⟩) ∈ lw_gd := tb_in5 (i := 146) rfl rfl
theorem tb_1107 : (Jvm.Cond.instanceMethod ⟨"MedalBoard$Foresight", "valueFor", "(II)I"⟩) ∈ lw_gd := tb_in5 (i := 147) rfl rfl
theorem tb_1108 : (Jvm.Cond.selects "MedalBoard$Foresight" ⟨"MedalBoard$Foresight", "valueFor", "(II)I"⟩ ⟨"MedalBoard$Foresight", "valueFor", "(II)I"⟩) ∈ lw_gd := tb_in5 (i := 148) rfl rfl
theorem tb_1109 : (Jvm.Cond.code ⟨"MedalBoard$Foresight", "valueFor", "(II)I"⟩ prog_6_method_8_code 3 (Option.some Jvm.ClassFile.FieldType.int)) ∈ lw_gd := tb_in5 (i := 149) rfl rfl
theorem tb_1110 : (Jvm.Cond.methodLink "MedalBoard$Foresight" 86 ⟨"MedalBoard$Foresight", "valueFrom", "(III)I"⟩) ∈ lw_gd := tb_in5 (i := 150) rfl rfl
theorem tb_1112 : (Jvm.Cond.instanceMethod ⟨"MedalBoard$Foresight", "valueFrom", "(III)I"⟩) ∈ lw_gd := tb_in5 (i := 152) rfl rfl
theorem tb_1113 : (Jvm.Cond.code ⟨"MedalBoard$Foresight", "valueFrom", "(III)I"⟩ prog_6_method_10_code 7 (Option.some Jvm.ClassFile.FieldType.int)) ∈ lw_gd := tb_in5 (i := 153) rfl rfl
theorem tb_1114 : (Jvm.Cond.methodLink "MedalBoard$Foresight" 89 ⟨"MedalBoard$Foresight", "valueIfStood", "(III)I"⟩) ∈ lw_gd := tb_in5 (i := 154) rfl rfl
theorem tb_1116 : (Jvm.Cond.instanceMethod ⟨"MedalBoard$Foresight", "valueIfStood", "(III)I"⟩) ∈ lw_gd := tb_in5 (i := 156) rfl rfl
theorem tb_1117 : (Jvm.Cond.code ⟨"MedalBoard$Foresight", "valueIfStood", "(III)I"⟩ prog_6_method_11_code 7 (Option.some Jvm.ClassFile.FieldType.int)) ∈ lw_gd := tb_in5 (i := 157) rfl rfl
theorem tb_1118 : (Jvm.Cond.methodLink "MedalBoardLaw" 204 ⟨"MedalBoard", "moveOf", "(IIII)I"⟩) ∈ lw_gd := tb_in5 (i := 158) rfl rfl
theorem tb_1119 : (Jvm.Cond.instanceMethod ⟨"MedalBoard", "moveOf", "(IIII)I"⟩) ∈ lw_gd := tb_in5 (i := 159) rfl rfl
theorem tb_1120 : (Jvm.Cond.selects "MedalBoard" ⟨"MedalBoard", "moveOf", "(IIII)I"⟩ ⟨"MedalBoard", "moveOf", "(IIII)I"⟩) ∈ lw_gd := tb_in5 (i := 160) rfl rfl
theorem tb_1121 : (Jvm.Cond.code ⟨"MedalBoard", "moveOf", "(IIII)I"⟩ prog_1_method_46_code 8 (Option.some Jvm.ClassFile.FieldType.int)) ∈ lw_gd := tb_in5 (i := 161) rfl rfl
theorem tb_1122 : (Jvm.Cond.methodLink "MedalBoard" 386 ⟨"MedalBoard$Foresight", "moveFor", "(II)I"⟩) ∈ lw_gd := tb_in5 (i := 162) rfl rfl
theorem tb_1123 : (Jvm.Cond.instanceMethod ⟨"MedalBoard$Foresight", "moveFor", "(II)I"⟩) ∈ lw_gd := tb_in5 (i := 163) rfl rfl
theorem tb_1124 : (Jvm.Cond.selects "MedalBoard$Foresight" ⟨"MedalBoard$Foresight", "moveFor", "(II)I"⟩ ⟨"MedalBoard$Foresight", "moveFor", "(II)I"⟩) ∈ lw_gd := tb_in5 (i := 164) rfl rfl
theorem tb_1125 : (Jvm.Cond.code ⟨"MedalBoard$Foresight", "moveFor", "(II)I"⟩ prog_6_method_9_code 3 (Option.some Jvm.ClassFile.FieldType.int)) ∈ lw_gd := tb_in5 (i := 165) rfl rfl
theorem tb_1126 : (Jvm.Cond.methodLink "MedalBoardLaw" 208 ⟨"MedalBoard", "chance", "(III)Z"⟩) ∈ lw_gd := tb_in5 (i := 166) rfl rfl
theorem tb_1127 : (Jvm.Cond.instanceMethod ⟨"MedalBoard", "chance", "(III)Z"⟩) ∈ lw_gd := tb_in5 (i := 167) rfl rfl
theorem tb_1128 : (Jvm.Cond.selects "MedalBoard" ⟨"MedalBoard", "chance", "(III)Z"⟩ ⟨"MedalBoard", "chance", "(III)Z"⟩) ∈ lw_gd := tb_in5 (i := 168) rfl rfl
theorem tb_1129 : (Jvm.Cond.code ⟨"MedalBoard", "chance", "(III)Z"⟩ prog_1_method_47_code 5 (Option.some Jvm.ClassFile.FieldType.boolean)) ∈ lw_gd := tb_in5 (i := 169) rfl rfl
theorem tb_1130 : (Jvm.Cond.methodLink "MedalBoard" 389 ⟨"MedalBoard", "waysToStand", "(III)J"⟩) ∈ lw_gd := tb_in5 (i := 170) rfl rfl
theorem tb_1131 : (Jvm.Cond.static ⟨"MedalBoard", "waysToStand", "(III)J"⟩) ∈ lw_gd := tb_in5 (i := 171) rfl rfl
theorem tb_1132 : (Jvm.Cond.code ⟨"MedalBoard", "waysToStand", "(III)J"⟩ prog_1_method_76_code 8 (Option.some Jvm.ClassFile.FieldType.long)) ∈ lw_gd := tb_in5 (i := 172) rfl rfl
theorem tb_1133 : (Jvm.Cond.methodLink "MedalBoard" 395 ⟨"MedalBoard", "raised", "(JI)J"⟩) ∈ lw_gd := tb_in5 (i := 173) rfl rfl
theorem tb_1134 : (Jvm.Cond.static ⟨"MedalBoard", "raised", "(JI)J"⟩) ∈ lw_gd := tb_in5 (i := 174) rfl rfl
theorem tb_1135 : (Jvm.Cond.code ⟨"MedalBoard", "raised", "(JI)J"⟩ prog_1_method_75_code 6 (Option.some Jvm.ClassFile.FieldType.long)) ∈ lw_gd := tb_in5 (i := 175) rfl rfl
theorem tb_1136 : (Jvm.Cond.constantLong "MedalBoard" 393 20) ∈ lw_gd := tb_in5 (i := 176) rfl rfl
theorem tb_1137 : (Jvm.Cond.methodLink "MedalBoardLaw" 212 ⟨"MedalBoard", "luck", "(II)Z"⟩) ∈ lw_gd := tb_in5 (i := 177) rfl rfl
theorem tb_1138 : (Jvm.Cond.instanceMethod ⟨"MedalBoard", "luck", "(II)Z"⟩) ∈ lw_gd := tb_in5 (i := 178) rfl rfl
theorem tb_1139 : (Jvm.Cond.selects "MedalBoard" ⟨"MedalBoard", "luck", "(II)Z"⟩ ⟨"MedalBoard", "luck", "(II)Z"⟩) ∈ lw_gd := tb_in5 (i := 179) rfl rfl
theorem tb_1140 : (Jvm.Cond.code ⟨"MedalBoard", "luck", "(II)Z"⟩ prog_1_method_48_code 5 (Option.some Jvm.ClassFile.FieldType.boolean)) ∈ lw_gd := tb_in5 (i := 180) rfl rfl
theorem tb_1141 : (Jvm.Cond.methodLink "MedalBoard" 399 ⟨"MedalBoard$Army", "stands", "(II)Z"⟩) ∈ lw_gd := tb_in5 (i := 181) rfl rfl
theorem tb_1142 : (Jvm.Cond.methodLink "MedalBoardLaw" 216 ⟨"MedalBoard", "hopeful", "()I"⟩) ∈ lw_gd := tb_in5 (i := 182) rfl rfl
theorem tb_1143 : (Jvm.Cond.instanceMethod ⟨"MedalBoard", "hopeful", "()I"⟩) ∈ lw_gd := tb_in5 (i := 183) rfl rfl
theorem tb_1144 : (Jvm.Cond.selects "MedalBoard" ⟨"MedalBoard", "hopeful", "()I"⟩ ⟨"MedalBoard", "hopeful", "()I"⟩) ∈ lw_gd := tb_in5 (i := 184) rfl rfl
theorem tb_1145 : (Jvm.Cond.code ⟨"MedalBoard", "hopeful", "()I"⟩ prog_1_method_49_code 6 (Option.some Jvm.ClassFile.FieldType.int)) ∈ lw_gd := tb_in5 (i := 185) rfl rfl
theorem tb_1146 : (Jvm.Cond.methodLink "MedalBoardLaw" 220 ⟨"MedalBoard", "copyMedals", "(I)I"⟩) ∈ lw_gd := tb_in5 (i := 186) rfl rfl
theorem tb_1147 : (Jvm.Cond.instanceMethod ⟨"MedalBoard", "copyMedals", "(I)I"⟩) ∈ lw_gd := tb_in5 (i := 187) rfl rfl
theorem tb_1148 : (Jvm.Cond.selects "MedalBoard" ⟨"MedalBoard", "copyMedals", "(I)I"⟩ ⟨"MedalBoard", "copyMedals", "(I)I"⟩) ∈ lw_gd := tb_in5 (i := 188) rfl rfl
theorem tb_1149 : (Jvm.Cond.code ⟨"MedalBoard", "copyMedals", "(I)I"⟩ prog_1_method_50_code 4 (Option.some Jvm.ClassFile.FieldType.int)) ∈ lw_gd := tb_in5 (i := 189) rfl rfl
theorem tb_1150 : (Jvm.Cond.methodLink "MedalBoardLaw" 224 ⟨"MedalBoard", "live", "(I)I"⟩) ∈ lw_gd := tb_in5 (i := 190) rfl rfl
theorem tb_1151 : (Jvm.Cond.instanceMethod ⟨"MedalBoard", "live", "(I)I"⟩) ∈ lw_gd := tb_in5 (i := 191) rfl rfl
theorem tb_1152 : (Jvm.Cond.selects "MedalBoard" ⟨"MedalBoard", "live", "(I)I"⟩ ⟨"MedalBoard", "live", "(I)I"⟩) ∈ lw_gd := tb_in5 (i := 192) rfl rfl
theorem tb_1153 : (Jvm.Cond.code ⟨"MedalBoard", "live", "(I)I"⟩ prog_1_method_51_code 2 (Option.some Jvm.ClassFile.FieldType.int)) ∈ lw_gd := tb_in5 (i := 193) rfl rfl
theorem tb_1154 : (Jvm.Cond.methodLink "MedalBoard" 405 ⟨"MedalBoard$Campaign", "fight", "(I)V"⟩) ∈ lw_gd := tb_in5 (i := 194) rfl rfl
theorem tb_1155 : (Jvm.Cond.instanceMethod ⟨"MedalBoard$Campaign", "fight", "(I)V"⟩) ∈ lw_gd := tb_in5 (i := 195) rfl rfl
theorem tb_1156 : (Jvm.Cond.selects "MedalBoard$Campaign" ⟨"MedalBoard$Campaign", "fight", "(I)V"⟩ ⟨"MedalBoard$Campaign", "fight", "(I)V"⟩) ∈ lw_gd := tb_in5 (i := 196) rfl rfl
theorem tb_1157 : (Jvm.Cond.code ⟨"MedalBoard$Campaign", "fight", "(I)V"⟩ prog_4_method_2_code 4 (Option.none : Option Jvm.ClassFile.FieldType)) ∈ lw_gd := tb_in5 (i := 197) rfl rfl
theorem tb_1158 : (Jvm.Cond.methodLink "MedalBoard$Campaign" 49 ⟨"MedalBoard$Campaign", "begin", "(I)V"⟩) ∈ lw_gd := tb_in5 (i := 198) rfl rfl
theorem tb_1160 : (Jvm.Cond.instanceMethod ⟨"MedalBoard$Campaign", "begin", "(I)V"⟩) ∈ lw_gd := tb_in5 (i := 200) rfl rfl
theorem tb_1161 : (Jvm.Cond.code ⟨"MedalBoard$Campaign", "begin", "(I)V"⟩ prog_4_method_3_code 2 (Option.none : Option Jvm.ClassFile.FieldType)) ∈ lw_gd := tb_in5 (i := 201) rfl rfl
theorem tb_1162 : (Jvm.Cond.constant "MedalBoard$Campaign" 53 1000000) ∈ lw_gd := tb_in5 (i := 202) rfl rfl
theorem tb_1164 : (Jvm.Cond.methodLink "MedalBoard$Campaign" 66 ⟨"MedalBoard$Campaign", "behindEnd", "(I)I"⟩) ∈ lw_gd := tb_in5 (i := 204) rfl rfl
theorem tb_1166 : (Jvm.Cond.instanceMethod ⟨"MedalBoard$Campaign", "behindEnd", "(I)I"⟩) ∈ lw_gd := tb_in5 (i := 206) rfl rfl
theorem tb_1167 : (Jvm.Cond.code ⟨"MedalBoard$Campaign", "behindEnd", "(I)I"⟩ prog_4_method_4_code 3 (Option.some Jvm.ClassFile.FieldType.int)) ∈ lw_gd := tb_in5 (i := 207) rfl rfl
theorem tb_1168 : (Jvm.Cond.methodLink "MedalBoard$Campaign" 70 ⟨"MedalBoard$Campaign", "behindStep", "(I)I"⟩) ∈ lw_gd := tb_in5 (i := 208) rfl rfl
theorem tb_1170 : (Jvm.Cond.instanceMethod ⟨"MedalBoard$Campaign", "behindStep", "(I)I"⟩) ∈ lw_gd := tb_in5 (i := 210) rfl rfl
theorem tb_1171 : (Jvm.Cond.code ⟨"MedalBoard$Campaign", "behindStep", "(I)I"⟩ prog_4_method_5_code 3 (Option.some Jvm.ClassFile.FieldType.int)) ∈ lw_gd := tb_in5 (i := 211) rfl rfl
theorem tb_1172 : (Jvm.Cond.methodLink "MedalBoard$Campaign" 82 ⟨"MedalBoard$Campaign", "faceDanger", "(II)V"⟩) ∈ lw_gd := tb_in5 (i := 212) rfl rfl
theorem tb_1174 : (Jvm.Cond.instanceMethod ⟨"MedalBoard$Campaign", "faceDanger", "(II)V"⟩) ∈ lw_gd := tb_in5 (i := 214) rfl rfl
theorem tb_1175 : (Jvm.Cond.code ⟨"MedalBoard$Campaign", "faceDanger", "(II)V"⟩ prog_4_method_7_code 4 (Option.none : Option Jvm.ClassFile.FieldType)) ∈ lw_gd := tb_in5 (i := 215) rfl rfl
theorem tb_1176 : (Jvm.Cond.methodLink "MedalBoard$Campaign" 115 ⟨"MedalBoard$Army", "lives", "(I)Z"⟩) ∈ lw_gd := tb_in5 (i := 216) rfl rfl
theorem tb_1177 : (Jvm.Cond.methodLink "MedalBoard$Campaign" 118 ⟨"MedalBoard$Army", "endure", "(II)I"⟩) ∈ lw_gd := tb_in5 (i := 217) rfl rfl
theorem tb_1178 : (Jvm.Cond.methodLink "MedalBoard$Campaign" 89 ⟨"MedalBoard$Army", "handOver", "(II)Z"⟩) ∈ lw_gd := tb_in5 (i := 218) rfl rfl
theorem tb_1179 : (Jvm.Cond.methodLink "MedalBoard$Campaign" 95 ⟨"MedalBoard$Campaign", "countMiss", "(Z)V"⟩) ∈ lw_gd := tb_in5 (i := 219) rfl rfl
theorem tb_1181 : (Jvm.Cond.instanceMethod ⟨"MedalBoard$Campaign", "countMiss", "(Z)V"⟩) ∈ lw_gd := tb_in5 (i := 221) rfl rfl
theorem tb_1182 : (Jvm.Cond.code ⟨"MedalBoard$Campaign", "countMiss", "(Z)V"⟩ prog_4_method_6_code 2 (Option.none : Option Jvm.ClassFile.FieldType)) ∈ lw_gd := tb_in5 (i := 222) rfl rfl
theorem tb_1183 : (Jvm.Cond.methodLink "MedalBoard$Campaign" 99 ⟨"MedalBoard$Army", "loseOne", "(I)Z"⟩) ∈ lw_gd := tb_in5 (i := 223) rfl rfl
theorem tb_1184 : (Jvm.Cond.methodLink "MedalBoard$Campaign" 103 ⟨"MedalBoard$Army", "strike", "(I)Z"⟩) ∈ lw_gd := tb_in5 (i := 224) rfl rfl
theorem tb_1185 : (Jvm.Cond.methodLink "MedalBoard$Campaign" 109 ⟨"MedalBoard$Campaign", "drawBy", "(I)I"⟩) ∈ lw_gd := tb_in5 (i := 225) rfl rfl
theorem tb_1187 : (Jvm.Cond.instanceMethod ⟨"MedalBoard$Campaign", "drawBy", "(I)I"⟩) ∈ lw_gd := tb_in5 (i := 227) rfl rfl
theorem tb_1188 : (Jvm.Cond.code ⟨"MedalBoard$Campaign", "drawBy", "(I)I"⟩ prog_4_method_8_code 2 (Option.some Jvm.ClassFile.FieldType.int)) ∈ lw_gd := tb_in5 (i := 228) rfl rfl
theorem tb_1189 : (Jvm.Cond.constant "MedalBoard$Campaign" 122 65536) ∈ lw_gd := tb_in5 (i := 229) rfl rfl
theorem tb_1190 : (Jvm.Cond.methodLink "MedalBoard$Campaign" 112 ⟨"MedalBoard$Campaign", "testHolds", "(I)Z"⟩) ∈ lw_gd := tb_in5 (i := 230) rfl rfl
theorem tb_1192 : (Jvm.Cond.instanceMethod ⟨"MedalBoard$Campaign", "testHolds", "(I)Z"⟩) ∈ lw_gd := tb_in5 (i := 232) rfl rfl
theorem tb_1193 : (Jvm.Cond.code ⟨"MedalBoard$Campaign", "testHolds", "(I)Z"⟩ prog_4_method_9_code 4 (Option.some Jvm.ClassFile.FieldType.boolean)) ∈ lw_gd := tb_in5 (i := 233) rfl rfl
theorem tb_1194 : (Jvm.Cond.methodLink "MedalBoard$Campaign" 123 ⟨"MedalBoard$Army", "isMan", "(I)Z"⟩) ∈ lw_gd := tb_in5 (i := 234) rfl rfl
theorem tb_1195 : (Jvm.Cond.methodLink "MedalBoard$Campaign" 129 ⟨"MedalBoard$Army", "bravery", "(I)I"⟩) ∈ lw_gd := tb_in5 (i := 235) rfl rfl
theorem tb_1196 : (Jvm.Cond.methodLink "MedalBoardLaw" 228 ⟨"MedalBoard", "lived", "(I)I"⟩) ∈ lw_gd := tb_in5 (i := 236) rfl rfl
theorem tb_1197 : (Jvm.Cond.instanceMethod ⟨"MedalBoard", "lived", "(I)I"⟩) ∈ lw_gd := tb_in5 (i := 237) rfl rfl
theorem tb_1198 : (Jvm.Cond.selects "MedalBoard" ⟨"MedalBoard", "lived", "(I)I"⟩ ⟨"MedalBoard", "lived", "(I)I"⟩) ∈ lw_gd := tb_in5 (i := 238) rfl rfl
theorem tb_1199 : (Jvm.Cond.code ⟨"MedalBoard", "lived", "(I)I"⟩ prog_1_method_52_code 2 (Option.some Jvm.ClassFile.FieldType.int)) ∈ lw_gd := tb_in5 (i := 239) rfl rfl
theorem tb_1200 : (Jvm.Cond.methodLink "MedalBoard" 412 ⟨"MedalBoard$Campaign", "report", "(I)I"⟩) ∈ lw_gd := tb_in6 (i := 0) rfl rfl
theorem tb_1201 : (Jvm.Cond.instanceMethod ⟨"MedalBoard$Campaign", "report", "(I)I"⟩) ∈ lw_gd := tb_in6 (i := 1) rfl rfl
theorem tb_1202 : (Jvm.Cond.selects "MedalBoard$Campaign" ⟨"MedalBoard$Campaign", "report", "(I)I"⟩ ⟨"MedalBoard$Campaign", "report", "(I)I"⟩) ∈ lw_gd := tb_in6 (i := 2) rfl rfl
theorem tb_1203 : (Jvm.Cond.code ⟨"MedalBoard$Campaign", "report", "(I)I"⟩ prog_4_method_10_code 2 (Option.some Jvm.ClassFile.FieldType.int)) ∈ lw_gd := tb_in6 (i := 3) rfl rfl
theorem tb_1204 : (Jvm.Cond.methodLink "MedalBoardLaw" 232 ⟨"MedalBoard", "mean", "(III)Z"⟩) ∈ lw_gd := tb_in6 (i := 4) rfl rfl
theorem tb_1205 : (Jvm.Cond.instanceMethod ⟨"MedalBoard", "mean", "(III)Z"⟩) ∈ lw_gd := tb_in6 (i := 5) rfl rfl
theorem tb_1206 : (Jvm.Cond.selects "MedalBoard" ⟨"MedalBoard", "mean", "(III)Z"⟩ ⟨"MedalBoard", "mean", "(III)Z"⟩) ∈ lw_gd := tb_in6 (i := 6) rfl rfl
theorem tb_1207 : (Jvm.Cond.code ⟨"MedalBoard", "mean", "(III)Z"⟩ prog_1_method_53_code 7 (Option.some Jvm.ClassFile.FieldType.boolean)) ∈ lw_gd := tb_in6 (i := 7) rfl rfl
theorem tb_1208 : (Jvm.Cond.methodLink "MedalBoardLaw" 236 ⟨"MedalBoard", "mark", "()I"⟩) ∈ lw_gd := tb_in6 (i := 8) rfl rfl
theorem tb_1209 : (Jvm.Cond.instanceMethod ⟨"MedalBoard", "mark", "()I"⟩) ∈ lw_gd := tb_in6 (i := 9) rfl rfl
theorem tb_1210 : (Jvm.Cond.selects "MedalBoard" ⟨"MedalBoard", "mark", "()I"⟩ ⟨"MedalBoard", "mark", "()I"⟩) ∈ lw_gd := tb_in6 (i := 10) rfl rfl
theorem tb_1211 : (Jvm.Cond.code ⟨"MedalBoard", "mark", "()I"⟩ prog_1_method_54_code 1 (Option.some Jvm.ClassFile.FieldType.int)) ∈ lw_gd := tb_in6 (i := 11) rfl rfl
theorem tb_1212 : (Jvm.Cond.methodLink "MedalBoardLaw" 240 ⟨"MedalBoard", "undo", "()I"⟩) ∈ lw_gd := tb_in6 (i := 12) rfl rfl
theorem tb_1213 : (Jvm.Cond.instanceMethod ⟨"MedalBoard", "undo", "()I"⟩) ∈ lw_gd := tb_in6 (i := 13) rfl rfl
theorem tb_1214 : (Jvm.Cond.selects "MedalBoard" ⟨"MedalBoard", "undo", "()I"⟩ ⟨"MedalBoard", "undo", "()I"⟩) ∈ lw_gd := tb_in6 (i := 14) rfl rfl
theorem tb_1215 : (Jvm.Cond.code ⟨"MedalBoard", "undo", "()I"⟩ prog_1_method_55_code 1 (Option.some Jvm.ClassFile.FieldType.int)) ∈ lw_gd := tb_in6 (i := 15) rfl rfl
theorem tb_1216 : (Jvm.Cond.classLink "MedalBoardLaw" 10 "MedalBoardModel") ∈ lw_gd := tb_in6 (i := 16) rfl rfl
theorem tb_1217 : (Jvm.Cond.instantiable "MedalBoardModel" 41) ∈ lw_gd := tb_in6 (i := 17) rfl rfl
theorem tb_1218 : (Jvm.Cond.methodLink "MedalBoardLaw" 12 ⟨"MedalBoardModel", "<init>", "()V"⟩) ∈ lw_gd := tb_in6 (i := 18) rfl rfl
theorem tb_1219 : (Jvm.Cond.instanceMethod ⟨"MedalBoardModel", "<init>", "()V"⟩) ∈ lw_gd := tb_in6 (i := 19) rfl rfl
theorem tb_1220 : (Jvm.Cond.code ⟨"MedalBoardModel", "<init>", "()V"⟩ prog_14_method_1_code 1 (Option.none : Option Jvm.ClassFile.FieldType)) ∈ lw_gd := tb_in6 (i := 20) rfl rfl
theorem tb_1221 : (Jvm.Cond.methodLink "MedalBoardModel" 1 ⟨"java/lang/Object", "<init>", "()V"⟩) ∈ lw_gd := tb_in6 (i := 21) rfl rfl
theorem tb_1222 : (Jvm.Cond.methodLink "MedalBoardModel" 71 ⟨"MedalBoardModel", "plain", "(I)V"⟩) ∈ lw_gd := tb_in6 (i := 22) rfl rfl
theorem tb_1224 : (Jvm.Cond.instanceMethod ⟨"MedalBoardModel", "plain", "(I)V"⟩) ∈ lw_gd := tb_in6 (i := 24) rfl rfl
theorem tb_1225 : (Jvm.Cond.code ⟨"MedalBoardModel", "plain", "(I)V"⟩ prog_14_method_2_code 4 (Option.none : Option Jvm.ClassFile.FieldType)) ∈ lw_gd := tb_in6 (i := 25) rfl rfl
theorem tb_1226 : (Jvm.Cond.methodLink "MedalBoardModel" 75 ⟨"MedalBoardModel", "manRow", "(I)I"⟩) ∈ lw_gd := tb_in6 (i := 26) rfl rfl
theorem tb_1227 : (Jvm.Cond.static ⟨"MedalBoardModel", "manRow", "(I)I"⟩) ∈ lw_gd := tb_in6 (i := 27) rfl rfl
theorem tb_1228 : (Jvm.Cond.code ⟨"MedalBoardModel", "manRow", "(I)I"⟩ prog_14_method_37_code 1 (Option.some Jvm.ClassFile.FieldType.int)) ∈ lw_gd := tb_in6 (i := 28) rfl rfl
theorem tb_1229 : (Jvm.Cond.fieldLink "MedalBoardModel" 7 "MedalBoardModel" "at" "[I") ∈ lw_gd := tb_in6 (i := 29) rfl rfl
theorem tb_1230 : (Jvm.Cond.fieldLink "MedalBoardModel" 13 "MedalBoardModel" "names" "[J") ∈ lw_gd := tb_in6 (i := 30) rfl rfl
theorem tb_1231 : (Jvm.Cond.fieldLink "MedalBoardModel" 79 "MedalBoardModel" "status" "I") ∈ lw_gd := tb_in6 (i := 31) rfl rfl
theorem tb_1232 : (Jvm.Cond.fieldLink "MedalBoardModel" 82 "MedalBoardModel" "top" "J") ∈ lw_gd := tb_in6 (i := 32) rfl rfl
theorem tb_1233 : (Jvm.Cond.fieldLink "MedalBoardModel" 17 "MedalBoardModel" "bottom" "J") ∈ lw_gd := tb_in6 (i := 33) rfl rfl
theorem tb_1234 : (Jvm.Cond.fieldLink "MedalBoardModel" 21 "MedalBoardModel" "sort" "[I") ∈ lw_gd := tb_in6 (i := 34) rfl rfl
theorem tb_1235 : (Jvm.Cond.fieldLink "MedalBoardModel" 24 "MedalBoardModel" "trayMany" "[I") ∈ lw_gd := tb_in6 (i := 35) rfl rfl
theorem tb_1236 : (Jvm.Cond.fieldLink "MedalBoardModel" 27 "MedalBoardModel" "trays" "[J") ∈ lw_gd := tb_in6 (i := 36) rfl rfl
theorem tb_1237 : (Jvm.Cond.fieldLink "MedalBoardModel" 30 "MedalBoardModel" "tape" "[B") ∈ lw_gd := tb_in6 (i := 37) rfl rfl
theorem tb_1238 : (Jvm.Cond.fieldLink "MedalBoardModel" 34 "MedalBoardModel" "text" "[B") ∈ lw_gd := tb_in6 (i := 38) rfl rfl
theorem tb_1239 : (Jvm.Cond.fieldLink "MedalBoardModel" 108 "MedalBoardModel" "taped" "I") ∈ lw_gd := tb_in6 (i := 39) rfl rfl
theorem tb_1240 : (Jvm.Cond.fieldLink "MedalBoardModel" 114 "MedalBoardModel" "size" "I") ∈ lw_gd := tb_in6 (i := 40) rfl rfl
theorem tb_1241 : (Jvm.Cond.fieldLink "MedalBoardModel" 129 "MedalBoardModel" "token" "I") ∈ lw_gd := tb_in6 (i := 41) rfl rfl
theorem tb_1242 : (Jvm.Cond.fieldLink "MedalBoardModel" 123 "MedalBoardModel" "from" "I") ∈ lw_gd := tb_in6 (i := 42) rfl rfl
theorem tb_1243 : (Jvm.Cond.fieldLink "MedalBoardModel" 117 "MedalBoardModel" "end" "I") ∈ lw_gd := tb_in6 (i := 43) rfl rfl
theorem tb_1244 : (Jvm.Cond.fieldLink "MedalBoardModel" 126 "MedalBoardModel" "value" "I") ∈ lw_gd := tb_in6 (i := 44) rfl rfl
theorem tb_1245 : (Jvm.Cond.fieldLink "MedalBoardModel" 37 "MedalBoardModel" "faultKind" "I") ∈ lw_gd := tb_in6 (i := 45) rfl rfl
theorem tb_1246 : (Jvm.Cond.fieldLink "MedalBoardModel" 41 "MedalBoardModel" "faultPlace" "I") ∈ lw_gd := tb_in6 (i := 46) rfl rfl
theorem tb_1247 : (Jvm.Cond.fieldLink "MedalBoardModel" 154 "MedalBoardModel" "faults" "I") ∈ lw_gd := tb_in6 (i := 47) rfl rfl
theorem tb_1248 : (Jvm.Cond.fieldLink "MedalBoardModel" 157 "MedalBoardModel" "seen" "I") ∈ lw_gd := tb_in6 (i := 48) rfl rfl
theorem tb_1249 : (Jvm.Cond.fieldLink "MedalBoardModel" 200 "MedalBoardModel" "toldParts" "I") ∈ lw_gd := tb_in6 (i := 49) rfl rfl
theorem tb_1250 : (Jvm.Cond.fieldLink "MedalBoardModel" 44 "MedalBoardModel" "opened" "[I") ∈ lw_gd := tb_in6 (i := 50) rfl rfl
theorem tb_1251 : (Jvm.Cond.fieldLink "MedalBoardModel" 229 "MedalBoardModel" "depth" "I") ∈ lw_gd := tb_in6 (i := 51) rfl rfl
theorem tb_1252 : (Jvm.Cond.fieldLink "MedalBoardModel" 232 "MedalBoardModel" "counted" "I") ∈ lw_gd := tb_in6 (i := 52) rfl rfl
theorem tb_1253 : (Jvm.Cond.fieldLink "MedalBoardModel" 356 "MedalBoardModel" "bestOrder" "I") ∈ lw_gd := tb_in6 (i := 53) rfl rfl
theorem tb_1254 : (Jvm.Cond.fieldLink "MedalBoardModel" 47 "MedalBoardModel" "standers" "[I") ∈ lw_gd := tb_in6 (i := 54) rfl rfl
theorem tb_1255 : (Jvm.Cond.fieldLink "MedalBoardModel" 50 "MedalBoardModel" "has" "[I") ∈ lw_gd := tb_in6 (i := 55) rfl rfl
theorem tb_1256 : (Jvm.Cond.fieldLink "MedalBoardModel" 53 "MedalBoardModel" "bestHas" "[I") ∈ lw_gd := tb_in6 (i := 56) rfl rfl
theorem tb_1257 : (Jvm.Cond.fieldLink "MedalBoardModel" 383 "MedalBoardModel" "standerMany" "I") ∈ lw_gd := tb_in6 (i := 57) rfl rfl
theorem tb_1258 : (Jvm.Cond.fieldLink "MedalBoardModel" 389 "MedalBoardModel" "bestCouples" "I") ∈ lw_gd := tb_in6 (i := 58) rfl rfl
theorem tb_1259 : (Jvm.Cond.fieldLink "MedalBoardModel" 392 "MedalBoardModel" "bestFondness" "I") ∈ lw_gd := tb_in6 (i := 59) rfl rfl
theorem tb_1260 : (Jvm.Cond.fieldLink "MedalBoardModel" 56 "MedalBoardModel" "cameTo" "[I") ∈ lw_gd := tb_in6 (i := 60) rfl rfl
theorem tb_1261 : (Jvm.Cond.fieldLink "MedalBoardModel" 408 "MedalBoardModel" "doesStandFirst" "Z") ∈ lw_gd := tb_in6 (i := 61) rfl rfl
theorem tb_1262 : (Jvm.Cond.fieldLink "MedalBoardModel" 59 "MedalBoardModel" "stoodBy" "[J") ∈ lw_gd := tb_in6 (i := 62) rfl rfl
theorem tb_1263 : (Jvm.Cond.fieldLink "MedalBoardModel" 418 "MedalBoardModel" "drawn" "I") ∈ lw_gd := tb_in6 (i := 63) rfl rfl
theorem tb_1264 : (Jvm.Cond.fieldLink "MedalBoardModel" 431 "MedalBoardModel" "ranSteps" "I") ∈ lw_gd := tb_in6 (i := 64) rfl rfl
theorem tb_1265 : (Jvm.Cond.fieldLink "MedalBoardModel" 62 "MedalBoardModel" "loops" "[I") ∈ lw_gd := tb_in6 (i := 65) rfl rfl
theorem tb_1266 : (Jvm.Cond.fieldLink "MedalBoardModel" 65 "MedalBoardModel" "ran" "[I") ∈ lw_gd := tb_in6 (i := 66) rfl rfl
theorem tb_1267 : (Jvm.Cond.fieldLink "MedalBoardModel" 68 "MedalBoardModel" "told1" "[I") ∈ lw_gd := tb_in6 (i := 67) rfl rfl
theorem tb_1268 : (Jvm.Cond.fieldLink "MedalBoardModel" 448 "MedalBoardModel" "isTold" "Z") ∈ lw_gd := tb_in6 (i := 68) rfl rfl
theorem tb_1269 : (Jvm.Cond.fieldLink "MedalBoardModel" 451 "MedalBoardModel" "marks" "I") ∈ lw_gd := tb_in6 (i := 69) rfl rfl
theorem tb_1353 : (Jvm.Cond.methodLink "MedalBoardLaw" 17 ⟨"MedalBoardModel", "status", "()I"⟩) ∈ lw_gd := tb_in6 (i := 153) rfl rfl
theorem tb_1354 : (Jvm.Cond.instanceMethod ⟨"MedalBoardModel", "status", "()I"⟩) ∈ lw_gd := tb_in6 (i := 154) rfl rfl
theorem tb_1355 : (Jvm.Cond.selects "MedalBoardModel" ⟨"MedalBoardModel", "status", "()I"⟩ ⟨"MedalBoardModel", "status", "()I"⟩) ∈ lw_gd := tb_in6 (i := 155) rfl rfl
theorem tb_1356 : (Jvm.Cond.code ⟨"MedalBoardModel", "status", "()I"⟩ prog_14_method_3_code 1 (Option.some Jvm.ClassFile.FieldType.int)) ∈ lw_gd := tb_in6 (i := 156) rfl rfl
theorem tb_1357 : (Jvm.Cond.methodLink "MedalBoardLaw" 22 ⟨"MedalBoardModel", "top", "()J"⟩) ∈ lw_gd := tb_in6 (i := 157) rfl rfl
theorem tb_1358 : (Jvm.Cond.instanceMethod ⟨"MedalBoardModel", "top", "()J"⟩) ∈ lw_gd := tb_in6 (i := 158) rfl rfl
theorem tb_1359 : (Jvm.Cond.selects "MedalBoardModel" ⟨"MedalBoardModel", "top", "()J"⟩ ⟨"MedalBoardModel", "top", "()J"⟩) ∈ lw_gd := tb_in6 (i := 159) rfl rfl
theorem tb_1360 : (Jvm.Cond.code ⟨"MedalBoardModel", "top", "()J"⟩ prog_14_method_4_code 1 (Option.some Jvm.ClassFile.FieldType.long)) ∈ lw_gd := tb_in6 (i := 160) rfl rfl
theorem tb_1361 : (Jvm.Cond.methodLink "MedalBoardLaw" 26 ⟨"MedalBoardModel", "bottom", "()J"⟩) ∈ lw_gd := tb_in6 (i := 161) rfl rfl
theorem tb_1362 : (Jvm.Cond.instanceMethod ⟨"MedalBoardModel", "bottom", "()J"⟩) ∈ lw_gd := tb_in6 (i := 162) rfl rfl
theorem tb_1363 : (Jvm.Cond.selects "MedalBoardModel" ⟨"MedalBoardModel", "bottom", "()J"⟩ ⟨"MedalBoardModel", "bottom", "()J"⟩) ∈ lw_gd := tb_in6 (i := 163) rfl rfl
theorem tb_1364 : (Jvm.Cond.code ⟨"MedalBoardModel", "bottom", "()J"⟩ prog_14_method_5_code 1 (Option.some Jvm.ClassFile.FieldType.long)) ∈ lw_gd := tb_in6 (i := 164) rfl rfl
theorem tb_1365 : (Jvm.Cond.methodLink "MedalBoardLaw" 31 ⟨"MedalBoardModel", "tray", "(III)Z"⟩) ∈ lw_gd := tb_in6 (i := 165) rfl rfl
theorem tb_1366 : (Jvm.Cond.instanceMethod ⟨"MedalBoardModel", "tray", "(III)Z"⟩) ∈ lw_gd := tb_in6 (i := 166) rfl rfl
theorem tb_1367 : (Jvm.Cond.selects "MedalBoardModel" ⟨"MedalBoardModel", "tray", "(III)Z"⟩ ⟨"MedalBoardModel", "tray", "(III)Z"⟩) ∈ lw_gd := tb_in6 (i := 167) rfl rfl
theorem tb_1368 : (Jvm.Cond.code ⟨"MedalBoardModel", "tray", "(III)Z"⟩ prog_14_method_13_code 5 (Option.some Jvm.ClassFile.FieldType.boolean)) ∈ lw_gd := tb_in6 (i := 168) rfl rfl
theorem tb_1369 : (Jvm.Cond.methodLink "MedalBoardModel" 95 ⟨"MedalBoardModel", "isTray", "(I)Z"⟩) ∈ lw_gd := tb_in6 (i := 169) rfl rfl
theorem tb_1370 : (Jvm.Cond.static ⟨"MedalBoardModel", "isTray", "(I)Z"⟩) ∈ lw_gd := tb_in6 (i := 170) rfl rfl
theorem tb_1371 : (Jvm.Cond.code ⟨"MedalBoardModel", "isTray", "(I)Z"⟩ prog_14_method_11_code 1 (Option.some Jvm.ClassFile.FieldType.boolean)) ∈ lw_gd := tb_in6 (i := 171) rfl rfl
theorem tb_1372 : (Jvm.Cond.methodLink "MedalBoardModel" 91 ⟨"MedalBoardModel", "is", "(I)Z"⟩) ∈ lw_gd := tb_in6 (i := 172) rfl rfl
theorem tb_1374 : (Jvm.Cond.instanceMethod ⟨"MedalBoardModel", "is", "(I)Z"⟩) ∈ lw_gd := tb_in6 (i := 174) rfl rfl
theorem tb_1375 : (Jvm.Cond.code ⟨"MedalBoardModel", "is", "(I)Z"⟩ prog_14_method_6_code 2 (Option.some Jvm.ClassFile.FieldType.boolean)) ∈ lw_gd := tb_in6 (i := 175) rfl rfl
theorem tb_1376 : (Jvm.Cond.methodLink "MedalBoardLaw" 38 ⟨"MedalBoardModel", "write", "(IIJ)Z"⟩) ∈ lw_gd := tb_in6 (i := 176) rfl rfl
theorem tb_1377 : (Jvm.Cond.instanceMethod ⟨"MedalBoardModel", "write", "(IIJ)Z"⟩) ∈ lw_gd := tb_in6 (i := 177) rfl rfl
theorem tb_1378 : (Jvm.Cond.selects "MedalBoardModel" ⟨"MedalBoardModel", "write", "(IIJ)Z"⟩ ⟨"MedalBoardModel", "write", "(IIJ)Z"⟩) ∈ lw_gd := tb_in6 (i := 178) rfl rfl
theorem tb_1379 : (Jvm.Cond.code ⟨"MedalBoardModel", "write", "(IIJ)Z"⟩ prog_14_method_15_code 6 (Option.some Jvm.ClassFile.FieldType.boolean)) ∈ lw_gd := tb_in6 (i := 179) rfl rfl
theorem tb_1380 : (Jvm.Cond.methodLink "MedalBoardModel" 98 ⟨"MedalBoardModel", "wrongPlace", "(II)I"⟩) ∈ lw_gd := tb_in6 (i := 180) rfl rfl
theorem tb_1382 : (Jvm.Cond.instanceMethod ⟨"MedalBoardModel", "wrongPlace", "(II)I"⟩) ∈ lw_gd := tb_in6 (i := 182) rfl rfl
theorem tb_1383 : (Jvm.Cond.code ⟨"MedalBoardModel", "wrongPlace", "(II)I"⟩ prog_14_method_14_code 3 (Option.some Jvm.ClassFile.FieldType.int)) ∈ lw_gd := tb_in6 (i := 183) rfl rfl
theorem tb_1384 : (Jvm.Cond.methodLink "MedalBoardModel" 102 ⟨"MedalBoardModel", "cut", "(JI)J"⟩) ∈ lw_gd := tb_in6 (i := 184) rfl rfl
theorem tb_1385 : (Jvm.Cond.static ⟨"MedalBoardModel", "cut", "(JI)J"⟩) ∈ lw_gd := tb_in6 (i := 185) rfl rfl
theorem tb_1386 : (Jvm.Cond.code ⟨"MedalBoardModel", "cut", "(JI)J"⟩ prog_14_method_12_code 3 (Option.some Jvm.ClassFile.FieldType.long)) ∈ lw_gd := tb_in6 (i := 186) rfl rfl
theorem tb_1387 : (Jvm.Cond.methodLink "MedalBoardLaw" 43 ⟨"MedalBoardModel", "read", "(II)J"⟩) ∈ lw_gd := tb_in6 (i := 187) rfl rfl
theorem tb_1388 : (Jvm.Cond.instanceMethod ⟨"MedalBoardModel", "read", "(II)J"⟩) ∈ lw_gd := tb_in6 (i := 188) rfl rfl
theorem tb_1389 : (Jvm.Cond.selects "MedalBoardModel" ⟨"MedalBoardModel", "read", "(II)J"⟩ ⟨"MedalBoardModel", "read", "(II)J"⟩) ∈ lw_gd := tb_in6 (i := 189) rfl rfl
theorem tb_1390 : (Jvm.Cond.code ⟨"MedalBoardModel", "read", "(II)J"⟩ prog_14_method_16_code 3 (Option.some Jvm.ClassFile.FieldType.long)) ∈ lw_gd := tb_in6 (i := 190) rfl rfl
theorem tb_1391 : (Jvm.Cond.constantLong "MedalBoardModel" 106 (-1)) ∈ lw_gd := tb_in6 (i := 191) rfl rfl
theorem tb_1392 : (Jvm.Cond.methodLink "MedalBoardLaw" 48 ⟨"MedalBoardModel", "pour", "(IIIII)Z"⟩) ∈ lw_gd := tb_in6 (i := 192) rfl rfl
theorem tb_1393 : (Jvm.Cond.instanceMethod ⟨"MedalBoardModel", "pour", "(IIIII)Z"⟩) ∈ lw_gd := tb_in6 (i := 193) rfl rfl
theorem tb_1394 : (Jvm.Cond.selects "MedalBoardModel" ⟨"MedalBoardModel", "pour", "(IIIII)Z"⟩ ⟨"MedalBoardModel", "pour", "(IIIII)Z"⟩) ∈ lw_gd := tb_in6 (i := 194) rfl rfl
theorem tb_1395 : (Jvm.Cond.code ⟨"MedalBoardModel", "pour", "(IIIII)Z"⟩ prog_14_method_17_code 8 (Option.some Jvm.ClassFile.FieldType.boolean)) ∈ lw_gd := tb_in6 (i := 195) rfl rfl
theorem tb_1396 : (Jvm.Cond.methodLink "MedalBoardLaw" 53 ⟨"MedalBoardModel", "feed", "(IIIII)I"⟩) ∈ lw_gd := tb_in6 (i := 196) rfl rfl
theorem tb_1397 : (Jvm.Cond.instanceMethod ⟨"MedalBoardModel", "feed", "(IIIII)I"⟩) ∈ lw_gd := tb_in6 (i := 197) rfl rfl
theorem tb_1398 : (Jvm.Cond.selects "MedalBoardModel" ⟨"MedalBoardModel", "feed", "(IIIII)I"⟩ ⟨"MedalBoardModel", "feed", "(IIIII)I"⟩) ∈ lw_gd := tb_in6 (i := 198) rfl rfl
theorem tb_1399 : (Jvm.Cond.code ⟨"MedalBoardModel", "feed", "(IIIII)I"⟩ prog_14_method_19_code 6 (Option.some Jvm.ClassFile.FieldType.int)) ∈ lw_gd := tb_in6 (i := 199) rfl rfl
theorem tb_1400 : (Jvm.Cond.methodLink "MedalBoardModel" 111 ⟨"MedalBoardModel", "four", "(I)V"⟩) ∈ lw_gd := tb_in6 (i := 200) rfl rfl
theorem tb_1402 : (Jvm.Cond.instanceMethod ⟨"MedalBoardModel", "four", "(I)V"⟩) ∈ lw_gd := tb_in6 (i := 202) rfl rfl
theorem tb_1403 : (Jvm.Cond.code ⟨"MedalBoardModel", "four", "(I)V"⟩ prog_14_method_20_code 3 (Option.none : Option Jvm.ClassFile.FieldType)) ∈ lw_gd := tb_in6 (i := 203) rfl rfl
theorem tb_1404 : (Jvm.Cond.methodLink "MedalBoardLaw" 66 ⟨"MedalBoardModel", "fault", "(I)I"⟩) ∈ lw_gd := tb_in6 (i := 204) rfl rfl
theorem tb_1405 : (Jvm.Cond.instanceMethod ⟨"MedalBoardModel", "fault", "(I)I"⟩) ∈ lw_gd := tb_in6 (i := 205) rfl rfl
theorem tb_1406 : (Jvm.Cond.selects "MedalBoardModel" ⟨"MedalBoardModel", "fault", "(I)I"⟩ ⟨"MedalBoardModel", "fault", "(I)I"⟩) ∈ lw_gd := tb_in6 (i := 206) rfl rfl
theorem tb_1407 : (Jvm.Cond.code ⟨"MedalBoardModel", "fault", "(I)I"⟩ prog_14_method_35_code 2 (Option.some Jvm.ClassFile.FieldType.int)) ∈ lw_gd := tb_in6 (i := 207) rfl rfl
theorem tb_1408 : (Jvm.Cond.methodLink "MedalBoardLaw" 58 ⟨"MedalBoardModel", "army", "(I)I"⟩) ∈ lw_gd := tb_in6 (i := 208) rfl rfl
theorem tb_1409 : (Jvm.Cond.instanceMethod ⟨"MedalBoardModel", "army", "(I)I"⟩) ∈ lw_gd := tb_in6 (i := 209) rfl rfl
theorem tb_1410 : (Jvm.Cond.selects "MedalBoardModel" ⟨"MedalBoardModel", "army", "(I)I"⟩ ⟨"MedalBoardModel", "army", "(I)I"⟩) ∈ lw_gd := tb_in6 (i := 210) rfl rfl
theorem tb_1411 : (Jvm.Cond.code ⟨"MedalBoardModel", "army", "(I)I"⟩ prog_14_method_43_code 4 (Option.some Jvm.ClassFile.FieldType.int)) ∈ lw_gd := tb_in6 (i := 211) rfl rfl
theorem tb_1412 : (Jvm.Cond.methodLink "MedalBoardModel" 213 ⟨"MedalBoardModel", "begins", "(II)Z"⟩) ∈ lw_gd := tb_in6 (i := 212) rfl rfl
theorem tb_1414 : (Jvm.Cond.instanceMethod ⟨"MedalBoardModel", "begins", "(II)Z"⟩) ∈ lw_gd := tb_in6 (i := 214) rfl rfl
theorem tb_1415 : (Jvm.Cond.code ⟨"MedalBoardModel", "begins", "(II)Z"⟩ prog_14_method_28_code 4 (Option.some Jvm.ClassFile.FieldType.boolean)) ∈ lw_gd := tb_in6 (i := 215) rfl rfl
theorem tb_1416 : (Jvm.Cond.methodLink "MedalBoardModel" 160 ⟨"MedalBoardModel", "ahead", "()V"⟩) ∈ lw_gd := tb_in6 (i := 216) rfl rfl
theorem tb_1418 : (Jvm.Cond.instanceMethod ⟨"MedalBoardModel", "ahead", "()V"⟩) ∈ lw_gd := tb_in6 (i := 218) rfl rfl
theorem tb_1419 : (Jvm.Cond.code ⟨"MedalBoardModel", "ahead", "()V"⟩ prog_14_method_24_code 2 (Option.none : Option Jvm.ClassFile.FieldType)) ∈ lw_gd := tb_in6 (i := 219) rfl rfl
theorem tb_1420 : (Jvm.Cond.methodLink "MedalBoardModel" 120 ⟨"MedalBoardModel", "byteAt", "(I)I"⟩) ∈ lw_gd := tb_in6 (i := 220) rfl rfl
theorem tb_1422 : (Jvm.Cond.instanceMethod ⟨"MedalBoardModel", "byteAt", "(I)I"⟩) ∈ lw_gd := tb_in6 (i := 222) rfl rfl
theorem tb_1423 : (Jvm.Cond.code ⟨"MedalBoardModel", "byteAt", "(I)I"⟩ prog_14_method_21_code 2 (Option.some Jvm.ClassFile.FieldType.int)) ∈ lw_gd := tb_in6 (i := 223) rfl rfl
theorem tb_1424 : (Jvm.Cond.methodLink "MedalBoardModel" 132 ⟨"MedalBoardModel", "isSmall", "(I)Z"⟩) ∈ lw_gd := tb_in6 (i := 224) rfl rfl
theorem tb_1425 : (Jvm.Cond.static ⟨"MedalBoardModel", "isSmall", "(I)Z"⟩) ∈ lw_gd := tb_in6 (i := 225) rfl rfl
theorem tb_1426 : (Jvm.Cond.code ⟨"MedalBoardModel", "isSmall", "(I)Z"⟩ prog_14_method_22_code 1 (Option.some Jvm.ClassFile.FieldType.boolean)) ∈ lw_gd := tb_in6 (i := 226) rfl rfl
theorem tb_1427 : (Jvm.Cond.methodLink "MedalBoardModel" 135 ⟨"MedalBoardModel", "isDigit", "(I)Z"⟩) ∈ lw_gd := tb_in6 (i := 227) rfl rfl
theorem tb_1428 : (Jvm.Cond.static ⟨"MedalBoardModel", "isDigit", "(I)Z"⟩) ∈ lw_gd := tb_in6 (i := 228) rfl rfl
theorem tb_1429 : (Jvm.Cond.code ⟨"MedalBoardModel", "isDigit", "(I)Z"⟩ prog_14_method_23_code 1 (Option.some Jvm.ClassFile.FieldType.boolean)) ∈ lw_gd := tb_in6 (i := 229) rfl rfl
theorem tb_1430 : (Jvm.Cond.constant "MedalBoardModel" 138 100000) ∈ lw_gd := tb_in6 (i := 230) rfl rfl
theorem tb_1431 : (Jvm.Cond.methodLink "MedalBoardModel" 139 ⟨"java/lang/Math", "min", "(II)I"⟩) ∈ lw_gd := tb_in6 (i := 231) rfl rfl
theorem tb_1432 : (Jvm.Cond.methodLink "MedalBoardModel" 85 ⟨"MedalBoardModel", "refuse", "(I)I"⟩) ∈ lw_gd := tb_in6 (i := 232) rfl rfl
theorem tb_1434 : (Jvm.Cond.instanceMethod ⟨"MedalBoardModel", "refuse", "(I)I"⟩) ∈ lw_gd := tb_in6 (i := 234) rfl rfl
theorem tb_1435 : (Jvm.Cond.code ⟨"MedalBoardModel", "refuse", "(I)I"⟩ prog_14_method_7_code 2 (Option.some Jvm.ClassFile.FieldType.int)) ∈ lw_gd := tb_in6 (i := 235) rfl rfl
theorem tb_1436 : (Jvm.Cond.methodLink "MedalBoardModel" 217 ⟨"MedalBoardModel", "armyPart", "()Z"⟩) ∈ lw_gd := tb_in6 (i := 236) rfl rfl
theorem tb_1438 : (Jvm.Cond.instanceMethod ⟨"MedalBoardModel", "armyPart", "()Z"⟩) ∈ lw_gd := tb_in6 (i := 238) rfl rfl
theorem tb_1439 : (Jvm.Cond.code ⟨"MedalBoardModel", "armyPart", "()Z"⟩ prog_14_method_42_code 3 (Option.some Jvm.ClassFile.FieldType.boolean)) ∈ lw_gd := tb_in6 (i := 239) rfl rfl
theorem tb_1441 : (Jvm.Cond.methodLink "MedalBoardModel" 169 ⟨"MedalBoardModel", "inWords", "(Ljava/lang/String;)I"⟩) ∈ lw_gd := tb_in7 (i := 1) rfl rfl
theorem tb_1443 : (Jvm.Cond.instanceMethod ⟨"MedalBoardModel", "inWords", "(Ljava/lang/String;)I"⟩) ∈ lw_gd := tb_in7 (i := 3) rfl rfl
theorem tb_1444 : (Jvm.Cond.code ⟨"MedalBoardModel", "inWords", "(Ljava/lang/String;)I"⟩ prog_14_method_26_code 7 (Option.some Jvm.ClassFile.FieldType.int)) ∈ lw_gd := tb_in7 (i := 4) rfl rfl
theorem tb_1445 : (Jvm.Cond.methodLink "MedalBoardModel" 144 ⟨"java/lang/String", "length", "()I"⟩) ∈ lw_gd := tb_in7 (i := 5) rfl rfl
theorem tb_1446 : (Jvm.Cond.methodLink "MedalBoardModel" 150 ⟨"java/lang/String", "charAt", "(I)C"⟩) ∈ lw_gd := tb_in7 (i := 6) rfl rfl
theorem tb_1447 : (Jvm.Cond.methodLink "MedalBoardModel" 166 ⟨"MedalBoardModel", "fails", "(I)Z"⟩) ∈ lw_gd := tb_in7 (i := 7) rfl rfl
theorem tb_1449 : (Jvm.Cond.instanceMethod ⟨"MedalBoardModel", "fails", "(I)Z"⟩) ∈ lw_gd := tb_in7 (i := 9) rfl rfl
theorem tb_1450 : (Jvm.Cond.code ⟨"MedalBoardModel", "fails", "(I)Z"⟩ prog_14_method_27_code 2 (Option.some Jvm.ClassFile.FieldType.boolean)) ∈ lw_gd := tb_in7 (i := 10) rfl rfl
theorem tb_1451 : (Jvm.Cond.methodLink "MedalBoardModel" 190 ⟨"MedalBoardModel", "number", "(III)Z"⟩) ∈ lw_gd := tb_in7 (i := 11) rfl rfl
theorem tb_1453 : (Jvm.Cond.instanceMethod ⟨"MedalBoardModel", "number", "(III)Z"⟩) ∈ lw_gd := tb_in7 (i := 13) rfl rfl
theorem tb_1454 : (Jvm.Cond.code ⟨"MedalBoardModel", "number", "(III)Z"⟩ prog_14_method_31_code 4 (Option.some Jvm.ClassFile.FieldType.boolean)) ∈ lw_gd := tb_in7 (i := 14) rfl rfl
theorem tb_1455 : (Jvm.Cond.methodLink "MedalBoardModel" 203 ⟨"MedalBoardModel", "aMan", "()Z"⟩) ∈ lw_gd := tb_in7 (i := 15) rfl rfl
theorem tb_1457 : (Jvm.Cond.instanceMethod ⟨"MedalBoardModel", "aMan", "()Z"⟩) ∈ lw_gd := tb_in7 (i := 17) rfl rfl
theorem tb_1458 : (Jvm.Cond.code ⟨"MedalBoardModel", "aMan", "()Z"⟩ prog_14_method_40_code 2 (Option.some Jvm.ClassFile.FieldType.boolean)) ∈ lw_gd := tb_in7 (i := 18) rfl rfl
theorem tb_1459 : (Jvm.Cond.methodLink "MedalBoardModel" 179 ⟨"MedalBoardModel", "isName", "(Ljava/lang/String;)Z"⟩) ∈ lw_gd := tb_in7 (i := 19) rfl rfl
theorem tb_1461 : (Jvm.Cond.instanceMethod ⟨"MedalBoardModel", "isName", "(Ljava/lang/String;)Z"⟩) ∈ lw_gd := tb_in7 (i := 21) rfl rfl
theorem tb_1462 : (Jvm.Cond.code ⟨"MedalBoardModel", "isName", "(Ljava/lang/String;)Z"⟩ prog_14_method_32_code 2 (Option.some Jvm.ClassFile.FieldType.boolean)) ∈ lw_gd := tb_in7 (i := 22) rfl rfl
theorem tb_1463 : (Jvm.Cond.methodLink "MedalBoardModel" 183 ⟨"MedalBoardModel", "findHere", "(II)I"⟩) ∈ lw_gd := tb_in7 (i := 23) rfl rfl
theorem tb_1465 : (Jvm.Cond.instanceMethod ⟨"MedalBoardModel", "findHere", "(II)I"⟩) ∈ lw_gd := tb_in7 (i := 25) rfl rfl
theorem tb_1466 : (Jvm.Cond.code ⟨"MedalBoardModel", "findHere", "(II)I"⟩ prog_14_method_34_code 4 (Option.some Jvm.ClassFile.FieldType.int)) ∈ lw_gd := tb_in7 (i := 26) rfl rfl
theorem tb_1467 : (Jvm.Cond.methodLink "MedalBoardModel" 173 ⟨"MedalBoardModel", "nameHere", "()J"⟩) ∈ lw_gd := tb_in7 (i := 27) rfl rfl
theorem tb_1469 : (Jvm.Cond.instanceMethod ⟨"MedalBoardModel", "nameHere", "()J"⟩) ∈ lw_gd := tb_in7 (i := 29) rfl rfl
theorem tb_1470 : (Jvm.Cond.code ⟨"MedalBoardModel", "nameHere", "()J"⟩ prog_14_method_33_code 4 (Option.some Jvm.ClassFile.FieldType.long)) ∈ lw_gd := tb_in7 (i := 30) rfl rfl
theorem tb_1471 : (Jvm.Cond.methodLink "MedalBoardModel" 186 ⟨"MedalBoardModel", "wantWord", "(Ljava/lang/String;I)Z"⟩) ∈ lw_gd := tb_in7 (i := 31) rfl rfl
theorem tb_1473 : (Jvm.Cond.instanceMethod ⟨"MedalBoardModel", "wantWord", "(Ljava/lang/String;I)Z"⟩) ∈ lw_gd := tb_in7 (i := 33) rfl rfl
theorem tb_1474 : (Jvm.Cond.code ⟨"MedalBoardModel", "wantWord", "(Ljava/lang/String;I)Z"⟩ prog_14_method_30_code 3 (Option.some Jvm.ClassFile.FieldType.boolean)) ∈ lw_gd := tb_in7 (i := 34) rfl rfl
theorem tb_1475 : (Jvm.Cond.methodLink "MedalBoardModel" 194 ⟨"MedalBoardModel", "isThere", "(I)Z"⟩) ∈ lw_gd := tb_in7 (i := 35) rfl rfl
theorem tb_1477 : (Jvm.Cond.instanceMethod ⟨"MedalBoardModel", "isThere", "(I)Z"⟩) ∈ lw_gd := tb_in7 (i := 37) rfl rfl
theorem tb_1478 : (Jvm.Cond.code ⟨"MedalBoardModel", "isThere", "(I)Z"⟩ prog_14_method_38_code 2 (Option.some Jvm.ClassFile.FieldType.boolean)) ∈ lw_gd := tb_in7 (i := 38) rfl rfl
theorem tb_1479 : (Jvm.Cond.methodLink "MedalBoardModel" 207 ⟨"MedalBoardModel", "aLike", "()Z"⟩) ∈ lw_gd := tb_in7 (i := 39) rfl rfl
theorem tb_1481 : (Jvm.Cond.instanceMethod ⟨"MedalBoardModel", "aLike", "()Z"⟩) ∈ lw_gd := tb_in7 (i := 41) rfl rfl
theorem tb_1482 : (Jvm.Cond.code ⟨"MedalBoardModel", "aLike", "()Z"⟩ prog_14_method_41_code 2 (Option.some Jvm.ClassFile.FieldType.boolean)) ∈ lw_gd := tb_in7 (i := 42) rfl rfl
theorem tb_1483 : (Jvm.Cond.methodLink "MedalBoardModel" 197 ⟨"MedalBoardModel", "oldOne", "(III)Z"⟩) ∈ lw_gd := tb_in7 (i := 43) rfl rfl
theorem tb_1485 : (Jvm.Cond.instanceMethod ⟨"MedalBoardModel", "oldOne", "(III)Z"⟩) ∈ lw_gd := tb_in7 (i := 45) rfl rfl
theorem tb_1486 : (Jvm.Cond.code ⟨"MedalBoardModel", "oldOne", "(III)Z"⟩ prog_14_method_39_code 4 (Option.some Jvm.ClassFile.FieldType.boolean)) ∈ lw_gd := tb_in7 (i := 46) rfl rfl
theorem tb_1487 : (Jvm.Cond.methodLink "MedalBoardModel" 210 ⟨"MedalBoardModel", "wantSign", "(I)Z"⟩) ∈ lw_gd := tb_in7 (i := 47) rfl rfl
theorem tb_1489 : (Jvm.Cond.instanceMethod ⟨"MedalBoardModel", "wantSign", "(I)Z"⟩) ∈ lw_gd := tb_in7 (i := 49) rfl rfl
theorem tb_1490 : (Jvm.Cond.code ⟨"MedalBoardModel", "wantSign", "(I)Z"⟩ prog_14_method_29_code 2 (Option.some Jvm.ClassFile.FieldType.boolean)) ∈ lw_gd := tb_in7 (i := 50) rfl rfl
theorem tb_1491 : (Jvm.Cond.methodLink "MedalBoardModel" 163 ⟨"MedalBoardModel", "isSign", "(I)Z"⟩) ∈ lw_gd := tb_in7 (i := 51) rfl rfl
theorem tb_1493 : (Jvm.Cond.instanceMethod ⟨"MedalBoardModel", "isSign", "(I)Z"⟩) ∈ lw_gd := tb_in7 (i := 53) rfl rfl
theorem tb_1494 : (Jvm.Cond.code ⟨"MedalBoardModel", "isSign", "(I)Z"⟩ prog_14_method_25_code 2 (Option.some Jvm.ClassFile.FieldType.boolean)) ∈ lw_gd := tb_in7 (i := 54) rfl rfl
theorem tb_1495 : (Jvm.Cond.methodLink "MedalBoardModel" 220 ⟨"MedalBoardModel", "taken", "(I)I"⟩) ∈ lw_gd := tb_in7 (i := 55) rfl rfl
theorem tb_1497 : (Jvm.Cond.instanceMethod ⟨"MedalBoardModel", "taken", "(I)I"⟩) ∈ lw_gd := tb_in7 (i := 57) rfl rfl
theorem tb_1498 : (Jvm.Cond.code ⟨"MedalBoardModel", "taken", "(I)I"⟩ prog_14_method_36_code 2 (Option.some Jvm.ClassFile.FieldType.int)) ∈ lw_gd := tb_in7 (i := 58) rfl rfl
theorem tb_1499 : (Jvm.Cond.methodLink "MedalBoardModel" 88 ⟨"MedalBoardModel", "gives", "(I)I"⟩) ∈ lw_gd := tb_in7 (i := 59) rfl rfl
theorem tb_1501 : (Jvm.Cond.instanceMethod ⟨"MedalBoardModel", "gives", "(I)I"⟩) ∈ lw_gd := tb_in7 (i := 61) rfl rfl
theorem tb_1502 : (Jvm.Cond.code ⟨"MedalBoardModel", "gives", "(I)I"⟩ prog_14_method_8_code 2 (Option.some Jvm.ClassFile.FieldType.int)) ∈ lw_gd := tb_in7 (i := 62) rfl rfl
theorem tb_1503 : (Jvm.Cond.methodLink "MedalBoardLaw" 62 ⟨"MedalBoardModel", "war", "(I)I"⟩) ∈ lw_gd := tb_in7 (i := 63) rfl rfl
theorem tb_1504 : (Jvm.Cond.instanceMethod ⟨"MedalBoardModel", "war", "(I)I"⟩) ∈ lw_gd := tb_in7 (i := 64) rfl rfl
theorem tb_1505 : (Jvm.Cond.selects "MedalBoardModel" ⟨"MedalBoardModel", "war", "(I)I"⟩ ⟨"MedalBoardModel", "war", "(I)I"⟩) ∈ lw_gd := tb_in7 (i := 65) rfl rfl
theorem tb_1506 : (Jvm.Cond.code ⟨"MedalBoardModel", "war", "(I)I"⟩ prog_14_method_48_code 4 (Option.some Jvm.ClassFile.FieldType.int)) ∈ lw_gd := tb_in7 (i := 66) rfl rfl
theorem tb_1507 : (Jvm.Cond.methodLink "MedalBoardModel" 238 ⟨"MedalBoardModel", "warStep", "()Z"⟩) ∈ lw_gd := tb_in7 (i := 67) rfl rfl
theorem tb_1509 : (Jvm.Cond.instanceMethod ⟨"MedalBoardModel", "warStep", "()Z"⟩) ∈ lw_gd := tb_in7 (i := 69) rfl rfl
theorem tb_1510 : (Jvm.Cond.code ⟨"MedalBoardModel", "warStep", "()Z"⟩ prog_14_method_47_code 6 (Option.some Jvm.ClassFile.FieldType.boolean)) ∈ lw_gd := tb_in7 (i := 70) rfl rfl
theorem tb_1511 : (Jvm.Cond.methodLink "MedalBoardModel" 235 ⟨"MedalBoardModel", "warOrder", "(II)Z"⟩) ∈ lw_gd := tb_in7 (i := 71) rfl rfl
theorem tb_1513 : (Jvm.Cond.instanceMethod ⟨"MedalBoardModel", "warOrder", "(II)Z"⟩) ∈ lw_gd := tb_in7 (i := 73) rfl rfl
theorem tb_1514 : (Jvm.Cond.code ⟨"MedalBoardModel", "warOrder", "(II)Z"⟩ prog_14_method_46_code 3 (Option.some Jvm.ClassFile.FieldType.boolean)) ∈ lw_gd := tb_in7 (i := 74) rfl rfl
theorem tb_1515 : (Jvm.Cond.methodLink "MedalBoardModel" 223 ⟨"MedalBoardModel", "manTo", "(I)Z"⟩) ∈ lw_gd := tb_in7 (i := 75) rfl rfl
theorem tb_1517 : (Jvm.Cond.instanceMethod ⟨"MedalBoardModel", "manTo", "(I)Z"⟩) ∈ lw_gd := tb_in7 (i := 77) rfl rfl
theorem tb_1518 : (Jvm.Cond.code ⟨"MedalBoardModel", "manTo", "(I)Z"⟩ prog_14_method_44_code 2 (Option.some Jvm.ClassFile.FieldType.boolean)) ∈ lw_gd := tb_in7 (i := 78) rfl rfl
theorem tb_1519 : (Jvm.Cond.methodLink "MedalBoardModel" 226 ⟨"MedalBoardModel", "test", "(I)Z"⟩) ∈ lw_gd := tb_in7 (i := 79) rfl rfl
theorem tb_1521 : (Jvm.Cond.instanceMethod ⟨"MedalBoardModel", "test", "(I)Z"⟩) ∈ lw_gd := tb_in7 (i := 81) rfl rfl
theorem tb_1522 : (Jvm.Cond.code ⟨"MedalBoardModel", "test", "(I)Z"⟩ prog_14_method_45_code 3 (Option.some Jvm.ClassFile.FieldType.boolean)) ∈ lw_gd := tb_in7 (i := 82) rfl rfl
theorem tb_1523 : (Jvm.Cond.methodLink "MedalBoardLaw" 70 ⟨"MedalBoardModel", "told", "(I)I"⟩) ∈ lw_gd := tb_in7 (i := 83) rfl rfl
theorem tb_1524 : (Jvm.Cond.instanceMethod ⟨"MedalBoardModel", "told", "(I)I"⟩) ∈ lw_gd := tb_in7 (i := 84) rfl rfl
theorem tb_1525 : (Jvm.Cond.selects "MedalBoardModel" ⟨"MedalBoardModel", "told", "(I)I"⟩ ⟨"MedalBoardModel", "told", "(I)I"⟩) ∈ lw_gd := tb_in7 (i := 85) rfl rfl
theorem tb_1526 : (Jvm.Cond.code ⟨"MedalBoardModel", "told", "(I)I"⟩ prog_14_method_62_code 2 (Option.some Jvm.ClassFile.FieldType.int)) ∈ lw_gd := tb_in7 (i := 86) rfl rfl
theorem tb_1527 : (Jvm.Cond.methodLink "MedalBoardModel" 259 ⟨"MedalBoardModel", "living", "()I"⟩) ∈ lw_gd := tb_in7 (i := 87) rfl rfl
theorem tb_1529 : (Jvm.Cond.instanceMethod ⟨"MedalBoardModel", "living", "()I"⟩) ∈ lw_gd := tb_in7 (i := 89) rfl rfl
theorem tb_1530 : (Jvm.Cond.code ⟨"MedalBoardModel", "living", "()I"⟩ prog_14_method_56_code 3 (Option.some Jvm.ClassFile.FieldType.int)) ∈ lw_gd := tb_in7 (i := 90) rfl rfl
theorem tb_1531 : (Jvm.Cond.methodLink "MedalBoardModel" 253 ⟨"MedalBoardModel", "isAlive", "(I)Z"⟩) ∈ lw_gd := tb_in7 (i := 91) rfl rfl
theorem tb_1533 : (Jvm.Cond.instanceMethod ⟨"MedalBoardModel", "isAlive", "(I)Z"⟩) ∈ lw_gd := tb_in7 (i := 93) rfl rfl
theorem tb_1534 : (Jvm.Cond.code ⟨"MedalBoardModel", "isAlive", "(I)Z"⟩ prog_14_method_55_code 2 (Option.some Jvm.ClassFile.FieldType.boolean)) ∈ lw_gd := tb_in7 (i := 94) rfl rfl
theorem tb_1535 : (Jvm.Cond.methodLink "MedalBoardModel" 250 ⟨"MedalBoardModel", "manOf", "(II)I"⟩) ∈ lw_gd := tb_in7 (i := 95) rfl rfl
theorem tb_1537 : (Jvm.Cond.instanceMethod ⟨"MedalBoardModel", "manOf", "(II)I"⟩) ∈ lw_gd := tb_in7 (i := 97) rfl rfl
theorem tb_1538 : (Jvm.Cond.code ⟨"MedalBoardModel", "manOf", "(II)I"⟩ prog_14_method_54_code 3 (Option.some Jvm.ClassFile.FieldType.int)) ∈ lw_gd := tb_in7 (i := 98) rfl rfl
theorem tb_1539 : (Jvm.Cond.methodLink "MedalBoardModel" 262 ⟨"MedalBoardModel", "decorated", "()I"⟩) ∈ lw_gd := tb_in7 (i := 99) rfl rfl
theorem tb_1541 : (Jvm.Cond.instanceMethod ⟨"MedalBoardModel", "decorated", "()I"⟩) ∈ lw_gd := tb_in7 (i := 101) rfl rfl
theorem tb_1542 : (Jvm.Cond.code ⟨"MedalBoardModel", "decorated", "()I"⟩ prog_14_method_60_code 3 (Option.some Jvm.ClassFile.FieldType.int)) ∈ lw_gd := tb_in7 (i := 102) rfl rfl
theorem tb_1543 : (Jvm.Cond.methodLink "MedalBoardModel" 265 ⟨"MedalBoardModel", "sumOf", "(I)I"⟩) ∈ lw_gd := tb_in7 (i := 103) rfl rfl
theorem tb_1545 : (Jvm.Cond.instanceMethod ⟨"MedalBoardModel", "sumOf", "(I)I"⟩) ∈ lw_gd := tb_in7 (i := 105) rfl rfl
theorem tb_1546 : (Jvm.Cond.code ⟨"MedalBoardModel", "sumOf", "(I)I"⟩ prog_14_method_61_code 4 (Option.some Jvm.ClassFile.FieldType.int)) ∈ lw_gd := tb_in7 (i := 106) rfl rfl
theorem tb_1547 : (Jvm.Cond.methodLink "MedalBoardLaw" 75 ⟨"MedalBoardModel", "man", "(II)I"⟩) ∈ lw_gd := tb_in7 (i := 107) rfl rfl
theorem tb_1548 : (Jvm.Cond.instanceMethod ⟨"MedalBoardModel", "man", "(II)I"⟩) ∈ lw_gd := tb_in7 (i := 108) rfl rfl
theorem tb_1549 : (Jvm.Cond.selects "MedalBoardModel" ⟨"MedalBoardModel", "man", "(II)I"⟩ ⟨"MedalBoardModel", "man", "(II)I"⟩) ∈ lw_gd := tb_in7 (i := 109) rfl rfl
theorem tb_1550 : (Jvm.Cond.code ⟨"MedalBoardModel", "man", "(II)I"⟩ prog_14_method_63_code 3 (Option.some Jvm.ClassFile.FieldType.int)) ∈ lw_gd := tb_in7 (i := 110) rfl rfl
theorem tb_1551 : (Jvm.Cond.methodLink "MedalBoardModel" 241 ⟨"MedalBoardModel", "isMan", "(I)Z"⟩) ∈ lw_gd := tb_in7 (i := 111) rfl rfl
theorem tb_1553 : (Jvm.Cond.instanceMethod ⟨"MedalBoardModel", "isMan", "(I)Z"⟩) ∈ lw_gd := tb_in7 (i := 113) rfl rfl
theorem tb_1554 : (Jvm.Cond.code ⟨"MedalBoardModel", "isMan", "(I)Z"⟩ prog_14_method_49_code 2 (Option.some Jvm.ClassFile.FieldType.boolean)) ∈ lw_gd := tb_in7 (i := 114) rfl rfl
theorem tb_1555 : (Jvm.Cond.methodLink "MedalBoardModel" 256 ⟨"MedalBoardModel", "braveOf", "(I)I"⟩) ∈ lw_gd := tb_in7 (i := 115) rfl rfl
theorem tb_1557 : (Jvm.Cond.instanceMethod ⟨"MedalBoardModel", "braveOf", "(I)I"⟩) ∈ lw_gd := tb_in7 (i := 117) rfl rfl
theorem tb_1558 : (Jvm.Cond.code ⟨"MedalBoardModel", "braveOf", "(I)I"⟩ prog_14_method_58_code 2 (Option.some Jvm.ClassFile.FieldType.int)) ∈ lw_gd := tb_in7 (i := 118) rfl rfl
theorem tb_1559 : (Jvm.Cond.methodLink "MedalBoardLaw" 79 ⟨"MedalBoardModel", "likes", "(II)I"⟩) ∈ lw_gd := tb_in7 (i := 119) rfl rfl
theorem tb_1560 : (Jvm.Cond.instanceMethod ⟨"MedalBoardModel", "likes", "(II)I"⟩) ∈ lw_gd := tb_in7 (i := 120) rfl rfl
theorem tb_1561 : (Jvm.Cond.selects "MedalBoardModel" ⟨"MedalBoardModel", "likes", "(II)I"⟩ ⟨"MedalBoardModel", "likes", "(II)I"⟩) ∈ lw_gd := tb_in7 (i := 121) rfl rfl
theorem tb_1562 : (Jvm.Cond.code ⟨"MedalBoardModel", "likes", "(II)I"⟩ prog_14_method_64_code 3 (Option.some Jvm.ClassFile.FieldType.int)) ∈ lw_gd := tb_in7 (i := 122) rfl rfl
theorem tb_1563 : (Jvm.Cond.methodLink "MedalBoardModel" 268 ⟨"MedalBoardModel", "likesOf", "(II)I"⟩) ∈ lw_gd := tb_in7 (i := 123) rfl rfl
theorem tb_1565 : (Jvm.Cond.instanceMethod ⟨"MedalBoardModel", "likesOf", "(II)I"⟩) ∈ lw_gd := tb_in7 (i := 125) rfl rfl
theorem tb_1566 : (Jvm.Cond.code ⟨"MedalBoardModel", "likesOf", "(II)I"⟩ prog_14_method_57_code 3 (Option.some Jvm.ClassFile.FieldType.int)) ∈ lw_gd := tb_in7 (i := 126) rfl rfl
theorem tb_1567 : (Jvm.Cond.methodLink "MedalBoardLaw" 83 ⟨"MedalBoardModel", "face", "(II)I"⟩) ∈ lw_gd := tb_in7 (i := 127) rfl rfl
theorem tb_1568 : (Jvm.Cond.instanceMethod ⟨"MedalBoardModel", "face", "(II)I"⟩) ∈ lw_gd := tb_in7 (i := 128) rfl rfl
theorem tb_1569 : (Jvm.Cond.selects "MedalBoardModel" ⟨"MedalBoardModel", "face", "(II)I"⟩ ⟨"MedalBoardModel", "face", "(II)I"⟩) ∈ lw_gd := tb_in7 (i := 129) rfl rfl
theorem tb_1570 : (Jvm.Cond.code ⟨"MedalBoardModel", "face", "(II)I"⟩ prog_14_method_71_code 3 (Option.some Jvm.ClassFile.FieldType.int)) ∈ lw_gd := tb_in7 (i := 130) rfl rfl
theorem tb_1571 : (Jvm.Cond.methodLink "MedalBoardModel" 292 ⟨"MedalBoardModel", "isSize", "(J)Z"⟩) ∈ lw_gd := tb_in7 (i := 131) rfl rfl
theorem tb_1572 : (Jvm.Cond.static ⟨"MedalBoardModel", "isSize", "(J)Z"⟩) ∈ lw_gd := tb_in7 (i := 132) rfl rfl
theorem tb_1573 : (Jvm.Cond.code ⟨"MedalBoardModel", "isSize", "(J)Z"⟩ prog_14_method_53_code 2 (Option.some Jvm.ClassFile.FieldType.boolean)) ∈ lw_gd := tb_in7 (i := 133) rfl rfl
theorem tb_1574 : (Jvm.Cond.constantLong "MedalBoardModel" 244 99) ∈ lw_gd := tb_in7 (i := 134) rfl rfl
theorem tb_1575 : (Jvm.Cond.methodLink "MedalBoardModel" 246 ⟨"MedalBoardModel", "isFrom", "(JJJ)Z"⟩) ∈ lw_gd := tb_in7 (i := 135) rfl rfl
theorem tb_1576 : (Jvm.Cond.static ⟨"MedalBoardModel", "isFrom", "(JJJ)Z"⟩) ∈ lw_gd := tb_in7 (i := 136) rfl rfl
theorem tb_1577 : (Jvm.Cond.code ⟨"MedalBoardModel", "isFrom", "(JJJ)Z"⟩ prog_14_method_18_code 6 (Option.some Jvm.ClassFile.FieldType.boolean)) ∈ lw_gd := tb_in7 (i := 137) rfl rfl
theorem tb_1578 : (Jvm.Cond.methodLink "MedalBoardModel" 296 ⟨"MedalBoardModel", "faces", "(II)I"⟩) ∈ lw_gd := tb_in7 (i := 138) rfl rfl
theorem tb_1580 : (Jvm.Cond.instanceMethod ⟨"MedalBoardModel", "faces", "(II)I"⟩) ∈ lw_gd := tb_in7 (i := 140) rfl rfl
theorem tb_1581 : (Jvm.Cond.code ⟨"MedalBoardModel", "faces", "(II)I"⟩ prog_14_method_70_code 3 (Option.some Jvm.ClassFile.FieldType.int)) ∈ lw_gd := tb_in7 (i := 141) rfl rfl
theorem tb_1582 : (Jvm.Cond.methodLink "MedalBoardModel" 271 ⟨"MedalBoardModel", "stands", "(II)Z"⟩) ∈ lw_gd := tb_in7 (i := 142) rfl rfl
theorem tb_1584 : (Jvm.Cond.instanceMethod ⟨"MedalBoardModel", "stands", "(II)Z"⟩) ∈ lw_gd := tb_in7 (i := 144) rfl rfl
theorem tb_1585 : (Jvm.Cond.code ⟨"MedalBoardModel", "stands", "(II)Z"⟩ prog_14_method_59_code 3 (Option.some Jvm.ClassFile.FieldType.boolean)) ∈ lw_gd := tb_in7 (i := 145) rfl rfl
theorem tb_1586 : (Jvm.Cond.methodLink "MedalBoardModel" 289 ⟨"MedalBoardModel", "pins", "(II)I"⟩) ∈ lw_gd := tb_in7 (i := 146) rfl rfl
theorem tb_1588 : (Jvm.Cond.instanceMethod ⟨"MedalBoardModel", "pins", "(II)I"⟩) ∈ lw_gd := tb_in7 (i := 148) rfl rfl
theorem tb_1589 : (Jvm.Cond.code ⟨"MedalBoardModel", "pins", "(II)I"⟩ prog_14_method_69_code 5 (Option.some Jvm.ClassFile.FieldType.int)) ∈ lw_gd := tb_in7 (i := 149) rfl rfl
theorem tb_1590 : (Jvm.Cond.methodLink "MedalBoardModel" 286 ⟨"MedalBoardModel", "winner", "(II)I"⟩) ∈ lw_gd := tb_in7 (i := 150) rfl rfl
theorem tb_1592 : (Jvm.Cond.instanceMethod ⟨"MedalBoardModel", "winner", "(II)I"⟩) ∈ lw_gd := tb_in7 (i := 152) rfl rfl
theorem tb_1593 : (Jvm.Cond.code ⟨"MedalBoardModel", "winner", "(II)I"⟩ prog_14_method_68_code 8 (Option.some Jvm.ClassFile.FieldType.int)) ∈ lw_gd := tb_in7 (i := 153) rfl rfl
theorem tb_1594 : (Jvm.Cond.methodLink "MedalBoardModel" 280 ⟨"MedalBoardModel", "candidatesOf", "(II)I"⟩) ∈ lw_gd := tb_in7 (i := 154) rfl rfl
theorem tb_1596 : (Jvm.Cond.instanceMethod ⟨"MedalBoardModel", "candidatesOf", "(II)I"⟩) ∈ lw_gd := tb_in7 (i := 156) rfl rfl
theorem tb_1597 : (Jvm.Cond.code ⟨"MedalBoardModel", "candidatesOf", "(II)I"⟩ prog_14_method_65_code 5 (Option.some Jvm.ClassFile.FieldType.int)) ∈ lw_gd := tb_in7 (i := 157) rfl rfl
theorem tb_1598 : (Jvm.Cond.methodLink "MedalBoardModel" 274 ⟨"MedalBoardModel", "isIn", "(II)Z"⟩) ∈ lw_gd := tb_in7 (i := 158) rfl rfl
theorem tb_1600 : (Jvm.Cond.instanceMethod ⟨"MedalBoardModel", "isIn", "(II)Z"⟩) ∈ lw_gd := tb_in7 (i := 160) rfl rfl
theorem tb_1601 : (Jvm.Cond.code ⟨"MedalBoardModel", "isIn", "(II)Z"⟩ prog_14_method_51_code 3 (Option.some Jvm.ClassFile.FieldType.boolean)) ∈ lw_gd := tb_in7 (i := 161) rfl rfl
theorem tb_1602 : (Jvm.Cond.methodLink "MedalBoardModel" 283 ⟨"MedalBoardModel", "votesFor", "(II)I"⟩) ∈ lw_gd := tb_in7 (i := 162) rfl rfl
theorem tb_1604 : (Jvm.Cond.instanceMethod ⟨"MedalBoardModel", "votesFor", "(II)I"⟩) ∈ lw_gd := tb_in7 (i := 164) rfl rfl
theorem tb_1605 : (Jvm.Cond.code ⟨"MedalBoardModel", "votesFor", "(II)I"⟩ prog_14_method_67_code 5 (Option.some Jvm.ClassFile.FieldType.int)) ∈ lw_gd := tb_in7 (i := 165) rfl rfl
theorem tb_1606 : (Jvm.Cond.methodLink "MedalBoardModel" 277 ⟨"MedalBoardModel", "voteBy", "(II)I"⟩) ∈ lw_gd := tb_in7 (i := 166) rfl rfl
theorem tb_1608 : (Jvm.Cond.instanceMethod ⟨"MedalBoardModel", "voteBy", "(II)I"⟩) ∈ lw_gd := tb_in7 (i := 168) rfl rfl
theorem tb_1609 : (Jvm.Cond.code ⟨"MedalBoardModel", "voteBy", "(II)I"⟩ prog_14_method_66_code 5 (Option.some Jvm.ClassFile.FieldType.int)) ∈ lw_gd := tb_in7 (i := 169) rfl rfl
theorem tb_1610 : (Jvm.Cond.methodLink "MedalBoardLaw" 87 ⟨"MedalBoardModel", "give", "(II)I"⟩) ∈ lw_gd := tb_in7 (i := 170) rfl rfl
theorem tb_1611 : (Jvm.Cond.instanceMethod ⟨"MedalBoardModel", "give", "(II)I"⟩) ∈ lw_gd := tb_in7 (i := 171) rfl rfl
theorem tb_1612 : (Jvm.Cond.selects "MedalBoardModel" ⟨"MedalBoardModel", "give", "(II)I"⟩ ⟨"MedalBoardModel", "give", "(II)I"⟩) ∈ lw_gd := tb_in7 (i := 172) rfl rfl
theorem tb_1613 : (Jvm.Cond.code ⟨"MedalBoardModel", "give", "(II)I"⟩ prog_14_method_73_code 3 (Option.some Jvm.ClassFile.FieldType.int)) ∈ lw_gd := tb_in7 (i := 173) rfl rfl
theorem tb_1614 : (Jvm.Cond.methodLink "MedalBoardModel" 299 ⟨"MedalBoardModel", "hands", "(II)Z"⟩) ∈ lw_gd := tb_in7 (i := 174) rfl rfl
theorem tb_1616 : (Jvm.Cond.instanceMethod ⟨"MedalBoardModel", "hands", "(II)Z"⟩) ∈ lw_gd := tb_in7 (i := 176) rfl rfl
theorem tb_1617 : (Jvm.Cond.code ⟨"MedalBoardModel", "hands", "(II)Z"⟩ prog_14_method_72_code 3 (Option.some Jvm.ClassFile.FieldType.boolean)) ∈ lw_gd := tb_in7 (i := 177) rfl rfl
theorem tb_1618 : (Jvm.Cond.methodLink "MedalBoardLaw" 91 ⟨"MedalBoardModel", "lose", "(I)I"⟩) ∈ lw_gd := tb_in7 (i := 178) rfl rfl
theorem tb_1619 : (Jvm.Cond.instanceMethod ⟨"MedalBoardModel", "lose", "(I)I"⟩) ∈ lw_gd := tb_in7 (i := 179) rfl rfl
theorem tb_1620 : (Jvm.Cond.selects "MedalBoardModel" ⟨"MedalBoardModel", "lose", "(I)I"⟩ ⟨"MedalBoardModel", "lose", "(I)I"⟩) ∈ lw_gd := tb_in7 (i := 180) rfl rfl
theorem tb_1621 : (Jvm.Cond.code ⟨"MedalBoardModel", "lose", "(I)I"⟩ prog_14_method_75_code 2 (Option.some Jvm.ClassFile.FieldType.int)) ∈ lw_gd := tb_in7 (i := 181) rfl rfl
theorem tb_1622 : (Jvm.Cond.methodLink "MedalBoardModel" 302 ⟨"MedalBoardModel", "loses", "(I)Z"⟩) ∈ lw_gd := tb_in7 (i := 182) rfl rfl
theorem tb_1624 : (Jvm.Cond.instanceMethod ⟨"MedalBoardModel", "loses", "(I)Z"⟩) ∈ lw_gd := tb_in7 (i := 184) rfl rfl
theorem tb_1625 : (Jvm.Cond.code ⟨"MedalBoardModel", "loses", "(I)Z"⟩ prog_14_method_74_code 2 (Option.some Jvm.ClassFile.FieldType.boolean)) ∈ lw_gd := tb_in7 (i := 185) rfl rfl
theorem tb_1626 : (Jvm.Cond.methodLink "MedalBoardLaw" 95 ⟨"MedalBoardModel", "fall", "(I)I"⟩) ∈ lw_gd := tb_in7 (i := 186) rfl rfl
theorem tb_1627 : (Jvm.Cond.instanceMethod ⟨"MedalBoardModel", "fall", "(I)I"⟩) ∈ lw_gd := tb_in7 (i := 187) rfl rfl
theorem tb_1628 : (Jvm.Cond.selects "MedalBoardModel" ⟨"MedalBoardModel", "fall", "(I)I"⟩ ⟨"MedalBoardModel", "fall", "(I)I"⟩) ∈ lw_gd := tb_in7 (i := 188) rfl rfl
theorem tb_1629 : (Jvm.Cond.code ⟨"MedalBoardModel", "fall", "(I)I"⟩ prog_14_method_77_code 2 (Option.some Jvm.ClassFile.FieldType.int)) ∈ lw_gd := tb_in7 (i := 189) rfl rfl
theorem tb_1630 : (Jvm.Cond.methodLink "MedalBoardModel" 305 ⟨"MedalBoardModel", "falls", "(I)Z"⟩) ∈ lw_gd := tb_in7 (i := 190) rfl rfl
theorem tb_1632 : (Jvm.Cond.instanceMethod ⟨"MedalBoardModel", "falls", "(I)Z"⟩) ∈ lw_gd := tb_in7 (i := 192) rfl rfl
theorem tb_1633 : (Jvm.Cond.code ⟨"MedalBoardModel", "falls", "(I)Z"⟩ prog_14_method_76_code 3 (Option.some Jvm.ClassFile.FieldType.boolean)) ∈ lw_gd := tb_in7 (i := 193) rfl rfl
theorem tb_1634 : (Jvm.Cond.methodLink "MedalBoardModel" 308 ⟨"MedalBoardModel", "bits", "(I)I"⟩) ∈ lw_gd := tb_in7 (i := 194) rfl rfl
theorem tb_1635 : (Jvm.Cond.static ⟨"MedalBoardModel", "bits", "(I)I"⟩) ∈ lw_gd := tb_in7 (i := 195) rfl rfl
theorem tb_1636 : (Jvm.Cond.code ⟨"MedalBoardModel", "bits", "(I)I"⟩ prog_14_method_52_code 3 (Option.some Jvm.ClassFile.FieldType.int)) ∈ lw_gd := tb_in7 (i := 196) rfl rfl
theorem tb_1637 : (Jvm.Cond.methodLink "MedalBoardLaw" 99 ⟨"MedalBoardModel", "enlist", "(II)I"⟩) ∈ lw_gd := tb_in7 (i := 197) rfl rfl
theorem tb_1638 : (Jvm.Cond.instanceMethod ⟨"MedalBoardModel", "enlist", "(II)I"⟩) ∈ lw_gd := tb_in7 (i := 198) rfl rfl
theorem tb_1639 : (Jvm.Cond.selects "MedalBoardModel" ⟨"MedalBoardModel", "enlist", "(II)I"⟩ ⟨"MedalBoardModel", "enlist", "(II)I"⟩) ∈ lw_gd := tb_in7 (i := 199) rfl rfl
theorem tb_1640 : (Jvm.Cond.code ⟨"MedalBoardModel", "enlist", "(II)I"⟩ prog_14_method_78_code 5 (Option.some Jvm.ClassFile.FieldType.int)) ∈ lw_gd := tb_in7 (i := 200) rfl rfl
theorem tb_1641 : (Jvm.Cond.constantLong "MedalBoardModel" 311 20) ∈ lw_gd := tb_in7 (i := 201) rfl rfl
theorem tb_1642 : (Jvm.Cond.constantLong "MedalBoardModel" 313 9) ∈ lw_gd := tb_in7 (i := 202) rfl rfl
theorem tb_1643 : (Jvm.Cond.methodLink "MedalBoardLaw" 104 ⟨"MedalBoardModel", "train", "(II)Z"⟩) ∈ lw_gd := tb_in7 (i := 203) rfl rfl
theorem tb_1644 : (Jvm.Cond.instanceMethod ⟨"MedalBoardModel", "train", "(II)Z"⟩) ∈ lw_gd := tb_in7 (i := 204) rfl rfl
theorem tb_1645 : (Jvm.Cond.selects "MedalBoardModel" ⟨"MedalBoardModel", "train", "(II)Z"⟩ ⟨"MedalBoardModel", "train", "(II)Z"⟩) ∈ lw_gd := tb_in7 (i := 205) rfl rfl
theorem tb_1646 : (Jvm.Cond.code ⟨"MedalBoardModel", "train", "(II)Z"⟩ prog_14_method_79_code 3 (Option.some Jvm.ClassFile.FieldType.boolean)) ∈ lw_gd := tb_in7 (i := 206) rfl rfl
theorem tb_1647 : (Jvm.Cond.methodLink "MedalBoardLaw" 108 ⟨"MedalBoardModel", "weigh", "(II)Z"⟩) ∈ lw_gd := tb_in7 (i := 207) rfl rfl
theorem tb_1648 : (Jvm.Cond.instanceMethod ⟨"MedalBoardModel", "weigh", "(II)Z"⟩) ∈ lw_gd := tb_in7 (i := 208) rfl rfl
theorem tb_1649 : (Jvm.Cond.selects "MedalBoardModel" ⟨"MedalBoardModel", "weigh", "(II)Z"⟩ ⟨"MedalBoardModel", "weigh", "(II)Z"⟩) ∈ lw_gd := tb_in7 (i := 209) rfl rfl
theorem tb_1650 : (Jvm.Cond.code ⟨"MedalBoardModel", "weigh", "(II)Z"⟩ prog_14_method_80_code 3 (Option.some Jvm.ClassFile.FieldType.boolean)) ∈ lw_gd := tb_in7 (i := 210) rfl rfl
theorem tb_1651 : (Jvm.Cond.methodLink "MedalBoardLaw" 112 ⟨"MedalBoardModel", "charm", "(III)Z"⟩) ∈ lw_gd := tb_in7 (i := 211) rfl rfl
theorem tb_1652 : (Jvm.Cond.instanceMethod ⟨"MedalBoardModel", "charm", "(III)Z"⟩) ∈ lw_gd := tb_in7 (i := 212) rfl rfl
theorem tb_1653 : (Jvm.Cond.selects "MedalBoardModel" ⟨"MedalBoardModel", "charm", "(III)Z"⟩ ⟨"MedalBoardModel", "charm", "(III)Z"⟩) ∈ lw_gd := tb_in7 (i := 213) rfl rfl
theorem tb_1654 : (Jvm.Cond.code ⟨"MedalBoardModel", "charm", "(III)Z"⟩ prog_14_method_81_code 4 (Option.some Jvm.ClassFile.FieldType.boolean)) ∈ lw_gd := tb_in7 (i := 214) rfl rfl
theorem tb_1655 : (Jvm.Cond.methodLink "MedalBoardLaw" 116 ⟨"MedalBoardModel", "rule", "(II)Z"⟩) ∈ lw_gd := tb_in7 (i := 215) rfl rfl
theorem tb_1656 : (Jvm.Cond.instanceMethod ⟨"MedalBoardModel", "rule", "(II)Z"⟩) ∈ lw_gd := tb_in7 (i := 216) rfl rfl
theorem tb_1657 : (Jvm.Cond.selects "MedalBoardModel" ⟨"MedalBoardModel", "rule", "(II)Z"⟩ ⟨"MedalBoardModel", "rule", "(II)Z"⟩) ∈ lw_gd := tb_in7 (i := 217) rfl rfl
theorem tb_1658 : (Jvm.Cond.code ⟨"MedalBoardModel", "rule", "(II)Z"⟩ prog_14_method_82_code 3 (Option.some Jvm.ClassFile.FieldType.boolean)) ∈ lw_gd := tb_in7 (i := 218) rfl rfl
theorem tb_1659 : (Jvm.Cond.methodLink "MedalBoardLaw" 120 ⟨"MedalBoardModel", "brave", "(I)I"⟩) ∈ lw_gd := tb_in7 (i := 219) rfl rfl
theorem tb_1660 : (Jvm.Cond.instanceMethod ⟨"MedalBoardModel", "brave", "(I)I"⟩) ∈ lw_gd := tb_in7 (i := 220) rfl rfl
theorem tb_1661 : (Jvm.Cond.selects "MedalBoardModel" ⟨"MedalBoardModel", "brave", "(I)I"⟩ ⟨"MedalBoardModel", "brave", "(I)I"⟩) ∈ lw_gd := tb_in7 (i := 221) rfl rfl
theorem tb_1662 : (Jvm.Cond.code ⟨"MedalBoardModel", "brave", "(I)I"⟩ prog_14_method_84_code 2 (Option.some Jvm.ClassFile.FieldType.int)) ∈ lw_gd := tb_in7 (i := 222) rfl rfl
theorem tb_1663 : (Jvm.Cond.methodLink "MedalBoardModel" 315 ⟨"MedalBoardModel", "standing", "(I)I"⟩) ∈ lw_gd := tb_in7 (i := 223) rfl rfl
theorem tb_1665 : (Jvm.Cond.instanceMethod ⟨"MedalBoardModel", "standing", "(I)I"⟩) ∈ lw_gd := tb_in7 (i := 225) rfl rfl
theorem tb_1666 : (Jvm.Cond.code ⟨"MedalBoardModel", "standing", "(I)I"⟩ prog_14_method_83_code 4 (Option.some Jvm.ClassFile.FieldType.int)) ∈ lw_gd := tb_in7 (i := 226) rfl rfl
theorem tb_1667 : (Jvm.Cond.methodLink "MedalBoardLaw" 124 ⟨"MedalBoardModel", "limit", "(I)I"⟩) ∈ lw_gd := tb_in7 (i := 227) rfl rfl
theorem tb_1668 : (Jvm.Cond.instanceMethod ⟨"MedalBoardModel", "limit", "(I)I"⟩) ∈ lw_gd := tb_in7 (i := 228) rfl rfl
theorem tb_1669 : (Jvm.Cond.selects "MedalBoardModel" ⟨"MedalBoardModel", "limit", "(I)I"⟩ ⟨"MedalBoardModel", "limit", "(I)I"⟩) ∈ lw_gd := tb_in7 (i := 229) rfl rfl
theorem tb_1670 : (Jvm.Cond.code ⟨"MedalBoardModel", "limit", "(I)I"⟩ prog_14_method_85_code 2 (Option.some Jvm.ClassFile.FieldType.int)) ∈ lw_gd := tb_in7 (i := 230) rfl rfl
theorem tb_1671 : (Jvm.Cond.methodLink "MedalBoardLaw" 128 ⟨"MedalBoardModel", "candidates", "(II)I"⟩) ∈ lw_gd := tb_in7 (i := 231) rfl rfl
theorem tb_1672 : (Jvm.Cond.instanceMethod ⟨"MedalBoardModel", "candidates", "(II)I"⟩) ∈ lw_gd := tb_in7 (i := 232) rfl rfl
theorem tb_1673 : (Jvm.Cond.selects "MedalBoardModel" ⟨"MedalBoardModel", "candidates", "(II)I"⟩ ⟨"MedalBoardModel", "candidates", "(II)I"⟩) ∈ lw_gd := tb_in7 (i := 233) rfl rfl
theorem tb_1674 : (Jvm.Cond.code ⟨"MedalBoardModel", "candidates", "(II)I"⟩ prog_14_method_86_code 3 (Option.some Jvm.ClassFile.FieldType.int)) ∈ lw_gd := tb_in7 (i := 234) rfl rfl
theorem tb_1675 : (Jvm.Cond.methodLink "MedalBoardLaw" 133 ⟨"MedalBoardModel", "voteOf", "(III)I"⟩) ∈ lw_gd := tb_in7 (i := 235) rfl rfl
theorem tb_1676 : (Jvm.Cond.instanceMethod ⟨"MedalBoardModel", "voteOf", "(III)I"⟩) ∈ lw_gd := tb_in7 (i := 236) rfl rfl
theorem tb_1677 : (Jvm.Cond.selects "MedalBoardModel" ⟨"MedalBoardModel", "voteOf", "(III)I"⟩ ⟨"MedalBoardModel", "voteOf", "(III)I"⟩) ∈ lw_gd := tb_in7 (i := 237) rfl rfl
theorem tb_1678 : (Jvm.Cond.code ⟨"MedalBoardModel", "voteOf", "(III)I"⟩ prog_14_method_87_code 4 (Option.some Jvm.ClassFile.FieldType.int)) ∈ lw_gd := tb_in7 (i := 238) rfl rfl
theorem tb_1679 : (Jvm.Cond.methodLink "MedalBoardModel" 318 ⟨"MedalBoardModel", "orNone", "(I)I"⟩) ∈ lw_gd := tb_in7 (i := 239) rfl rfl
theorem tb_1681 : (Jvm.Cond.instanceMethod ⟨"MedalBoardModel", "orNone", "(I)I"⟩) ∈ lw_gd := tb_in8 (i := 1) rfl rfl
theorem tb_1682 : (Jvm.Cond.code ⟨"MedalBoardModel", "orNone", "(I)I"⟩ prog_14_method_9_code 2 (Option.some Jvm.ClassFile.FieldType.int)) ∈ lw_gd := tb_in8 (i := 2) rfl rfl
theorem tb_1683 : (Jvm.Cond.methodLink "MedalBoardLaw" 137 ⟨"MedalBoardModel", "votes", "(III)I"⟩) ∈ lw_gd := tb_in8 (i := 3) rfl rfl
theorem tb_1684 : (Jvm.Cond.instanceMethod ⟨"MedalBoardModel", "votes", "(III)I"⟩) ∈ lw_gd := tb_in8 (i := 4) rfl rfl
theorem tb_1685 : (Jvm.Cond.selects "MedalBoardModel" ⟨"MedalBoardModel", "votes", "(III)I"⟩ ⟨"MedalBoardModel", "votes", "(III)I"⟩) ∈ lw_gd := tb_in8 (i := 5) rfl rfl
theorem tb_1686 : (Jvm.Cond.code ⟨"MedalBoardModel", "votes", "(III)I"⟩ prog_14_method_88_code 5 (Option.some Jvm.ClassFile.FieldType.int)) ∈ lw_gd := tb_in8 (i := 6) rfl rfl
theorem tb_1687 : (Jvm.Cond.methodLink "MedalBoardLaw" 141 ⟨"MedalBoardModel", "goesTo", "(II)I"⟩) ∈ lw_gd := tb_in8 (i := 7) rfl rfl
theorem tb_1688 : (Jvm.Cond.instanceMethod ⟨"MedalBoardModel", "goesTo", "(II)I"⟩) ∈ lw_gd := tb_in8 (i := 8) rfl rfl
theorem tb_1689 : (Jvm.Cond.selects "MedalBoardModel" ⟨"MedalBoardModel", "goesTo", "(II)I"⟩ ⟨"MedalBoardModel", "goesTo", "(II)I"⟩) ∈ lw_gd := tb_in8 (i := 9) rfl rfl
theorem tb_1690 : (Jvm.Cond.code ⟨"MedalBoardModel", "goesTo", "(II)I"⟩ prog_14_method_89_code 3 (Option.some Jvm.ClassFile.FieldType.int)) ∈ lw_gd := tb_in8 (i := 10) rfl rfl
theorem tb_1691 : (Jvm.Cond.methodLink "MedalBoardLaw" 145 ⟨"MedalBoardModel", "carries", "(I)I"⟩) ∈ lw_gd := tb_in8 (i := 11) rfl rfl
theorem tb_1692 : (Jvm.Cond.instanceMethod ⟨"MedalBoardModel", "carries", "(I)I"⟩) ∈ lw_gd := tb_in8 (i := 12) rfl rfl
theorem tb_1693 : (Jvm.Cond.selects "MedalBoardModel" ⟨"MedalBoardModel", "carries", "(I)I"⟩ ⟨"MedalBoardModel", "carries", "(I)I"⟩) ∈ lw_gd := tb_in8 (i := 13) rfl rfl
theorem tb_1694 : (Jvm.Cond.code ⟨"MedalBoardModel", "carries", "(I)I"⟩ prog_14_method_92_code 2 (Option.some Jvm.ClassFile.FieldType.int)) ∈ lw_gd := tb_in8 (i := 14) rfl rfl
theorem tb_1695 : (Jvm.Cond.methodLink "MedalBoardModel" 324 ⟨"MedalBoardModel", "doCarry", "(I)Z"⟩) ∈ lw_gd := tb_in8 (i := 15) rfl rfl
theorem tb_1697 : (Jvm.Cond.instanceMethod ⟨"MedalBoardModel", "doCarry", "(I)Z"⟩) ∈ lw_gd := tb_in8 (i := 17) rfl rfl
theorem tb_1698 : (Jvm.Cond.code ⟨"MedalBoardModel", "doCarry", "(I)Z"⟩ prog_14_method_91_code 2 (Option.some Jvm.ClassFile.FieldType.boolean)) ∈ lw_gd := tb_in8 (i := 18) rfl rfl
theorem tb_1699 : (Jvm.Cond.methodLink "MedalBoardModel" 321 ⟨"MedalBoardModel", "weightOf", "(I)I"⟩) ∈ lw_gd := tb_in8 (i := 19) rfl rfl
theorem tb_1701 : (Jvm.Cond.instanceMethod ⟨"MedalBoardModel", "weightOf", "(I)I"⟩) ∈ lw_gd := tb_in8 (i := 21) rfl rfl
theorem tb_1702 : (Jvm.Cond.code ⟨"MedalBoardModel", "weightOf", "(I)I"⟩ prog_14_method_90_code 4 (Option.some Jvm.ClassFile.FieldType.int)) ∈ lw_gd := tb_in8 (i := 22) rfl rfl
theorem tb_1703 : (Jvm.Cond.methodLink "MedalBoardLaw" 149 ⟨"MedalBoardModel", "fewest", "()I"⟩) ∈ lw_gd := tb_in8 (i := 23) rfl rfl
theorem tb_1704 : (Jvm.Cond.instanceMethod ⟨"MedalBoardModel", "fewest", "()I"⟩) ∈ lw_gd := tb_in8 (i := 24) rfl rfl
theorem tb_1705 : (Jvm.Cond.selects "MedalBoardModel" ⟨"MedalBoardModel", "fewest", "()I"⟩ ⟨"MedalBoardModel", "fewest", "()I"⟩) ∈ lw_gd := tb_in8 (i := 25) rfl rfl
theorem tb_1706 : (Jvm.Cond.code ⟨"MedalBoardModel", "fewest", "()I"⟩ prog_14_method_94_code 2 (Option.some Jvm.ClassFile.FieldType.int)) ∈ lw_gd := tb_in8 (i := 26) rfl rfl
theorem tb_1707 : (Jvm.Cond.methodLink "MedalBoardModel" 327 ⟨"MedalBoardModel", "fewestOf", "()I"⟩) ∈ lw_gd := tb_in8 (i := 27) rfl rfl
theorem tb_1709 : (Jvm.Cond.instanceMethod ⟨"MedalBoardModel", "fewestOf", "()I"⟩) ∈ lw_gd := tb_in8 (i := 29) rfl rfl
theorem tb_1710 : (Jvm.Cond.code ⟨"MedalBoardModel", "fewestOf", "()I"⟩ prog_14_method_93_code 3 (Option.some Jvm.ClassFile.FieldType.int)) ∈ lw_gd := tb_in8 (i := 30) rfl rfl
theorem tb_1711 : (Jvm.Cond.methodLink "MedalBoardLaw" 153 ⟨"MedalBoardModel", "fewestSet", "()I"⟩) ∈ lw_gd := tb_in8 (i := 31) rfl rfl
theorem tb_1712 : (Jvm.Cond.instanceMethod ⟨"MedalBoardModel", "fewestSet", "()I"⟩) ∈ lw_gd := tb_in8 (i := 32) rfl rfl
theorem tb_1713 : (Jvm.Cond.selects "MedalBoardModel" ⟨"MedalBoardModel", "fewestSet", "()I"⟩ ⟨"MedalBoardModel", "fewestSet", "()I"⟩) ∈ lw_gd := tb_in8 (i := 33) rfl rfl
theorem tb_1714 : (Jvm.Cond.code ⟨"MedalBoardModel", "fewestSet", "()I"⟩ prog_14_method_95_code 1 (Option.some Jvm.ClassFile.FieldType.int)) ∈ lw_gd := tb_in8 (i := 34) rfl rfl
theorem tb_1715 : (Jvm.Cond.methodLink "MedalBoardLaw" 158 ⟨"MedalBoardModel", "power", "(I)Z"⟩) ∈ lw_gd := tb_in8 (i := 35) rfl rfl
theorem tb_1716 : (Jvm.Cond.instanceMethod ⟨"MedalBoardModel", "power", "(I)Z"⟩) ∈ lw_gd := tb_in8 (i := 36) rfl rfl
theorem tb_1717 : (Jvm.Cond.selects "MedalBoardModel" ⟨"MedalBoardModel", "power", "(I)Z"⟩ ⟨"MedalBoardModel", "power", "(I)Z"⟩) ∈ lw_gd := tb_in8 (i := 37) rfl rfl
theorem tb_1718 : (Jvm.Cond.code ⟨"MedalBoardModel", "power", "(I)Z"⟩ prog_14_method_98_code 2 (Option.some Jvm.ClassFile.FieldType.boolean)) ∈ lw_gd := tb_in8 (i := 38) rfl rfl
theorem tb_1719 : (Jvm.Cond.methodLink "MedalBoardModel" 333 ⟨"MedalBoardModel", "powerOf", "(I)I"⟩) ∈ lw_gd := tb_in8 (i := 39) rfl rfl
theorem tb_1721 : (Jvm.Cond.instanceMethod ⟨"MedalBoardModel", "powerOf", "(I)I"⟩) ∈ lw_gd := tb_in8 (i := 41) rfl rfl
theorem tb_1722 : (Jvm.Cond.code ⟨"MedalBoardModel", "powerOf", "(I)I"⟩ prog_14_method_97_code 6 (Option.some Jvm.ClassFile.FieldType.int)) ∈ lw_gd := tb_in8 (i := 42) rfl rfl
theorem tb_1723 : (Jvm.Cond.methodLink "MedalBoardModel" 330 ⟨"MedalBoardModel", "ordersOf", "(I)I"⟩) ∈ lw_gd := tb_in8 (i := 43) rfl rfl
theorem tb_1724 : (Jvm.Cond.static ⟨"MedalBoardModel", "ordersOf", "(I)I"⟩) ∈ lw_gd := tb_in8 (i := 44) rfl rfl
theorem tb_1725 : (Jvm.Cond.code ⟨"MedalBoardModel", "ordersOf", "(I)I"⟩ prog_14_method_96_code 3 (Option.some Jvm.ClassFile.FieldType.int)) ∈ lw_gd := tb_in8 (i := 45) rfl rfl
theorem tb_1726 : (Jvm.Cond.methodLink "MedalBoardModel" 336 ⟨"MedalBoardModel", "tellsBy", "(JJ)Z"⟩) ∈ lw_gd := tb_in8 (i := 46) rfl rfl
theorem tb_1728 : (Jvm.Cond.instanceMethod ⟨"MedalBoardModel", "tellsBy", "(JJ)Z"⟩) ∈ lw_gd := tb_in8 (i := 48) rfl rfl
theorem tb_1729 : (Jvm.Cond.code ⟨"MedalBoardModel", "tellsBy", "(JJ)Z"⟩ prog_14_method_10_code 11 (Option.some Jvm.ClassFile.FieldType.boolean)) ∈ lw_gd := tb_in8 (i := 49) rfl rfl
theorem tb_1730 : (Jvm.Cond.methodLink "MedalBoardLaw" 162 ⟨"MedalBoardModel", "mightiest", "()I"⟩) ∈ lw_gd := tb_in8 (i := 50) rfl rfl
theorem tb_1731 : (Jvm.Cond.instanceMethod ⟨"MedalBoardModel", "mightiest", "()I"⟩) ∈ lw_gd := tb_in8 (i := 51) rfl rfl
theorem tb_1732 : (Jvm.Cond.selects "MedalBoardModel" ⟨"MedalBoardModel", "mightiest", "()I"⟩ ⟨"MedalBoardModel", "mightiest", "()I"⟩) ∈ lw_gd := tb_in8 (i := 52) rfl rfl
theorem tb_1733 : (Jvm.Cond.code ⟨"MedalBoardModel", "mightiest", "()I"⟩ prog_14_method_99_code 3 (Option.some Jvm.ClassFile.FieldType.int)) ∈ lw_gd := tb_in8 (i := 53) rfl rfl
theorem tb_1734 : (Jvm.Cond.methodLink "MedalBoardLaw" 166 ⟨"MedalBoardModel", "veto", "(I)I"⟩) ∈ lw_gd := tb_in8 (i := 54) rfl rfl
theorem tb_1735 : (Jvm.Cond.instanceMethod ⟨"MedalBoardModel", "veto", "(I)I"⟩) ∈ lw_gd := tb_in8 (i := 55) rfl rfl
theorem tb_1736 : (Jvm.Cond.selects "MedalBoardModel" ⟨"MedalBoardModel", "veto", "(I)I"⟩ ⟨"MedalBoardModel", "veto", "(I)I"⟩) ∈ lw_gd := tb_in8 (i := 56) rfl rfl
theorem tb_1737 : (Jvm.Cond.code ⟨"MedalBoardModel", "veto", "(I)I"⟩ prog_14_method_100_code 2 (Option.some Jvm.ClassFile.FieldType.int)) ∈ lw_gd := tb_in8 (i := 57) rfl rfl
theorem tb_1738 : (Jvm.Cond.methodLink "MedalBoardLaw" 170 ⟨"MedalBoardModel", "most", "(III)I"⟩) ∈ lw_gd := tb_in8 (i := 58) rfl rfl
theorem tb_1739 : (Jvm.Cond.instanceMethod ⟨"MedalBoardModel", "most", "(III)I"⟩) ∈ lw_gd := tb_in8 (i := 59) rfl rfl
theorem tb_1740 : (Jvm.Cond.selects "MedalBoardModel" ⟨"MedalBoardModel", "most", "(III)I"⟩ ⟨"MedalBoardModel", "most", "(III)I"⟩) ∈ lw_gd := tb_in8 (i := 60) rfl rfl
theorem tb_1741 : (Jvm.Cond.code ⟨"MedalBoardModel", "most", "(III)I"⟩ prog_14_method_107_code 5 (Option.some Jvm.ClassFile.FieldType.int)) ∈ lw_gd := tb_in8 (i := 61) rfl rfl
theorem tb_1742 : (Jvm.Cond.methodLink "MedalBoardModel" 359 ⟨"MedalBoardModel", "wrongSizes", "(III)I"⟩) ∈ lw_gd := tb_in8 (i := 62) rfl rfl
theorem tb_1744 : (Jvm.Cond.instanceMethod ⟨"MedalBoardModel", "wrongSizes", "(III)I"⟩) ∈ lw_gd := tb_in8 (i := 64) rfl rfl
theorem tb_1745 : (Jvm.Cond.code ⟨"MedalBoardModel", "wrongSizes", "(III)I"⟩ prog_14_method_103_code 5 (Option.some Jvm.ClassFile.FieldType.int)) ∈ lw_gd := tb_in8 (i := 65) rfl rfl
theorem tb_1746 : (Jvm.Cond.constantLong "MedalBoardModel" 340 4) ∈ lw_gd := tb_in8 (i := 66) rfl rfl
theorem tb_1747 : (Jvm.Cond.methodLink "MedalBoardModel" 363 ⟨"MedalBoardModel", "ordering", "(III)I"⟩) ∈ lw_gd := tb_in8 (i := 67) rfl rfl
theorem tb_1749 : (Jvm.Cond.instanceMethod ⟨"MedalBoardModel", "ordering", "(III)I"⟩) ∈ lw_gd := tb_in8 (i := 69) rfl rfl
theorem tb_1750 : (Jvm.Cond.code ⟨"MedalBoardModel", "ordering", "(III)I"⟩ prog_14_method_106_code 7 (Option.some Jvm.ClassFile.FieldType.int)) ∈ lw_gd := tb_in8 (i := 70) rfl rfl
theorem tb_1751 : (Jvm.Cond.constant "MedalBoardModel" 345 (-1000000)) ∈ lw_gd := tb_in8 (i := 71) rfl rfl
theorem tb_1752 : (Jvm.Cond.methodLink "MedalBoardModel" 352 ⟨"MedalBoardModel", "gotBy", "(IIII)I"⟩) ∈ lw_gd := tb_in8 (i := 72) rfl rfl
theorem tb_1754 : (Jvm.Cond.instanceMethod ⟨"MedalBoardModel", "gotBy", "(IIII)I"⟩) ∈ lw_gd := tb_in8 (i := 74) rfl rfl
theorem tb_1755 : (Jvm.Cond.code ⟨"MedalBoardModel", "gotBy", "(IIII)I"⟩ prog_14_method_105_code 9 (Option.some Jvm.ClassFile.FieldType.int)) ∈ lw_gd := tb_in8 (i := 75) rfl rfl
theorem tb_1756 : (Jvm.Cond.methodLink "MedalBoardModel" 342 ⟨"MedalBoardModel", "keeps", "(I)V"⟩) ∈ lw_gd := tb_in8 (i := 76) rfl rfl
theorem tb_1758 : (Jvm.Cond.instanceMethod ⟨"MedalBoardModel", "keeps", "(I)V"⟩) ∈ lw_gd := tb_in8 (i := 78) rfl rfl
theorem tb_1759 : (Jvm.Cond.code ⟨"MedalBoardModel", "keeps", "(I)V"⟩ prog_14_method_101_code 3 (Option.none : Option Jvm.ClassFile.FieldType)) ∈ lw_gd := tb_in8 (i := 79) rfl rfl
theorem tb_1760 : (Jvm.Cond.methodLink "MedalBoardModel" 346 ⟨"MedalBoardModel", "sizeAt", "(II)I"⟩) ∈ lw_gd := tb_in8 (i := 80) rfl rfl
theorem tb_1762 : (Jvm.Cond.instanceMethod ⟨"MedalBoardModel", "sizeAt", "(II)I"⟩) ∈ lw_gd := tb_in8 (i := 82) rfl rfl
theorem tb_1763 : (Jvm.Cond.code ⟨"MedalBoardModel", "sizeAt", "(II)I"⟩ prog_14_method_104_code 3 (Option.some Jvm.ClassFile.FieldType.int)) ∈ lw_gd := tb_in8 (i := 83) rfl rfl
theorem tb_1764 : (Jvm.Cond.methodLink "MedalBoardModel" 349 ⟨"MedalBoardModel", "restores", "(I)V"⟩) ∈ lw_gd := tb_in8 (i := 84) rfl rfl
theorem tb_1766 : (Jvm.Cond.instanceMethod ⟨"MedalBoardModel", "restores", "(I)V"⟩) ∈ lw_gd := tb_in8 (i := 86) rfl rfl
theorem tb_1767 : (Jvm.Cond.code ⟨"MedalBoardModel", "restores", "(I)V"⟩ prog_14_method_102_code 3 (Option.none : Option Jvm.ClassFile.FieldType)) ∈ lw_gd := tb_in8 (i := 87) rfl rfl
theorem tb_1768 : (Jvm.Cond.methodLink "MedalBoardLaw" 175 ⟨"MedalBoardModel", "facesAt", "(IIII)I"⟩) ∈ lw_gd := tb_in8 (i := 88) rfl rfl
theorem tb_1769 : (Jvm.Cond.instanceMethod ⟨"MedalBoardModel", "facesAt", "(IIII)I"⟩) ∈ lw_gd := tb_in8 (i := 89) rfl rfl
theorem tb_1770 : (Jvm.Cond.selects "MedalBoardModel" ⟨"MedalBoardModel", "facesAt", "(IIII)I"⟩ ⟨"MedalBoardModel", "facesAt", "(IIII)I"⟩) ∈ lw_gd := tb_in8 (i := 90) rfl rfl
theorem tb_1771 : (Jvm.Cond.code ⟨"MedalBoardModel", "facesAt", "(IIII)I"⟩ prog_14_method_108_code 6 (Option.some Jvm.ClassFile.FieldType.int)) ∈ lw_gd := tb_in8 (i := 91) rfl rfl
theorem tb_1772 : (Jvm.Cond.methodLink "MedalBoardLaw" 179 ⟨"MedalBoardModel", "seen", "(III)I"⟩) ∈ lw_gd := tb_in8 (i := 92) rfl rfl
theorem tb_1773 : (Jvm.Cond.instanceMethod ⟨"MedalBoardModel", "seen", "(III)I"⟩) ∈ lw_gd := tb_in8 (i := 93) rfl rfl
theorem tb_1774 : (Jvm.Cond.selects "MedalBoardModel" ⟨"MedalBoardModel", "seen", "(III)I"⟩ ⟨"MedalBoardModel", "seen", "(III)I"⟩) ∈ lw_gd := tb_in8 (i := 94) rfl rfl
theorem tb_1775 : (Jvm.Cond.code ⟨"MedalBoardModel", "seen", "(III)I"⟩ prog_14_method_113_code 5 (Option.some Jvm.ClassFile.FieldType.int)) ∈ lw_gd := tb_in8 (i := 95) rfl rfl
theorem tb_1776 : (Jvm.Cond.methodLink "MedalBoardModel" 373 ⟨"MedalBoardModel", "wrongSeen", "(III)I"⟩) ∈ lw_gd := tb_in8 (i := 96) rfl rfl
theorem tb_1778 : (Jvm.Cond.instanceMethod ⟨"MedalBoardModel", "wrongSeen", "(III)I"⟩) ∈ lw_gd := tb_in8 (i := 98) rfl rfl
theorem tb_1779 : (Jvm.Cond.code ⟨"MedalBoardModel", "wrongSeen", "(III)I"⟩ prog_14_method_109_code 6 (Option.some Jvm.ClassFile.FieldType.int)) ∈ lw_gd := tb_in8 (i := 99) rfl rfl
theorem tb_1780 : (Jvm.Cond.methodLink "MedalBoardModel" 376 ⟨"MedalBoardModel", "fitting", "(IIII)I"⟩) ∈ lw_gd := tb_in8 (i := 100) rfl rfl
theorem tb_1782 : (Jvm.Cond.instanceMethod ⟨"MedalBoardModel", "fitting", "(IIII)I"⟩) ∈ lw_gd := tb_in8 (i := 102) rfl rfl
theorem tb_1783 : (Jvm.Cond.code ⟨"MedalBoardModel", "fitting", "(IIII)I"⟩ prog_14_method_112_code 7 (Option.some Jvm.ClassFile.FieldType.int)) ∈ lw_gd := tb_in8 (i := 103) rfl rfl
theorem tb_1784 : (Jvm.Cond.methodLink "MedalBoardModel" 369 ⟨"MedalBoardModel", "fits", "(IIII)Z"⟩) ∈ lw_gd := tb_in8 (i := 104) rfl rfl
theorem tb_1786 : (Jvm.Cond.instanceMethod ⟨"MedalBoardModel", "fits", "(IIII)Z"⟩) ∈ lw_gd := tb_in8 (i := 106) rfl rfl
theorem tb_1787 : (Jvm.Cond.code ⟨"MedalBoardModel", "fits", "(IIII)Z"⟩ prog_14_method_111_code 7 (Option.some Jvm.ClassFile.FieldType.boolean)) ∈ lw_gd := tb_in8 (i := 107) rfl rfl
theorem tb_1788 : (Jvm.Cond.methodLink "MedalBoardModel" 366 ⟨"MedalBoardModel", "wouldStand", "(III)Z"⟩) ∈ lw_gd := tb_in8 (i := 108) rfl rfl
theorem tb_1790 : (Jvm.Cond.instanceMethod ⟨"MedalBoardModel", "wouldStand", "(III)Z"⟩) ∈ lw_gd := tb_in8 (i := 110) rfl rfl
theorem tb_1791 : (Jvm.Cond.code ⟨"MedalBoardModel", "wouldStand", "(III)Z"⟩ prog_14_method_110_code 4 (Option.some Jvm.ClassFile.FieldType.boolean)) ∈ lw_gd := tb_in8 (i := 111) rfl rfl
theorem tb_1792 : (Jvm.Cond.methodLink "MedalBoardLaw" 183 ⟨"MedalBoardModel", "seenAt", "(IIII)I"⟩) ∈ lw_gd := tb_in8 (i := 112) rfl rfl
theorem tb_1793 : (Jvm.Cond.instanceMethod ⟨"MedalBoardModel", "seenAt", "(IIII)I"⟩) ∈ lw_gd := tb_in8 (i := 113) rfl rfl
theorem tb_1794 : (Jvm.Cond.selects "MedalBoardModel" ⟨"MedalBoardModel", "seenAt", "(IIII)I"⟩ ⟨"MedalBoardModel", "seenAt", "(IIII)I"⟩) ∈ lw_gd := tb_in8 (i := 114) rfl rfl
theorem tb_1795 : (Jvm.Cond.code ⟨"MedalBoardModel", "seenAt", "(IIII)I"⟩ prog_14_method_114_code 8 (Option.some Jvm.ClassFile.FieldType.int)) ∈ lw_gd := tb_in8 (i := 115) rfl rfl
theorem tb_1796 : (Jvm.Cond.methodLink "MedalBoardLaw" 187 ⟨"MedalBoardModel", "ask", "(III)I"⟩) ∈ lw_gd := tb_in8 (i := 116) rfl rfl
theorem tb_1797 : (Jvm.Cond.instanceMethod ⟨"MedalBoardModel", "ask", "(III)I"⟩) ∈ lw_gd := tb_in8 (i := 117) rfl rfl
theorem tb_1798 : (Jvm.Cond.selects "MedalBoardModel" ⟨"MedalBoardModel", "ask", "(III)I"⟩ ⟨"MedalBoardModel", "ask", "(III)I"⟩) ∈ lw_gd := tb_in8 (i := 118) rfl rfl
theorem tb_1799 : (Jvm.Cond.code ⟨"MedalBoardModel", "ask", "(III)I"⟩ prog_14_method_115_code 11 (Option.some Jvm.ClassFile.FieldType.int)) ∈ lw_gd := tb_in8 (i := 119) rfl rfl
theorem tb_1800 : (Jvm.Cond.constant "MedalBoardModel" 379 1000000) ∈ lw_gd := tb_in8 (i := 120) rfl rfl
theorem tb_1801 : (Jvm.Cond.methodLink "MedalBoardModel" 380 ⟨"java/lang/Math", "max", "(II)I"⟩) ∈ lw_gd := tb_in8 (i := 121) rfl rfl
theorem tb_1802 : (Jvm.Cond.methodLink "MedalBoardLaw" 191 ⟨"MedalBoardModel", "couples", "(I)I"⟩) ∈ lw_gd := tb_in8 (i := 122) rfl rfl
theorem tb_1803 : (Jvm.Cond.instanceMethod ⟨"MedalBoardModel", "couples", "(I)I"⟩) ∈ lw_gd := tb_in8 (i := 123) rfl rfl
theorem tb_1804 : (Jvm.Cond.selects "MedalBoardModel" ⟨"MedalBoardModel", "couples", "(I)I"⟩ ⟨"MedalBoardModel", "couples", "(I)I"⟩) ∈ lw_gd := tb_in8 (i := 124) rfl rfl
theorem tb_1805 : (Jvm.Cond.code ⟨"MedalBoardModel", "couples", "(I)I"⟩ prog_14_method_120_code 2 (Option.some Jvm.ClassFile.FieldType.int)) ∈ lw_gd := tb_in8 (i := 125) rfl rfl
theorem tb_1806 : (Jvm.Cond.methodLink "MedalBoardModel" 401 ⟨"MedalBoardModel", "pairing", "(I)V"⟩) ∈ lw_gd := tb_in8 (i := 126) rfl rfl
theorem tb_1808 : (Jvm.Cond.instanceMethod ⟨"MedalBoardModel", "pairing", "(I)V"⟩) ∈ lw_gd := tb_in8 (i := 128) rfl rfl
theorem tb_1809 : (Jvm.Cond.code ⟨"MedalBoardModel", "pairing", "(I)V"⟩ prog_14_method_119_code 5 (Option.none : Option Jvm.ClassFile.FieldType)) ∈ lw_gd := tb_in8 (i := 129) rfl rfl
theorem tb_1810 : (Jvm.Cond.methodLink "MedalBoardModel" 395 ⟨"MedalBoardModel", "weighs", "()V"⟩) ∈ lw_gd := tb_in8 (i := 130) rfl rfl
theorem tb_1812 : (Jvm.Cond.instanceMethod ⟨"MedalBoardModel", "weighs", "()V"⟩) ∈ lw_gd := tb_in8 (i := 132) rfl rfl
theorem tb_1813 : (Jvm.Cond.code ⟨"MedalBoardModel", "weighs", "()V"⟩ prog_14_method_117_code 4 (Option.none : Option Jvm.ClassFile.FieldType)) ∈ lw_gd := tb_in8 (i := 133) rfl rfl
theorem tb_1814 : (Jvm.Cond.methodLink "MedalBoardModel" 386 ⟨"MedalBoardModel", "fondOf", "(II)I"⟩) ∈ lw_gd := tb_in8 (i := 134) rfl rfl
theorem tb_1816 : (Jvm.Cond.instanceMethod ⟨"MedalBoardModel", "fondOf", "(II)I"⟩) ∈ lw_gd := tb_in8 (i := 136) rfl rfl
theorem tb_1817 : (Jvm.Cond.code ⟨"MedalBoardModel", "fondOf", "(II)I"⟩ prog_14_method_116_code 3 (Option.some Jvm.ClassFile.FieldType.int)) ∈ lw_gd := tb_in8 (i := 137) rfl rfl
theorem tb_1818 : (Jvm.Cond.methodLink "MedalBoardModel" 398 ⟨"MedalBoardModel", "isFree", "(III)Z"⟩) ∈ lw_gd := tb_in8 (i := 138) rfl rfl
theorem tb_1820 : (Jvm.Cond.instanceMethod ⟨"MedalBoardModel", "isFree", "(III)Z"⟩) ∈ lw_gd := tb_in8 (i := 140) rfl rfl
theorem tb_1821 : (Jvm.Cond.code ⟨"MedalBoardModel", "isFree", "(III)Z"⟩ prog_14_method_118_code 5 (Option.some Jvm.ClassFile.FieldType.boolean)) ∈ lw_gd := tb_in8 (i := 141) rfl rfl
theorem tb_1822 : (Jvm.Cond.methodLink "MedalBoardLaw" 195 ⟨"MedalBoardModel", "fondness", "(I)I"⟩) ∈ lw_gd := tb_in8 (i := 142) rfl rfl
theorem tb_1823 : (Jvm.Cond.instanceMethod ⟨"MedalBoardModel", "fondness", "(I)I"⟩) ∈ lw_gd := tb_in8 (i := 143) rfl rfl
theorem tb_1824 : (Jvm.Cond.selects "MedalBoardModel" ⟨"MedalBoardModel", "fondness", "(I)I"⟩ ⟨"MedalBoardModel", "fondness", "(I)I"⟩) ∈ lw_gd := tb_in8 (i := 144) rfl rfl
theorem tb_1825 : (Jvm.Cond.code ⟨"MedalBoardModel", "fondness", "(I)I"⟩ prog_14_method_121_code 2 (Option.some Jvm.ClassFile.FieldType.int)) ∈ lw_gd := tb_in8 (i := 145) rfl rfl
theorem tb_1826 : (Jvm.Cond.methodLink "MedalBoardLaw" 199 ⟨"MedalBoardModel", "partner", "(II)I"⟩) ∈ lw_gd := tb_in8 (i := 146) rfl rfl
theorem tb_1827 : (Jvm.Cond.instanceMethod ⟨"MedalBoardModel", "partner", "(II)I"⟩) ∈ lw_gd := tb_in8 (i := 147) rfl rfl
theorem tb_1828 : (Jvm.Cond.selects "MedalBoardModel" ⟨"MedalBoardModel", "partner", "(II)I"⟩ ⟨"MedalBoardModel", "partner", "(II)I"⟩) ∈ lw_gd := tb_in8 (i := 148) rfl rfl
theorem tb_1829 : (Jvm.Cond.code ⟨"MedalBoardModel", "partner", "(II)I"⟩ prog_14_method_122_code 4 (Option.some Jvm.ClassFile.FieldType.int)) ∈ lw_gd := tb_in8 (i := 149) rfl rfl
theorem tb_1830 : (Jvm.Cond.methodLink "MedalBoardLaw" 203 ⟨"MedalBoardModel", "game", "(IIII)I"⟩) ∈ lw_gd := tb_in8 (i := 150) rfl rfl
theorem tb_1831 : (Jvm.Cond.instanceMethod ⟨"MedalBoardModel", "game", "(IIII)I"⟩) ∈ lw_gd := tb_in8 (i := 151) rfl rfl
theorem tb_1832 : (Jvm.Cond.selects "MedalBoardModel" ⟨"MedalBoardModel", "game", "(IIII)I"⟩ ⟨"MedalBoardModel", "game", "(IIII)I"⟩) ∈ lw_gd := tb_in8 (i := 152) rfl rfl
theorem tb_1833 : (Jvm.Cond.code ⟨"MedalBoardModel", "game", "(IIII)I"⟩ prog_14_method_125_code 6 (Option.some Jvm.ClassFile.FieldType.int)) ∈ lw_gd := tb_in8 (i := 153) rfl rfl
theorem tb_1834 : (Jvm.Cond.methodLink "MedalBoardModel" 412 ⟨"MedalBoardModel", "areTwo", "(II)Z"⟩) ∈ lw_gd := tb_in8 (i := 154) rfl rfl
theorem tb_1836 : (Jvm.Cond.instanceMethod ⟨"MedalBoardModel", "areTwo", "(II)Z"⟩) ∈ lw_gd := tb_in8 (i := 156) rfl rfl
theorem tb_1837 : (Jvm.Cond.code ⟨"MedalBoardModel", "areTwo", "(II)Z"⟩ prog_14_method_50_code 3 (Option.some Jvm.ClassFile.FieldType.boolean)) ∈ lw_gd := tb_in8 (i := 157) rfl rfl
theorem tb_1838 : (Jvm.Cond.methodLink "MedalBoardModel" 415 ⟨"MedalBoardModel", "playing", "(IIII)I"⟩) ∈ lw_gd := tb_in8 (i := 158) rfl rfl
theorem tb_1840 : (Jvm.Cond.instanceMethod ⟨"MedalBoardModel", "playing", "(IIII)I"⟩) ∈ lw_gd := tb_in8 (i := 160) rfl rfl
theorem tb_1841 : (Jvm.Cond.code ⟨"MedalBoardModel", "playing", "(IIII)I"⟩ prog_14_method_124_code 10 (Option.some Jvm.ClassFile.FieldType.int)) ∈ lw_gd := tb_in8 (i := 161) rfl rfl
theorem tb_1842 : (Jvm.Cond.methodLink "MedalBoardModel" 404 ⟨"MedalBoardModel", "playedBy", "(IIIII)I"⟩) ∈ lw_gd := tb_in8 (i := 162) rfl rfl
theorem tb_1844 : (Jvm.Cond.instanceMethod ⟨"MedalBoardModel", "playedBy", "(IIIII)I"⟩) ∈ lw_gd := tb_in8 (i := 164) rfl rfl
theorem tb_1845 : (Jvm.Cond.code ⟨"MedalBoardModel", "playedBy", "(IIIII)I"⟩ prog_14_method_123_code 9 (Option.some Jvm.ClassFile.FieldType.int)) ∈ lw_gd := tb_in8 (i := 165) rfl rfl
theorem tb_1846 : (Jvm.Cond.methodLink "MedalBoardLaw" 207 ⟨"MedalBoardModel", "moveOf", "(IIII)I"⟩) ∈ lw_gd := tb_in8 (i := 166) rfl rfl
theorem tb_1847 : (Jvm.Cond.instanceMethod ⟨"MedalBoardModel", "moveOf", "(IIII)I"⟩) ∈ lw_gd := tb_in8 (i := 167) rfl rfl
theorem tb_1848 : (Jvm.Cond.selects "MedalBoardModel" ⟨"MedalBoardModel", "moveOf", "(IIII)I"⟩ ⟨"MedalBoardModel", "moveOf", "(IIII)I"⟩) ∈ lw_gd := tb_in8 (i := 168) rfl rfl
theorem tb_1849 : (Jvm.Cond.code ⟨"MedalBoardModel", "moveOf", "(IIII)I"⟩ prog_14_method_126_code 6 (Option.some Jvm.ClassFile.FieldType.int)) ∈ lw_gd := tb_in8 (i := 169) rfl rfl
theorem tb_1850 : (Jvm.Cond.methodLink "MedalBoardLaw" 211 ⟨"MedalBoardModel", "chance", "(III)Z"⟩) ∈ lw_gd := tb_in8 (i := 170) rfl rfl
theorem tb_1851 : (Jvm.Cond.instanceMethod ⟨"MedalBoardModel", "chance", "(III)Z"⟩) ∈ lw_gd := tb_in8 (i := 171) rfl rfl
theorem tb_1852 : (Jvm.Cond.selects "MedalBoardModel" ⟨"MedalBoardModel", "chance", "(III)Z"⟩ ⟨"MedalBoardModel", "chance", "(III)Z"⟩) ∈ lw_gd := tb_in8 (i := 172) rfl rfl
theorem tb_1853 : (Jvm.Cond.code ⟨"MedalBoardModel", "chance", "(III)Z"⟩ prog_14_method_127_code 10 (Option.some Jvm.ClassFile.FieldType.boolean)) ∈ lw_gd := tb_in8 (i := 173) rfl rfl
theorem tb_1854 : (Jvm.Cond.methodLink "MedalBoardLaw" 215 ⟨"MedalBoardModel", "luck", "(II)Z"⟩) ∈ lw_gd := tb_in8 (i := 174) rfl rfl
theorem tb_1855 : (Jvm.Cond.instanceMethod ⟨"MedalBoardModel", "luck", "(II)Z"⟩) ∈ lw_gd := tb_in8 (i := 175) rfl rfl
theorem tb_1856 : (Jvm.Cond.selects "MedalBoardModel" ⟨"MedalBoardModel", "luck", "(II)Z"⟩ ⟨"MedalBoardModel", "luck", "(II)Z"⟩) ∈ lw_gd := tb_in8 (i := 176) rfl rfl
theorem tb_1857 : (Jvm.Cond.code ⟨"MedalBoardModel", "luck", "(II)Z"⟩ prog_14_method_128_code 5 (Option.some Jvm.ClassFile.FieldType.boolean)) ∈ lw_gd := tb_in8 (i := 177) rfl rfl
theorem tb_1858 : (Jvm.Cond.methodLink "MedalBoardLaw" 219 ⟨"MedalBoardModel", "hopeful", "()I"⟩) ∈ lw_gd := tb_in8 (i := 178) rfl rfl
theorem tb_1859 : (Jvm.Cond.instanceMethod ⟨"MedalBoardModel", "hopeful", "()I"⟩) ∈ lw_gd := tb_in8 (i := 179) rfl rfl
theorem tb_1860 : (Jvm.Cond.selects "MedalBoardModel" ⟨"MedalBoardModel", "hopeful", "()I"⟩ ⟨"MedalBoardModel", "hopeful", "()I"⟩) ∈ lw_gd := tb_in8 (i := 180) rfl rfl
theorem tb_1861 : (Jvm.Cond.code ⟨"MedalBoardModel", "hopeful", "()I"⟩ prog_14_method_129_code 5 (Option.some Jvm.ClassFile.FieldType.int)) ∈ lw_gd := tb_in8 (i := 181) rfl rfl
theorem tb_1862 : (Jvm.Cond.methodLink "MedalBoardLaw" 223 ⟨"MedalBoardModel", "copyMedals", "(I)I"⟩) ∈ lw_gd := tb_in8 (i := 182) rfl rfl
theorem tb_1863 : (Jvm.Cond.instanceMethod ⟨"MedalBoardModel", "copyMedals", "(I)I"⟩) ∈ lw_gd := tb_in8 (i := 183) rfl rfl
theorem tb_1864 : (Jvm.Cond.selects "MedalBoardModel" ⟨"MedalBoardModel", "copyMedals", "(I)I"⟩ ⟨"MedalBoardModel", "copyMedals", "(I)I"⟩) ∈ lw_gd := tb_in8 (i := 184) rfl rfl
theorem tb_1865 : (Jvm.Cond.code ⟨"MedalBoardModel", "copyMedals", "(I)I"⟩ prog_14_method_130_code 3 (Option.some Jvm.ClassFile.FieldType.int)) ∈ lw_gd := tb_in8 (i := 185) rfl rfl
theorem tb_1866 : (Jvm.Cond.methodLink "MedalBoardLaw" 227 ⟨"MedalBoardModel", "live", "(I)I"⟩) ∈ lw_gd := tb_in8 (i := 186) rfl rfl
theorem tb_1867 : (Jvm.Cond.instanceMethod ⟨"MedalBoardModel", "live", "(I)I"⟩) ∈ lw_gd := tb_in8 (i := 187) rfl rfl
theorem tb_1868 : (Jvm.Cond.selects "MedalBoardModel" ⟨"MedalBoardModel", "live", "(I)I"⟩ ⟨"MedalBoardModel", "live", "(I)I"⟩) ∈ lw_gd := tb_in8 (i := 188) rfl rfl
theorem tb_1869 : (Jvm.Cond.code ⟨"MedalBoardModel", "live", "(I)I"⟩ prog_14_method_138_code 3 (Option.some Jvm.ClassFile.FieldType.int)) ∈ lw_gd := tb_in8 (i := 189) rfl rfl
theorem tb_1870 : (Jvm.Cond.constantLong "MedalBoardModel" 443 9999) ∈ lw_gd := tb_in8 (i := 190) rfl rfl
theorem tb_1871 : (Jvm.Cond.methodLink "MedalBoardModel" 445 ⟨"MedalBoardModel", "lives", "(I)V"⟩) ∈ lw_gd := tb_in8 (i := 191) rfl rfl
theorem tb_1873 : (Jvm.Cond.instanceMethod ⟨"MedalBoardModel", "lives", "(I)V"⟩) ∈ lw_gd := tb_in8 (i := 193) rfl rfl
theorem tb_1874 : (Jvm.Cond.code ⟨"MedalBoardModel", "lives", "(I)V"⟩ prog_14_method_137_code 4 (Option.none : Option Jvm.ClassFile.FieldType)) ∈ lw_gd := tb_in8 (i := 194) rfl rfl
theorem tb_1875 : (Jvm.Cond.methodLink "MedalBoardModel" 434 ⟨"MedalBoardModel", "does", "(I)Z"⟩) ∈ lw_gd := tb_in8 (i := 195) rfl rfl
theorem tb_1877 : (Jvm.Cond.instanceMethod ⟨"MedalBoardModel", "does", "(I)Z"⟩) ∈ lw_gd := tb_in8 (i := 197) rfl rfl
theorem tb_1878 : (Jvm.Cond.code ⟨"MedalBoardModel", "does", "(I)Z"⟩ prog_14_method_134_code 3 (Option.some Jvm.ClassFile.FieldType.boolean)) ∈ lw_gd := tb_in8 (i := 198) rfl rfl
theorem tb_1879 : (Jvm.Cond.methodLink "MedalBoardModel" 425 ⟨"MedalBoardModel", "facesBy", "(II)Z"⟩) ∈ lw_gd := tb_in8 (i := 199) rfl rfl
theorem tb_1881 : (Jvm.Cond.instanceMethod ⟨"MedalBoardModel", "facesBy", "(II)Z"⟩) ∈ lw_gd := tb_in8 (i := 201) rfl rfl
theorem tb_1882 : (Jvm.Cond.code ⟨"MedalBoardModel", "facesBy", "(II)Z"⟩ prog_14_method_132_code 4 (Option.some Jvm.ClassFile.FieldType.boolean)) ∈ lw_gd := tb_in8 (i := 202) rfl rfl
theorem tb_1883 : (Jvm.Cond.methodLink "MedalBoardModel" 428 ⟨"MedalBoardModel", "facesAny", "()Z"⟩) ∈ lw_gd := tb_in8 (i := 203) rfl rfl
theorem tb_1885 : (Jvm.Cond.instanceMethod ⟨"MedalBoardModel", "facesAny", "()Z"⟩) ∈ lw_gd := tb_in8 (i := 205) rfl rfl
theorem tb_1886 : (Jvm.Cond.code ⟨"MedalBoardModel", "facesAny", "()Z"⟩ prog_14_method_133_code 2 (Option.some Jvm.ClassFile.FieldType.boolean)) ∈ lw_gd := tb_in8 (i := 206) rfl rfl
theorem tb_1887 : (Jvm.Cond.methodLink "MedalBoardModel" 422 ⟨"MedalBoardModel", "draw", "(I)I"⟩) ∈ lw_gd := tb_in8 (i := 207) rfl rfl
theorem tb_1889 : (Jvm.Cond.instanceMethod ⟨"MedalBoardModel", "draw", "(I)I"⟩) ∈ lw_gd := tb_in8 (i := 209) rfl rfl
theorem tb_1890 : (Jvm.Cond.code ⟨"MedalBoardModel", "draw", "(I)I"⟩ prog_14_method_131_code 2 (Option.some Jvm.ClassFile.FieldType.int)) ∈ lw_gd := tb_in8 (i := 210) rfl rfl
theorem tb_1891 : (Jvm.Cond.constant "MedalBoardModel" 421 65536) ∈ lw_gd := tb_in8 (i := 211) rfl rfl
theorem tb_1892 : (Jvm.Cond.methodLink "MedalBoardModel" 437 ⟨"MedalBoardModel", "holds", "(I)Z"⟩) ∈ lw_gd := tb_in8 (i := 212) rfl rfl
theorem tb_1894 : (Jvm.Cond.instanceMethod ⟨"MedalBoardModel", "holds", "(I)Z"⟩) ∈ lw_gd := tb_in8 (i := 214) rfl rfl
theorem tb_1895 : (Jvm.Cond.code ⟨"MedalBoardModel", "holds", "(I)Z"⟩ prog_14_method_135_code 5 (Option.some Jvm.ClassFile.FieldType.boolean)) ∈ lw_gd := tb_in8 (i := 215) rfl rfl
theorem tb_1896 : (Jvm.Cond.methodLink "MedalBoardModel" 440 ⟨"MedalBoardModel", "behindEnds", "(I)I"⟩) ∈ lw_gd := tb_in8 (i := 216) rfl rfl
theorem tb_1898 : (Jvm.Cond.instanceMethod ⟨"MedalBoardModel", "behindEnds", "(I)I"⟩) ∈ lw_gd := tb_in8 (i := 218) rfl rfl
theorem tb_1899 : (Jvm.Cond.code ⟨"MedalBoardModel", "behindEnds", "(I)I"⟩ prog_14_method_136_code 5 (Option.some Jvm.ClassFile.FieldType.int)) ∈ lw_gd := tb_in8 (i := 219) rfl rfl
theorem tb_1900 : (Jvm.Cond.methodLink "MedalBoardLaw" 231 ⟨"MedalBoardModel", "lived", "(I)I"⟩) ∈ lw_gd := tb_in8 (i := 220) rfl rfl
theorem tb_1901 : (Jvm.Cond.instanceMethod ⟨"MedalBoardModel", "lived", "(I)I"⟩) ∈ lw_gd := tb_in8 (i := 221) rfl rfl
theorem tb_1902 : (Jvm.Cond.selects "MedalBoardModel" ⟨"MedalBoardModel", "lived", "(I)I"⟩ ⟨"MedalBoardModel", "lived", "(I)I"⟩) ∈ lw_gd := tb_in8 (i := 222) rfl rfl
theorem tb_1903 : (Jvm.Cond.code ⟨"MedalBoardModel", "lived", "(I)I"⟩ prog_14_method_139_code 2 (Option.some Jvm.ClassFile.FieldType.int)) ∈ lw_gd := tb_in8 (i := 223) rfl rfl
theorem tb_1904 : (Jvm.Cond.methodLink "MedalBoardLaw" 235 ⟨"MedalBoardModel", "mean", "(III)Z"⟩) ∈ lw_gd := tb_in8 (i := 224) rfl rfl
theorem tb_1905 : (Jvm.Cond.instanceMethod ⟨"MedalBoardModel", "mean", "(III)Z"⟩) ∈ lw_gd := tb_in8 (i := 225) rfl rfl
theorem tb_1906 : (Jvm.Cond.selects "MedalBoardModel" ⟨"MedalBoardModel", "mean", "(III)Z"⟩ ⟨"MedalBoardModel", "mean", "(III)Z"⟩) ∈ lw_gd := tb_in8 (i := 226) rfl rfl
theorem tb_1907 : (Jvm.Cond.code ⟨"MedalBoardModel", "mean", "(III)Z"⟩ prog_14_method_140_code 7 (Option.some Jvm.ClassFile.FieldType.boolean)) ∈ lw_gd := tb_in8 (i := 227) rfl rfl
theorem tb_1908 : (Jvm.Cond.methodLink "MedalBoardLaw" 239 ⟨"MedalBoardModel", "mark", "()I"⟩) ∈ lw_gd := tb_in8 (i := 228) rfl rfl
theorem tb_1909 : (Jvm.Cond.instanceMethod ⟨"MedalBoardModel", "mark", "()I"⟩) ∈ lw_gd := tb_in8 (i := 229) rfl rfl
theorem tb_1910 : (Jvm.Cond.selects "MedalBoardModel" ⟨"MedalBoardModel", "mark", "()I"⟩ ⟨"MedalBoardModel", "mark", "()I"⟩) ∈ lw_gd := tb_in8 (i := 230) rfl rfl
theorem tb_1911 : (Jvm.Cond.code ⟨"MedalBoardModel", "mark", "()I"⟩ prog_14_method_142_code 1 (Option.some Jvm.ClassFile.FieldType.int)) ∈ lw_gd := tb_in8 (i := 231) rfl rfl
theorem tb_1912 : (Jvm.Cond.methodLink "MedalBoardModel" 454 ⟨"MedalBoardModel", "copies", "(II)V"⟩) ∈ lw_gd := tb_in8 (i := 232) rfl rfl
theorem tb_1914 : (Jvm.Cond.instanceMethod ⟨"MedalBoardModel", "copies", "(II)V"⟩) ∈ lw_gd := tb_in8 (i := 234) rfl rfl
theorem tb_1915 : (Jvm.Cond.code ⟨"MedalBoardModel", "copies", "(II)V"⟩ prog_14_method_141_code 4 (Option.none : Option Jvm.ClassFile.FieldType)) ∈ lw_gd := tb_in8 (i := 235) rfl rfl
theorem tb_1916 : (Jvm.Cond.methodLink "MedalBoardLaw" 243 ⟨"MedalBoardModel", "undo", "()I"⟩) ∈ lw_gd := tb_in8 (i := 236) rfl rfl
theorem tb_1917 : (Jvm.Cond.instanceMethod ⟨"MedalBoardModel", "undo", "()I"⟩) ∈ lw_gd := tb_in8 (i := 237) rfl rfl
theorem tb_1918 : (Jvm.Cond.selects "MedalBoardModel" ⟨"MedalBoardModel", "undo", "()I"⟩ ⟨"MedalBoardModel", "undo", "()I"⟩) ∈ lw_gd := tb_in8 (i := 238) rfl rfl
theorem tb_1919 : (Jvm.Cond.code ⟨"MedalBoardModel", "undo", "()I"⟩ prog_14_method_143_code 1 (Option.some Jvm.ClassFile.FieldType.int)) ∈ lw_gd := tb_in8 (i := 239) rfl rfl
theorem tb_1920 : (Jvm.Cond.constantLong "MedalBoardLaw" 32 4294967295) ∈ lw_gd := tb_in9 (i := 0) rfl rfl
theorem tb_1921 : (Jvm.Cond.fieldLink "java/lang/String" 9 "java/lang/String" "value" "[B") ∈ lw_gd := tb_in9 (i := 1) rfl rfl
theorem tb_1922 : (Jvm.Cond.fieldLink "java/lang/String" 15 "java/lang/String" "coder" "B") ∈ lw_gd := tb_in9 (i := 2) rfl rfl
theorem ts_0 : Cond.selects "MedalBoard" ⟨"MedalBoard", "trayAt", "(I)LMedalBoard$Tray;"⟩ ⟨"MedalBoard", "trayAt", "(I)LMedalBoard$Tray;"⟩ ∈ lw_gd := tb_se (i := 0) rfl rfl
theorem ts_1 : Cond.selects "MedalBoard" ⟨"MedalBoard", "deny", "(I)Z"⟩ ⟨"MedalBoard", "deny", "(I)Z"⟩ ∈ lw_gd := tb_se (i := 1) rfl rfl
theorem ts_2 : Cond.selects "MedalBoard" ⟨"MedalBoard", "allow", "()Z"⟩ ⟨"MedalBoard", "allow", "()Z"⟩ ∈ lw_gd := tb_se (i := 2) rfl rfl
theorem ts_3 : Cond.selects "MedalBoard$Tray" ⟨"MedalBoard$Tray", "cut", "(J)J"⟩ ⟨"MedalBoard$Tray", "cut", "(J)J"⟩ ∈ lw_gd := tb_se (i := 3) rfl rfl
theorem ts_4 : Cond.selects "MedalBoard" ⟨"MedalBoard", "refuse", "(I)I"⟩ ⟨"MedalBoard", "refuse", "(I)I"⟩ ∈ lw_gd := tb_se (i := 4) rfl rfl
theorem ts_5 : Cond.selects "MedalBoard$Tape" ⟨"MedalBoard$Tape", "appendFour", "(I)V"⟩ ⟨"MedalBoard$Tape", "appendFour", "(I)V"⟩ ∈ lw_gd := tb_se (i := 5) rfl rfl
theorem ts_6 : Cond.selects "MedalBoard$Tape" ⟨"MedalBoard$Tape", "takeLetters", "()V"⟩ ⟨"MedalBoard$Tape", "takeLetters", "()V"⟩ ∈ lw_gd := tb_se (i := 6) rfl rfl
theorem ts_7 : Cond.selects "MedalBoard$Tape" ⟨"MedalBoard$Tape", "takeDigits", "()V"⟩ ⟨"MedalBoard$Tape", "takeDigits", "()V"⟩ ∈ lw_gd := tb_se (i := 7) rfl rfl
theorem ts_8 : Cond.selects "MedalBoard$ArmyReader" ⟨"MedalBoard$ArmyReader", "takePride", "()Z"⟩ ⟨"MedalBoard$ArmyReader", "takePride", "()Z"⟩ ∈ lw_gd := tb_se (i := 8) rfl rfl
theorem ts_9 : Cond.selects "MedalBoard$ArmyReader" ⟨"MedalBoard$ArmyReader", "takeQuota", "()Z"⟩ ⟨"MedalBoard$ArmyReader", "takeQuota", "()Z"⟩ ∈ lw_gd := tb_se (i := 9) rfl rfl
theorem ts_10 : Cond.selects "MedalBoard$ArmyReader" ⟨"MedalBoard$ArmyReader", "takeNewMan", "()Z"⟩ ⟨"MedalBoard$ArmyReader", "takeNewMan", "()Z"⟩ ∈ lw_gd := tb_se (i := 10) rfl rfl
theorem ts_11 : Cond.selects "MedalBoard$ArmyReader" ⟨"MedalBoard$ArmyReader", "takeIfTold", "(III)I"⟩ ⟨"MedalBoard$ArmyReader", "takeIfTold", "(III)I"⟩ ∈ lw_gd := tb_se (i := 11) rfl rfl
theorem ts_12 : Cond.selects "MedalBoard$ArmyReader" ⟨"MedalBoard$ArmyReader", "takeLikes", "()Z"⟩ ⟨"MedalBoard$ArmyReader", "takeLikes", "()Z"⟩ ∈ lw_gd := tb_se (i := 12) rfl rfl
theorem ts_13 : Cond.selects "MedalBoard" ⟨"MedalBoard", "answer", "(I)I"⟩ ⟨"MedalBoard", "answer", "(I)I"⟩ ∈ lw_gd := tb_se (i := 13) rfl rfl
theorem ts_14 : Cond.selects "MedalBoard$WarReader" ⟨"MedalBoard$WarReader", "takeEnd", "()Z"⟩ ⟨"MedalBoard$WarReader", "takeEnd", "()Z"⟩ ∈ lw_gd := tb_se (i := 14) rfl rfl
theorem ts_15 : Cond.selects "MedalBoard$WarReader" ⟨"MedalBoard$WarReader", "takeBegin", "(I)Z"⟩ ⟨"MedalBoard$WarReader", "takeBegin", "(I)Z"⟩ ∈ lw_gd := tb_se (i := 15) rfl rfl
theorem ts_16 : Cond.selects "MedalBoard$WarReader" ⟨"MedalBoard$WarReader", "takeRest", "(I)Z"⟩ ⟨"MedalBoard$WarReader", "takeRest", "(I)Z"⟩ ∈ lw_gd := tb_se (i := 16) rfl rfl
theorem ts_17 : Cond.selects "MedalBoard$WarReader" ⟨"MedalBoard$WarReader", "takeTest", "(I)Z"⟩ ⟨"MedalBoard$WarReader", "takeTest", "(I)Z"⟩ ∈ lw_gd := tb_se (i := 17) rfl rfl
theorem ts_18 : Cond.selects "MedalBoard$WarReader" ⟨"MedalBoard$WarReader", "takeLast", "(I)Z"⟩ ⟨"MedalBoard$WarReader", "takeLast", "(I)Z"⟩ ∈ lw_gd := tb_se (i := 18) rfl rfl
theorem ts_19 : Cond.selects "MedalBoard" ⟨"MedalBoard", "dangerRefusal", "(II)I"⟩ ⟨"MedalBoard", "dangerRefusal", "(II)I"⟩ ∈ lw_gd := tb_se (i := 19) rfl rfl
theorem ts_20 : Cond.selects "MedalBoard" ⟨"MedalBoard", "tell", "(JJ)V"⟩ ⟨"MedalBoard", "tell", "(JJ)V"⟩ ∈ lw_gd := tb_se (i := 20) rfl rfl
theorem ts_21 : Cond.selects "MedalBoard" ⟨"MedalBoard", "ordersRefusal", "(ILMedalBoard$Tray;I)I"⟩ ⟨"MedalBoard", "ordersRefusal", "(ILMedalBoard$Tray;I)I"⟩ ∈ lw_gd := tb_se (i := 21) rfl rfl
theorem ts_22 : Cond.selects "MedalBoard$Foresight" ⟨"MedalBoard$Foresight", "mostFrom", "(II)I"⟩ ⟨"MedalBoard$Foresight", "mostFrom", "(II)I"⟩ ∈ lw_gd := tb_se (i := 22) rfl rfl
theorem ts_23 : Cond.selects "MedalBoard$Foresight" ⟨"MedalBoard$Foresight", "mostIfStood", "(III)I"⟩ ⟨"MedalBoard$Foresight", "mostIfStood", "(III)I"⟩ ∈ lw_gd := tb_se (i := 23) rfl rfl
theorem ts_24 : Cond.selects "MedalBoard$Foresight" ⟨"MedalBoard$Foresight", "firstBestFacer", "(II)I"⟩ ⟨"MedalBoard$Foresight", "firstBestFacer", "(II)I"⟩ ∈ lw_gd := tb_se (i := 24) rfl rfl
theorem ts_25 : Cond.selects "MedalBoard" ⟨"MedalBoard", "seenRefusal", "(ILMedalBoard$Tray;I)I"⟩ ⟨"MedalBoard", "seenRefusal", "(ILMedalBoard$Tray;I)I"⟩ ∈ lw_gd := tb_se (i := 25) rfl rfl
theorem ts_26 : Cond.selects "MedalBoard" ⟨"MedalBoard", "fittingCourages", "(ILMedalBoard$Tray;I)I"⟩ ⟨"MedalBoard", "fittingCourages", "(ILMedalBoard$Tray;I)I"⟩ ∈ lw_gd := tb_se (i := 26) rfl rfl
theorem ts_27 : Cond.selects "MedalBoard" ⟨"MedalBoard", "tellingSize", "(II)I"⟩ ⟨"MedalBoard", "tellingSize", "(II)I"⟩ ∈ lw_gd := tb_se (i := 27) rfl rfl
theorem ts_28 : Cond.selects "MedalBoard$Pairs" ⟨"MedalBoard$Pairs", "search", "(IIII)V"⟩ ⟨"MedalBoard$Pairs", "search", "(IIII)V"⟩ ∈ lw_gd := tb_se (i := 28) rfl rfl
theorem ts_29 : Cond.selects "MedalBoard" ⟨"MedalBoard", "gameRefusal", "(IILMedalBoard$Tray;I)I"⟩ ⟨"MedalBoard", "gameRefusal", "(IILMedalBoard$Tray;I)I"⟩ ∈ lw_gd := tb_se (i := 29) rfl rfl
theorem ts_30 : Cond.selects "MedalBoard$Foresight" ⟨"MedalBoard$Foresight", "valueFrom", "(III)I"⟩ ⟨"MedalBoard$Foresight", "valueFrom", "(III)I"⟩ ∈ lw_gd := tb_se (i := 30) rfl rfl
theorem ts_31 : Cond.selects "MedalBoard$Foresight" ⟨"MedalBoard$Foresight", "valueIfStood", "(III)I"⟩ ⟨"MedalBoard$Foresight", "valueIfStood", "(III)I"⟩ ∈ lw_gd := tb_se (i := 31) rfl rfl
theorem ts_32 : Cond.selects "MedalBoard$Campaign" ⟨"MedalBoard$Campaign", "begin", "(I)V"⟩ ⟨"MedalBoard$Campaign", "begin", "(I)V"⟩ ∈ lw_gd := tb_se (i := 32) rfl rfl
theorem ts_33 : Cond.selects "MedalBoard$Campaign" ⟨"MedalBoard$Campaign", "behindEnd", "(I)I"⟩ ⟨"MedalBoard$Campaign", "behindEnd", "(I)I"⟩ ∈ lw_gd := tb_se (i := 33) rfl rfl
theorem ts_34 : Cond.selects "MedalBoard$Campaign" ⟨"MedalBoard$Campaign", "behindStep", "(I)I"⟩ ⟨"MedalBoard$Campaign", "behindStep", "(I)I"⟩ ∈ lw_gd := tb_se (i := 34) rfl rfl
theorem ts_35 : Cond.selects "MedalBoard$Campaign" ⟨"MedalBoard$Campaign", "faceDanger", "(II)V"⟩ ⟨"MedalBoard$Campaign", "faceDanger", "(II)V"⟩ ∈ lw_gd := tb_se (i := 35) rfl rfl
theorem ts_36 : Cond.selects "MedalBoard$Campaign" ⟨"MedalBoard$Campaign", "countMiss", "(Z)V"⟩ ⟨"MedalBoard$Campaign", "countMiss", "(Z)V"⟩ ∈ lw_gd := tb_se (i := 36) rfl rfl
theorem ts_37 : Cond.selects "MedalBoard$Campaign" ⟨"MedalBoard$Campaign", "drawBy", "(I)I"⟩ ⟨"MedalBoard$Campaign", "drawBy", "(I)I"⟩ ∈ lw_gd := tb_se (i := 37) rfl rfl
theorem ts_38 : Cond.selects "MedalBoard$Campaign" ⟨"MedalBoard$Campaign", "testHolds", "(I)Z"⟩ ⟨"MedalBoard$Campaign", "testHolds", "(I)Z"⟩ ∈ lw_gd := tb_se (i := 38) rfl rfl
theorem ts_39 : Cond.selects "MedalBoardModel" ⟨"MedalBoardModel", "plain", "(I)V"⟩ ⟨"MedalBoardModel", "plain", "(I)V"⟩ ∈ lw_gd := tb_se (i := 39) rfl rfl
theorem ts_40 : Cond.selects "MedalBoardModel" ⟨"MedalBoardModel", "is", "(I)Z"⟩ ⟨"MedalBoardModel", "is", "(I)Z"⟩ ∈ lw_gd := tb_se (i := 40) rfl rfl
theorem ts_41 : Cond.selects "MedalBoardModel" ⟨"MedalBoardModel", "wrongPlace", "(II)I"⟩ ⟨"MedalBoardModel", "wrongPlace", "(II)I"⟩ ∈ lw_gd := tb_se (i := 41) rfl rfl
theorem ts_42 : Cond.selects "MedalBoardModel" ⟨"MedalBoardModel", "four", "(I)V"⟩ ⟨"MedalBoardModel", "four", "(I)V"⟩ ∈ lw_gd := tb_se (i := 42) rfl rfl
theorem ts_43 : Cond.selects "MedalBoardModel" ⟨"MedalBoardModel", "begins", "(II)Z"⟩ ⟨"MedalBoardModel", "begins", "(II)Z"⟩ ∈ lw_gd := tb_se (i := 43) rfl rfl
theorem ts_44 : Cond.selects "MedalBoardModel" ⟨"MedalBoardModel", "ahead", "()V"⟩ ⟨"MedalBoardModel", "ahead", "()V"⟩ ∈ lw_gd := tb_se (i := 44) rfl rfl
theorem ts_45 : Cond.selects "MedalBoardModel" ⟨"MedalBoardModel", "byteAt", "(I)I"⟩ ⟨"MedalBoardModel", "byteAt", "(I)I"⟩ ∈ lw_gd := tb_se (i := 45) rfl rfl
theorem ts_46 : Cond.selects "MedalBoardModel" ⟨"MedalBoardModel", "refuse", "(I)I"⟩ ⟨"MedalBoardModel", "refuse", "(I)I"⟩ ∈ lw_gd := tb_se (i := 46) rfl rfl
theorem ts_47 : Cond.selects "MedalBoardModel" ⟨"MedalBoardModel", "armyPart", "()Z"⟩ ⟨"MedalBoardModel", "armyPart", "()Z"⟩ ∈ lw_gd := tb_se (i := 47) rfl rfl
theorem ts_48 : Cond.selects "MedalBoardModel" ⟨"MedalBoardModel", "inWords", "(Ljava/lang/String;)I"⟩ ⟨"MedalBoardModel", "inWords", "(Ljava/lang/String;)I"⟩ ∈ lw_gd := tb_se (i := 48) rfl rfl
theorem ts_49 : Cond.selects "MedalBoardModel" ⟨"MedalBoardModel", "fails", "(I)Z"⟩ ⟨"MedalBoardModel", "fails", "(I)Z"⟩ ∈ lw_gd := tb_se (i := 49) rfl rfl
theorem ts_50 : Cond.selects "MedalBoardModel" ⟨"MedalBoardModel", "number", "(III)Z"⟩ ⟨"MedalBoardModel", "number", "(III)Z"⟩ ∈ lw_gd := tb_se (i := 50) rfl rfl
theorem ts_51 : Cond.selects "MedalBoardModel" ⟨"MedalBoardModel", "aMan", "()Z"⟩ ⟨"MedalBoardModel", "aMan", "()Z"⟩ ∈ lw_gd := tb_se (i := 51) rfl rfl
theorem ts_52 : Cond.selects "MedalBoardModel" ⟨"MedalBoardModel", "isName", "(Ljava/lang/String;)Z"⟩ ⟨"MedalBoardModel", "isName", "(Ljava/lang/String;)Z"⟩ ∈ lw_gd := tb_se (i := 52) rfl rfl
theorem ts_53 : Cond.selects "MedalBoardModel" ⟨"MedalBoardModel", "findHere", "(II)I"⟩ ⟨"MedalBoardModel", "findHere", "(II)I"⟩ ∈ lw_gd := tb_se (i := 53) rfl rfl
theorem ts_54 : Cond.selects "MedalBoardModel" ⟨"MedalBoardModel", "nameHere", "()J"⟩ ⟨"MedalBoardModel", "nameHere", "()J"⟩ ∈ lw_gd := tb_se (i := 54) rfl rfl
theorem ts_55 : Cond.selects "MedalBoardModel" ⟨"MedalBoardModel", "wantWord", "(Ljava/lang/String;I)Z"⟩ ⟨"MedalBoardModel", "wantWord", "(Ljava/lang/String;I)Z"⟩ ∈ lw_gd := tb_se (i := 55) rfl rfl
theorem ts_56 : Cond.selects "MedalBoardModel" ⟨"MedalBoardModel", "isThere", "(I)Z"⟩ ⟨"MedalBoardModel", "isThere", "(I)Z"⟩ ∈ lw_gd := tb_se (i := 56) rfl rfl
theorem ts_57 : Cond.selects "MedalBoardModel" ⟨"MedalBoardModel", "aLike", "()Z"⟩ ⟨"MedalBoardModel", "aLike", "()Z"⟩ ∈ lw_gd := tb_se (i := 57) rfl rfl
theorem ts_58 : Cond.selects "MedalBoardModel" ⟨"MedalBoardModel", "oldOne", "(III)Z"⟩ ⟨"MedalBoardModel", "oldOne", "(III)Z"⟩ ∈ lw_gd := tb_se (i := 58) rfl rfl
theorem ts_59 : Cond.selects "MedalBoardModel" ⟨"MedalBoardModel", "wantSign", "(I)Z"⟩ ⟨"MedalBoardModel", "wantSign", "(I)Z"⟩ ∈ lw_gd := tb_se (i := 59) rfl rfl
theorem ts_60 : Cond.selects "MedalBoardModel" ⟨"MedalBoardModel", "isSign", "(I)Z"⟩ ⟨"MedalBoardModel", "isSign", "(I)Z"⟩ ∈ lw_gd := tb_se (i := 60) rfl rfl
theorem ts_61 : Cond.selects "MedalBoardModel" ⟨"MedalBoardModel", "taken", "(I)I"⟩ ⟨"MedalBoardModel", "taken", "(I)I"⟩ ∈ lw_gd := tb_se (i := 61) rfl rfl
theorem ts_62 : Cond.selects "MedalBoardModel" ⟨"MedalBoardModel", "gives", "(I)I"⟩ ⟨"MedalBoardModel", "gives", "(I)I"⟩ ∈ lw_gd := tb_se (i := 62) rfl rfl
theorem ts_63 : Cond.selects "MedalBoardModel" ⟨"MedalBoardModel", "warStep", "()Z"⟩ ⟨"MedalBoardModel", "warStep", "()Z"⟩ ∈ lw_gd := tb_se (i := 63) rfl rfl
theorem ts_64 : Cond.selects "MedalBoardModel" ⟨"MedalBoardModel", "warOrder", "(II)Z"⟩ ⟨"MedalBoardModel", "warOrder", "(II)Z"⟩ ∈ lw_gd := tb_se (i := 64) rfl rfl
theorem ts_65 : Cond.selects "MedalBoardModel" ⟨"MedalBoardModel", "manTo", "(I)Z"⟩ ⟨"MedalBoardModel", "manTo", "(I)Z"⟩ ∈ lw_gd := tb_se (i := 65) rfl rfl
theorem ts_66 : Cond.selects "MedalBoardModel" ⟨"MedalBoardModel", "test", "(I)Z"⟩ ⟨"MedalBoardModel", "test", "(I)Z"⟩ ∈ lw_gd := tb_se (i := 66) rfl rfl
theorem ts_67 : Cond.selects "MedalBoardModel" ⟨"MedalBoardModel", "living", "()I"⟩ ⟨"MedalBoardModel", "living", "()I"⟩ ∈ lw_gd := tb_se (i := 67) rfl rfl
theorem ts_68 : Cond.selects "MedalBoardModel" ⟨"MedalBoardModel", "isAlive", "(I)Z"⟩ ⟨"MedalBoardModel", "isAlive", "(I)Z"⟩ ∈ lw_gd := tb_se (i := 68) rfl rfl
theorem ts_69 : Cond.selects "MedalBoardModel" ⟨"MedalBoardModel", "manOf", "(II)I"⟩ ⟨"MedalBoardModel", "manOf", "(II)I"⟩ ∈ lw_gd := tb_se (i := 69) rfl rfl
theorem ts_70 : Cond.selects "MedalBoardModel" ⟨"MedalBoardModel", "decorated", "()I"⟩ ⟨"MedalBoardModel", "decorated", "()I"⟩ ∈ lw_gd := tb_se (i := 70) rfl rfl
theorem ts_71 : Cond.selects "MedalBoardModel" ⟨"MedalBoardModel", "sumOf", "(I)I"⟩ ⟨"MedalBoardModel", "sumOf", "(I)I"⟩ ∈ lw_gd := tb_se (i := 71) rfl rfl
theorem ts_72 : Cond.selects "MedalBoardModel" ⟨"MedalBoardModel", "isMan", "(I)Z"⟩ ⟨"MedalBoardModel", "isMan", "(I)Z"⟩ ∈ lw_gd := tb_se (i := 72) rfl rfl
theorem ts_73 : Cond.selects "MedalBoardModel" ⟨"MedalBoardModel", "braveOf", "(I)I"⟩ ⟨"MedalBoardModel", "braveOf", "(I)I"⟩ ∈ lw_gd := tb_se (i := 73) rfl rfl
theorem ts_74 : Cond.selects "MedalBoardModel" ⟨"MedalBoardModel", "likesOf", "(II)I"⟩ ⟨"MedalBoardModel", "likesOf", "(II)I"⟩ ∈ lw_gd := tb_se (i := 74) rfl rfl
theorem ts_75 : Cond.selects "MedalBoardModel" ⟨"MedalBoardModel", "faces", "(II)I"⟩ ⟨"MedalBoardModel", "faces", "(II)I"⟩ ∈ lw_gd := tb_se (i := 75) rfl rfl
theorem ts_76 : Cond.selects "MedalBoardModel" ⟨"MedalBoardModel", "stands", "(II)Z"⟩ ⟨"MedalBoardModel", "stands", "(II)Z"⟩ ∈ lw_gd := tb_se (i := 76) rfl rfl
theorem ts_77 : Cond.selects "MedalBoardModel" ⟨"MedalBoardModel", "pins", "(II)I"⟩ ⟨"MedalBoardModel", "pins", "(II)I"⟩ ∈ lw_gd := tb_se (i := 77) rfl rfl
theorem ts_78 : Cond.selects "MedalBoardModel" ⟨"MedalBoardModel", "winner", "(II)I"⟩ ⟨"MedalBoardModel", "winner", "(II)I"⟩ ∈ lw_gd := tb_se (i := 78) rfl rfl
theorem ts_79 : Cond.selects "MedalBoardModel" ⟨"MedalBoardModel", "candidatesOf", "(II)I"⟩ ⟨"MedalBoardModel", "candidatesOf", "(II)I"⟩ ∈ lw_gd := tb_se (i := 79) rfl rfl
theorem ts_80 : Cond.selects "MedalBoardModel" ⟨"MedalBoardModel", "isIn", "(II)Z"⟩ ⟨"MedalBoardModel", "isIn", "(II)Z"⟩ ∈ lw_gd := tb_se (i := 80) rfl rfl
theorem ts_81 : Cond.selects "MedalBoardModel" ⟨"MedalBoardModel", "votesFor", "(II)I"⟩ ⟨"MedalBoardModel", "votesFor", "(II)I"⟩ ∈ lw_gd := tb_se (i := 81) rfl rfl
theorem ts_82 : Cond.selects "MedalBoardModel" ⟨"MedalBoardModel", "voteBy", "(II)I"⟩ ⟨"MedalBoardModel", "voteBy", "(II)I"⟩ ∈ lw_gd := tb_se (i := 82) rfl rfl
theorem ts_83 : Cond.selects "MedalBoardModel" ⟨"MedalBoardModel", "hands", "(II)Z"⟩ ⟨"MedalBoardModel", "hands", "(II)Z"⟩ ∈ lw_gd := tb_se (i := 83) rfl rfl
theorem ts_84 : Cond.selects "MedalBoardModel" ⟨"MedalBoardModel", "loses", "(I)Z"⟩ ⟨"MedalBoardModel", "loses", "(I)Z"⟩ ∈ lw_gd := tb_se (i := 84) rfl rfl
theorem ts_85 : Cond.selects "MedalBoardModel" ⟨"MedalBoardModel", "falls", "(I)Z"⟩ ⟨"MedalBoardModel", "falls", "(I)Z"⟩ ∈ lw_gd := tb_se (i := 85) rfl rfl
theorem ts_86 : Cond.selects "MedalBoardModel" ⟨"MedalBoardModel", "standing", "(I)I"⟩ ⟨"MedalBoardModel", "standing", "(I)I"⟩ ∈ lw_gd := tb_se (i := 86) rfl rfl
theorem ts_87 : Cond.selects "MedalBoardModel" ⟨"MedalBoardModel", "orNone", "(I)I"⟩ ⟨"MedalBoardModel", "orNone", "(I)I"⟩ ∈ lw_gd := tb_se (i := 87) rfl rfl
theorem ts_88 : Cond.selects "MedalBoardModel" ⟨"MedalBoardModel", "doCarry", "(I)Z"⟩ ⟨"MedalBoardModel", "doCarry", "(I)Z"⟩ ∈ lw_gd := tb_se (i := 88) rfl rfl
theorem ts_89 : Cond.selects "MedalBoardModel" ⟨"MedalBoardModel", "weightOf", "(I)I"⟩ ⟨"MedalBoardModel", "weightOf", "(I)I"⟩ ∈ lw_gd := tb_se (i := 89) rfl rfl
theorem ts_90 : Cond.selects "MedalBoardModel" ⟨"MedalBoardModel", "fewestOf", "()I"⟩ ⟨"MedalBoardModel", "fewestOf", "()I"⟩ ∈ lw_gd := tb_se (i := 90) rfl rfl
theorem ts_91 : Cond.selects "MedalBoardModel" ⟨"MedalBoardModel", "powerOf", "(I)I"⟩ ⟨"MedalBoardModel", "powerOf", "(I)I"⟩ ∈ lw_gd := tb_se (i := 91) rfl rfl
theorem ts_92 : Cond.selects "MedalBoardModel" ⟨"MedalBoardModel", "tellsBy", "(JJ)Z"⟩ ⟨"MedalBoardModel", "tellsBy", "(JJ)Z"⟩ ∈ lw_gd := tb_se (i := 92) rfl rfl
theorem ts_93 : Cond.selects "MedalBoardModel" ⟨"MedalBoardModel", "wrongSizes", "(III)I"⟩ ⟨"MedalBoardModel", "wrongSizes", "(III)I"⟩ ∈ lw_gd := tb_se (i := 93) rfl rfl
theorem ts_94 : Cond.selects "MedalBoardModel" ⟨"MedalBoardModel", "ordering", "(III)I"⟩ ⟨"MedalBoardModel", "ordering", "(III)I"⟩ ∈ lw_gd := tb_se (i := 94) rfl rfl
theorem ts_95 : Cond.selects "MedalBoardModel" ⟨"MedalBoardModel", "gotBy", "(IIII)I"⟩ ⟨"MedalBoardModel", "gotBy", "(IIII)I"⟩ ∈ lw_gd := tb_se (i := 95) rfl rfl
theorem ts_96 : Cond.selects "MedalBoardModel" ⟨"MedalBoardModel", "keeps", "(I)V"⟩ ⟨"MedalBoardModel", "keeps", "(I)V"⟩ ∈ lw_gd := tb_se (i := 96) rfl rfl
theorem ts_97 : Cond.selects "MedalBoardModel" ⟨"MedalBoardModel", "sizeAt", "(II)I"⟩ ⟨"MedalBoardModel", "sizeAt", "(II)I"⟩ ∈ lw_gd := tb_se (i := 97) rfl rfl
theorem ts_98 : Cond.selects "MedalBoardModel" ⟨"MedalBoardModel", "restores", "(I)V"⟩ ⟨"MedalBoardModel", "restores", "(I)V"⟩ ∈ lw_gd := tb_se (i := 98) rfl rfl
theorem ts_99 : Cond.selects "MedalBoardModel" ⟨"MedalBoardModel", "wrongSeen", "(III)I"⟩ ⟨"MedalBoardModel", "wrongSeen", "(III)I"⟩ ∈ lw_gd := tb_se (i := 99) rfl rfl
theorem ts_100 : Cond.selects "MedalBoardModel" ⟨"MedalBoardModel", "fitting", "(IIII)I"⟩ ⟨"MedalBoardModel", "fitting", "(IIII)I"⟩ ∈ lw_gd := tb_se (i := 100) rfl rfl
theorem ts_101 : Cond.selects "MedalBoardModel" ⟨"MedalBoardModel", "fits", "(IIII)Z"⟩ ⟨"MedalBoardModel", "fits", "(IIII)Z"⟩ ∈ lw_gd := tb_se (i := 101) rfl rfl
theorem ts_102 : Cond.selects "MedalBoardModel" ⟨"MedalBoardModel", "wouldStand", "(III)Z"⟩ ⟨"MedalBoardModel", "wouldStand", "(III)Z"⟩ ∈ lw_gd := tb_se (i := 102) rfl rfl
theorem ts_103 : Cond.selects "MedalBoardModel" ⟨"MedalBoardModel", "pairing", "(I)V"⟩ ⟨"MedalBoardModel", "pairing", "(I)V"⟩ ∈ lw_gd := tb_se (i := 103) rfl rfl
theorem ts_104 : Cond.selects "MedalBoardModel" ⟨"MedalBoardModel", "weighs", "()V"⟩ ⟨"MedalBoardModel", "weighs", "()V"⟩ ∈ lw_gd := tb_se (i := 104) rfl rfl
theorem ts_105 : Cond.selects "MedalBoardModel" ⟨"MedalBoardModel", "fondOf", "(II)I"⟩ ⟨"MedalBoardModel", "fondOf", "(II)I"⟩ ∈ lw_gd := tb_se (i := 105) rfl rfl
theorem ts_106 : Cond.selects "MedalBoardModel" ⟨"MedalBoardModel", "isFree", "(III)Z"⟩ ⟨"MedalBoardModel", "isFree", "(III)Z"⟩ ∈ lw_gd := tb_se (i := 106) rfl rfl
theorem ts_107 : Cond.selects "MedalBoardModel" ⟨"MedalBoardModel", "areTwo", "(II)Z"⟩ ⟨"MedalBoardModel", "areTwo", "(II)Z"⟩ ∈ lw_gd := tb_se (i := 107) rfl rfl
theorem ts_108 : Cond.selects "MedalBoardModel" ⟨"MedalBoardModel", "playing", "(IIII)I"⟩ ⟨"MedalBoardModel", "playing", "(IIII)I"⟩ ∈ lw_gd := tb_se (i := 108) rfl rfl
theorem ts_109 : Cond.selects "MedalBoardModel" ⟨"MedalBoardModel", "playedBy", "(IIIII)I"⟩ ⟨"MedalBoardModel", "playedBy", "(IIIII)I"⟩ ∈ lw_gd := tb_se (i := 109) rfl rfl
theorem ts_110 : Cond.selects "MedalBoardModel" ⟨"MedalBoardModel", "lives", "(I)V"⟩ ⟨"MedalBoardModel", "lives", "(I)V"⟩ ∈ lw_gd := tb_se (i := 110) rfl rfl
theorem ts_111 : Cond.selects "MedalBoardModel" ⟨"MedalBoardModel", "does", "(I)Z"⟩ ⟨"MedalBoardModel", "does", "(I)Z"⟩ ∈ lw_gd := tb_se (i := 111) rfl rfl
theorem ts_112 : Cond.selects "MedalBoardModel" ⟨"MedalBoardModel", "facesBy", "(II)Z"⟩ ⟨"MedalBoardModel", "facesBy", "(II)Z"⟩ ∈ lw_gd := tb_se (i := 112) rfl rfl
theorem ts_113 : Cond.selects "MedalBoardModel" ⟨"MedalBoardModel", "facesAny", "()Z"⟩ ⟨"MedalBoardModel", "facesAny", "()Z"⟩ ∈ lw_gd := tb_se (i := 113) rfl rfl
theorem ts_114 : Cond.selects "MedalBoardModel" ⟨"MedalBoardModel", "draw", "(I)I"⟩ ⟨"MedalBoardModel", "draw", "(I)I"⟩ ∈ lw_gd := tb_se (i := 114) rfl rfl
theorem ts_115 : Cond.selects "MedalBoardModel" ⟨"MedalBoardModel", "holds", "(I)Z"⟩ ⟨"MedalBoardModel", "holds", "(I)Z"⟩ ∈ lw_gd := tb_se (i := 115) rfl rfl
theorem ts_116 : Cond.selects "MedalBoardModel" ⟨"MedalBoardModel", "behindEnds", "(I)I"⟩ ⟨"MedalBoardModel", "behindEnds", "(I)I"⟩ ∈ lw_gd := tb_se (i := 116) rfl rfl
theorem ts_117 : Cond.selects "MedalBoardModel" ⟨"MedalBoardModel", "copies", "(II)V"⟩ ⟨"MedalBoardModel", "copies", "(II)V"⟩ ∈ lw_gd := tb_se (i := 117) rfl rfl
