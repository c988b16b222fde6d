/-! words of the constructors -/
theorem gw_77 : Cond.initialized RX6 ∈ lw_good := good_of (k := 77) (by decide +kernel) rfl
theorem gw_78 : Cond.initialized RX4 ∈ lw_good := good_of (k := 78) (by decide +kernel) rfl
theorem gw_79 : Cond.initialized RJ7 ∈ lw_good := good_of (k := 79) (by decide +kernel) rfl
theorem gw_80 : Cond.initialized RX0 ∈ lw_good := good_of (k := 80) (by decide +kernel) rfl
theorem gw_81 : Cond.initialized RX3 ∈ lw_good := good_of (k := 81) (by decide +kernel) rfl
theorem gw_82 : Cond.initialized RX1 ∈ lw_good := good_of (k := 82) (by decide +kernel) rfl
theorem gw_83 : Cond.initialized RX2 ∈ lw_good := good_of (k := 83) (by decide +kernel) rfl
theorem gw_84 : Cond.initialized RX5 ∈ lw_good := good_of (k := 84) (by decide +kernel) rfl
theorem gw_85 : Cond.initialized RX7 ∈ lw_good := good_of (k := 85) (by decide +kernel) rfl
theorem gw_90 : Cond.classLink RL 7 RX6 ∈ lw_good := good_of (k := 90) (by decide +kernel) rfl
theorem gw_91 : Cond.instantiable RX6 6 ∈ lw_good := good_of (k := 91) (by decide +kernel) rfl
theorem gw_92 : Cond.methodLink RL 9 yX6_init ∈ lw_good := good_of (k := 92) (by decide +kernel) rfl
theorem gw_93 : Cond.instanceMethod yX6_init ∈ lw_good := good_of (k := 93) (by decide +kernel) rfl
theorem gw_94 : Cond.code yX6_init cX6_init 1 none ∈ lw_good := good_of (k := 94) (by decide +kernel) rfl
theorem gw_95 : Cond.methodLink RX6 1 objectInit ∈ lw_good := good_of (k := 95) (by decide +kernel) rfl
theorem gw_96 : Cond.instanceMethod objectInit ∈ lw_good := good_of (k := 96) (by decide +kernel) rfl
theorem gw_97 : Cond.code objectInit ⟨#[0xb1]⟩ 1 none ∈ lw_good := good_of (k := 97) (by decide +kernel) rfl
theorem gw_98 : Cond.classLink RX6 7 RX4 ∈ lw_good := good_of (k := 98) (by decide +kernel) rfl
theorem gw_99 : Cond.instantiable RX4 4 ∈ lw_good := good_of (k := 99) (by decide +kernel) rfl
theorem gw_100 : Cond.methodLink RX6 9 yX4_init ∈ lw_good := good_of (k := 100) (by decide +kernel) rfl
theorem gw_101 : Cond.instanceMethod yX4_init ∈ lw_good := good_of (k := 101) (by decide +kernel) rfl
theorem gw_102 : Cond.code yX4_init cX4_init 1 none ∈ lw_good := good_of (k := 102) (by decide +kernel) rfl
theorem gw_103 : Cond.methodLink RX4 3 objectInit ∈ lw_good := good_of (k := 103) (by decide +kernel) rfl
theorem gw_104 : Cond.classLink RX4 11 "[[I" ∈ lw_good := good_of (k := 104) (by decide +kernel) rfl
theorem gw_106 : Cond.methodLink RX4 23 yJ7_fill_53178 ∈ lw_good := good_of (k := 106) (by decide +kernel) rfl
theorem gw_107 : Cond.static yJ7_fill_53178 ∈ lw_good := good_of (k := 107) (by decide +kernel) rfl
theorem gw_108 : Cond.code yJ7_fill_53178 cJ7_fill_53178 4 none ∈ lw_good := good_of (k := 108) (by decide +kernel) rfl
theorem gw_109 : Cond.fieldLink RX4 13 "ArmCounts$Sheets" "items" "[[I" ∈ lw_good := good_of (k := 109) (by decide +kernel) rfl
theorem gw_110 : Cond.fieldLink RX4 16 "ArmCounts$Sheets" "forms" "[I" ∈ lw_good := good_of (k := 110) (by decide +kernel) rfl
theorem gw_111 : Cond.fieldLink RX4 20 "ArmCounts$Sheets" "sizes" "[I" ∈ lw_good := good_of (k := 111) (by decide +kernel) rfl
theorem gw_122 : Cond.arrayClass .int ∈ lw_good := good_of (k := 122) (by decide +kernel) rfl
theorem gw_123 : Cond.classLink RX6 16 RX0 ∈ lw_good := good_of (k := 123) (by decide +kernel) rfl
theorem gw_124 : Cond.instantiable RX0 5 ∈ lw_good := good_of (k := 124) (by decide +kernel) rfl
theorem gw_125 : Cond.methodLink RX6 18 yX0_init ∈ lw_good := good_of (k := 125) (by decide +kernel) rfl
theorem gw_126 : Cond.instanceMethod yX0_init ∈ lw_good := good_of (k := 126) (by decide +kernel) rfl
theorem gw_127 : Cond.code yX0_init cX0_init 1 none ∈ lw_good := good_of (k := 127) (by decide +kernel) rfl
theorem gw_128 : Cond.methodLink RX0 3 objectInit ∈ lw_good := good_of (k := 128) (by decide +kernel) rfl
theorem gw_129 : Cond.classLink RX0 11 "[[I" ∈ lw_good := good_of (k := 129) (by decide +kernel) rfl
theorem gw_130 : Cond.fieldLink RX0 13 "ArmCounts$Counts" "words" "[[I" ∈ lw_good := good_of (k := 130) (by decide +kernel) rfl
theorem gw_131 : Cond.fieldLink RX0 16 "ArmCounts$Counts" "halves" "[I" ∈ lw_good := good_of (k := 131) (by decide +kernel) rfl
theorem gw_132 : Cond.fieldLink RX0 20 "ArmCounts$Counts" "noses" "[I" ∈ lw_good := good_of (k := 132) (by decide +kernel) rfl
theorem gw_133 : Cond.fieldLink RX0 23 "ArmCounts$Counts" "firsts" "[I" ∈ lw_good := good_of (k := 133) (by decide +kernel) rfl
theorem gw_134 : Cond.fieldLink RX0 26 "ArmCounts$Counts" "size" "I" ∈ lw_good := good_of (k := 134) (by decide +kernel) rfl
theorem gw_146 : Cond.classLink RX6 23 RX3 ∈ lw_good := good_of (k := 146) (by decide +kernel) rfl
theorem gw_147 : Cond.instantiable RX3 7 ∈ lw_good := good_of (k := 147) (by decide +kernel) rfl
theorem gw_148 : Cond.methodLink RX6 25 yX3_init ∈ lw_good := good_of (k := 148) (by decide +kernel) rfl
theorem gw_149 : Cond.instanceMethod yX3_init ∈ lw_good := good_of (k := 149) (by decide +kernel) rfl
theorem gw_150 : Cond.code yX3_init cX3_init 1 none ∈ lw_good := good_of (k := 150) (by decide +kernel) rfl
theorem gw_151 : Cond.methodLink RX3 3 objectInit ∈ lw_good := good_of (k := 151) (by decide +kernel) rfl
theorem gw_152 : Cond.classLink RX3 11 "[[I" ∈ lw_good := good_of (k := 152) (by decide +kernel) rfl
theorem gw_153 : Cond.fieldLink RX3 13 "ArmCounts$Riddle" "clues" "[[I" ∈ lw_good := good_of (k := 153) (by decide +kernel) rfl
theorem gw_154 : Cond.fieldLink RX3 16 "ArmCounts$Riddle" "allowed" "[J" ∈ lw_good := good_of (k := 154) (by decide +kernel) rfl
theorem gw_155 : Cond.fieldLink RX3 20 "ArmCounts$Riddle" "met" "[J" ∈ lw_good := good_of (k := 155) (by decide +kernel) rfl
theorem gw_156 : Cond.fieldLink RX3 23 "ArmCounts$Riddle" "now" "[I" ∈ lw_good := good_of (k := 156) (by decide +kernel) rfl
theorem gw_158 : Cond.fieldLink RX3 27 "ArmCounts$Riddle" "mat" "I" ∈ lw_good := good_of (k := 158) (by decide +kernel) rfl
theorem gw_175 : Cond.arrayClass .long ∈ lw_good := good_of (k := 175) (by decide +kernel) rfl
theorem gw_176 : Cond.classLink RX6 30 RX1 ∈ lw_good := good_of (k := 176) (by decide +kernel) rfl
theorem gw_177 : Cond.instantiable RX1 4 ∈ lw_good := good_of (k := 177) (by decide +kernel) rfl
theorem gw_178 : Cond.methodLink RX6 32 yX1_init ∈ lw_good := good_of (k := 178) (by decide +kernel) rfl
theorem gw_179 : Cond.instanceMethod yX1_init ∈ lw_good := good_of (k := 179) (by decide +kernel) rfl
theorem gw_180 : Cond.code yX1_init cX1_init 1 none ∈ lw_good := good_of (k := 180) (by decide +kernel) rfl
theorem gw_181 : Cond.methodLink RX1 3 objectInit ∈ lw_good := good_of (k := 181) (by decide +kernel) rfl
theorem gw_182 : Cond.classLink RX1 11 "[[I" ∈ lw_good := good_of (k := 182) (by decide +kernel) rfl
theorem gw_183 : Cond.fieldLink RX1 13 "ArmCounts$Debts" "owing" "[[I" ∈ lw_good := good_of (k := 183) (by decide +kernel) rfl
theorem gw_184 : Cond.fieldLink RX1 16 "ArmCounts$Debts" "ways" "[I" ∈ lw_good := good_of (k := 184) (by decide +kernel) rfl
theorem gw_185 : Cond.fieldLink RX1 20 "ArmCounts$Debts" "row" "[I" ∈ lw_good := good_of (k := 185) (by decide +kernel) rfl
theorem gw_186 : Cond.fieldLink RX1 23 "ArmCounts$Debts" "size" "I" ∈ lw_good := good_of (k := 186) (by decide +kernel) rfl
theorem gw_196 : Cond.classLink RX6 37 RX2 ∈ lw_good := good_of (k := 196) (by decide +kernel) rfl
theorem gw_197 : Cond.instantiable RX2 6 ∈ lw_good := good_of (k := 197) (by decide +kernel) rfl
theorem gw_198 : Cond.methodLink RX6 39 yX2_init ∈ lw_good := good_of (k := 198) (by decide +kernel) rfl
theorem gw_199 : Cond.instanceMethod yX2_init ∈ lw_good := good_of (k := 199) (by decide +kernel) rfl
theorem gw_200 : Cond.code yX2_init cX2_init 1 none ∈ lw_good := good_of (k := 200) (by decide +kernel) rfl
theorem gw_201 : Cond.methodLink RX2 3 objectInit ∈ lw_good := good_of (k := 201) (by decide +kernel) rfl
theorem gw_202 : Cond.classLink RX2 11 "[[I" ∈ lw_good := good_of (k := 202) (by decide +kernel) rfl
theorem gw_203 : Cond.fieldLink RX2 13 "ArmCounts$Lists" "words" "[[I" ∈ lw_good := good_of (k := 203) (by decide +kernel) rfl
theorem gw_204 : Cond.fieldLink RX2 16 "ArmCounts$Lists" "lengths" "[I" ∈ lw_good := good_of (k := 204) (by decide +kernel) rfl
theorem gw_205 : Cond.fieldLink RX2 20 "ArmCounts$Lists" "years" "[I" ∈ lw_good := good_of (k := 205) (by decide +kernel) rfl
theorem gw_206 : Cond.fieldLink RX2 23 "ArmCounts$Lists" "upper" "[I" ∈ lw_good := good_of (k := 206) (by decide +kernel) rfl
theorem gw_207 : Cond.fieldLink RX2 26 "ArmCounts$Lists" "lower" "[I" ∈ lw_good := good_of (k := 207) (by decide +kernel) rfl
theorem gw_208 : Cond.fieldLink RX2 29 "ArmCounts$Lists" "size" "I" ∈ lw_good := good_of (k := 208) (by decide +kernel) rfl
theorem gw_222 : Cond.classLink RX6 44 RX5 ∈ lw_good := good_of (k := 222) (by decide +kernel) rfl
theorem gw_223 : Cond.instantiable RX5 6 ∈ lw_good := good_of (k := 223) (by decide +kernel) rfl
theorem gw_224 : Cond.methodLink RX6 46 yX5_init ∈ lw_good := good_of (k := 224) (by decide +kernel) rfl
theorem gw_225 : Cond.instanceMethod yX5_init ∈ lw_good := good_of (k := 225) (by decide +kernel) rfl
theorem gw_226 : Cond.code yX5_init cX5_init 1 none ∈ lw_good := good_of (k := 226) (by decide +kernel) rfl
theorem gw_227 : Cond.methodLink RX5 3 objectInit ∈ lw_good := good_of (k := 227) (by decide +kernel) rfl
theorem gw_228 : Cond.fieldLink RX5 11 "ArmCounts$Speech" "bytes" "[I" ∈ lw_good := good_of (k := 228) (by decide +kernel) rfl
theorem gw_231 : Cond.fieldLink RX5 15 "ArmCounts$Speech" "stop" "I" ∈ lw_good := good_of (k := 231) (by decide +kernel) rfl
theorem gw_247 : Cond.fieldLink RX6 10 "ArmCounts" "sheets" "LArmCounts$Sheets;" ∈ lw_good := good_of (k := 247) (by decide +kernel) rfl
theorem gw_248 : Cond.fieldLink RX6 19 "ArmCounts" "counts" "LArmCounts$Counts;" ∈ lw_good := good_of (k := 248) (by decide +kernel) rfl
theorem gw_249 : Cond.fieldLink RX6 26 "ArmCounts" "riddle" "LArmCounts$Riddle;" ∈ lw_good := good_of (k := 249) (by decide +kernel) rfl
theorem gw_250 : Cond.fieldLink RX6 33 "ArmCounts" "debts" "LArmCounts$Debts;" ∈ lw_good := good_of (k := 250) (by decide +kernel) rfl
theorem gw_251 : Cond.fieldLink RX6 40 "ArmCounts" "lists" "LArmCounts$Lists;" ∈ lw_good := good_of (k := 251) (by decide +kernel) rfl
theorem gw_252 : Cond.fieldLink RX6 47 "ArmCounts" "text" "LArmCounts$Speech;" ∈ lw_good := good_of (k := 252) (by decide +kernel) rfl
theorem gw_1023 : Cond.classLink RL 10 RX7 ∈ lw_good := good_of (k := 1023) (by decide +kernel) rfl
theorem gw_1024 : Cond.instantiable RX7 32 ∈ lw_good := good_of (k := 1024) (by decide +kernel) rfl
theorem gw_1025 : Cond.methodLink RL 12 yX7_init ∈ lw_good := good_of (k := 1025) (by decide +kernel) rfl
theorem gw_1026 : Cond.instanceMethod yX7_init ∈ lw_good := good_of (k := 1026) (by decide +kernel) rfl
theorem gw_1027 : Cond.code yX7_init cX7_init 1 none ∈ lw_good := good_of (k := 1027) (by decide +kernel) rfl
theorem gw_1028 : Cond.methodLink RX7 1 objectInit ∈ lw_good := good_of (k := 1028) (by decide +kernel) rfl
theorem gw_1030 : Cond.fieldLink RX7 7 "ArmCountsModel" "words" "[I" ∈ lw_good := good_of (k := 1030) (by decide +kernel) rfl
theorem gw_1031 : Cond.fieldLink RX7 13 "ArmCountsModel" "sides" "[I" ∈ lw_good := good_of (k := 1031) (by decide +kernel) rfl
theorem gw_1032 : Cond.fieldLink RX7 16 "ArmCountsModel" "hasNose" "[Z" ∈ lw_good := good_of (k := 1032) (by decide +kernel) rfl
theorem gw_1033 : Cond.fieldLink RX7 20 "ArmCountsModel" "beginsOn" "[I" ∈ lw_good := good_of (k := 1033) (by decide +kernel) rfl
theorem gw_1034 : Cond.fieldLink RX7 23 "ArmCountsModel" "mat" "I" ∈ lw_good := good_of (k := 1034) (by decide +kernel) rfl
theorem gw_1036 : Cond.fieldLink RX7 27 "ArmCountsModel" "clueOf" "[I" ∈ lw_good := good_of (k := 1036) (by decide +kernel) rfl
theorem gw_1037 : Cond.fieldLink RX7 30 "ArmCountsModel" "tried" "[I" ∈ lw_good := good_of (k := 1037) (by decide +kernel) rfl
theorem gw_1038 : Cond.fieldLink RX7 33 "ArmCountsModel" "canHold" "[Z" ∈ lw_good := good_of (k := 1038) (by decide +kernel) rfl
theorem gw_1040 : Cond.fieldLink RX7 36 "ArmCountsModel" "speaks" "[I" ∈ lw_good := good_of (k := 1040) (by decide +kernel) rfl
theorem gw_1041 : Cond.fieldLink RX7 39 "ArmCountsModel" "owes" "[I" ∈ lw_good := good_of (k := 1041) (by decide +kernel) rfl
theorem gw_1042 : Cond.fieldLink RX7 42 "ArmCountsModel" "round" "[I" ∈ lw_good := good_of (k := 1042) (by decide +kernel) rfl
theorem gw_1044 : Cond.fieldLink RX7 45 "ArmCountsModel" "listMany" "[I" ∈ lw_good := good_of (k := 1044) (by decide +kernel) rfl
theorem gw_1045 : Cond.fieldLink RX7 48 "ArmCountsModel" "years" "[I" ∈ lw_good := good_of (k := 1045) (by decide +kernel) rfl
theorem gw_1046 : Cond.fieldLink RX7 51 "ArmCountsModel" "listed" "[I" ∈ lw_good := good_of (k := 1046) (by decide +kernel) rfl
theorem gw_1047 : Cond.fieldLink RX7 54 "ArmCountsModel" "costs" "[I" ∈ lw_good := good_of (k := 1047) (by decide +kernel) rfl
theorem gw_1051 : Cond.fieldLink RX7 57 "ArmCountsModel" "text" "[I" ∈ lw_good := good_of (k := 1051) (by decide +kernel) rfl
theorem gw_1055 : Cond.fieldLink RX7 60 "ArmCountsModel" "isThere" "[Z" ∈ lw_good := good_of (k := 1055) (by decide +kernel) rfl
theorem gw_1056 : Cond.fieldLink RX7 63 "ArmCountsModel" "forms" "[I" ∈ lw_good := good_of (k := 1056) (by decide +kernel) rfl
theorem gw_1057 : Cond.fieldLink RX7 66 "ArmCountsModel" "sizes" "[I" ∈ lw_good := good_of (k := 1057) (by decide +kernel) rfl
theorem gw_1058 : Cond.fieldLink RX7 69 "ArmCountsModel" "items" "[I" ∈ lw_good := good_of (k := 1058) (by decide +kernel) rfl
theorem gw_1059 : Cond.fieldLink RX7 72 "ArmCountsModel" "moved" "[I" ∈ lw_good := good_of (k := 1059) (by decide +kernel) rfl
theorem gw_1126 : Cond.arrayClass .boolean ∈ lw_good := good_of (k := 1126) (by decide +kernel) rfl
theorem dfX0 : ∀ j, j < 5 → defaultValue (tyX0 j) = vp_V [.null, .null, .null, .null, .int 0] j := by
  intro j hj
  rcases (show j = 0 ∨ j = 1 ∨ j = 2 ∨ j = 3 ∨ j = 4 by omega) with rfl | rfl | rfl | rfl | rfl <;> rfl
theorem giX0 : ∀ w ∈ u_ws RX0 TX0 5, w ∈ lw_good := good_ws inX0 (by decide +kernel)
theorem dfX1 : ∀ j, j < 4 → defaultValue (tyX1 j) = vp_V [.null, .null, .null, .int 0] j := by
  intro j hj
  rcases (show j = 0 ∨ j = 1 ∨ j = 2 ∨ j = 3 by omega) with rfl | rfl | rfl | rfl <;> rfl
theorem giX1 : ∀ w ∈ u_ws RX1 TX1 4, w ∈ lw_good := good_ws inX1 (by decide +kernel)
theorem dfX2 : ∀ j, j < 6 → defaultValue (tyX2 j) = vp_V [.null, .null, .null, .null, .null, .int 0] j := by
  intro j hj
  rcases (show j = 0 ∨ j = 1 ∨ j = 2 ∨ j = 3 ∨ j = 4 ∨ j = 5 by omega) with rfl | rfl | rfl | rfl | rfl | rfl <;> rfl
theorem giX2 : ∀ w ∈ u_ws RX2 TX2 6, w ∈ lw_good := good_ws inX2 (by decide +kernel)
theorem dfX3 : ∀ j, j < 7 → defaultValue (tyX3 j) = vp_V [.null, .null, .null, .null, .int 0, .int 0, .int 0] j := by
  intro j hj
  rcases (show j = 0 ∨ j = 1 ∨ j = 2 ∨ j = 3 ∨ j = 4 ∨ j = 5 ∨ j = 6 by omega) with rfl | rfl | rfl | rfl | rfl | rfl | rfl <;> rfl
theorem giX3 : ∀ w ∈ u_ws RX3 TX3 7, w ∈ lw_good := good_ws inX3 (by decide +kernel)
theorem dfX4 : ∀ j, j < 4 → defaultValue (tyX4 j) = vp_V [.null, .null, .null, .int 0] j := by
  intro j hj
  rcases (show j = 0 ∨ j = 1 ∨ j = 2 ∨ j = 3 by omega) with rfl | rfl | rfl | rfl <;> rfl
theorem giX4 : ∀ w ∈ u_ws RX4 TX4 4, w ∈ lw_good := good_ws inX4 (by decide +kernel)
theorem dfX5 : ∀ j, j < 6 → defaultValue (tyX5 j) = vp_V [.null, .int 0, .int 0, .int 0, .int 0, .int 0] j := by
  intro j hj
  rcases (show j = 0 ∨ j = 1 ∨ j = 2 ∨ j = 3 ∨ j = 4 ∨ j = 5 by omega) with rfl | rfl | rfl | rfl | rfl | rfl <;> rfl
theorem giX5 : ∀ w ∈ u_ws RX5 TX5 6, w ∈ lw_good := good_ws inX5 (by decide +kernel)
theorem dfX6 : ∀ j, j < 6 → defaultValue (tyX6 j) = vp_V [.null, .null, .null, .null, .null, .null] j := by
  intro j hj
  rcases (show j = 0 ∨ j = 1 ∨ j = 2 ∨ j = 3 ∨ j = 4 ∨ j = 5 by omega) with rfl | rfl | rfl | rfl | rfl | rfl <;> rfl
theorem giX6 : ∀ w ∈ u_ws RX6 TX6 6, w ∈ lw_good := good_ws inX6 (by decide +kernel)
theorem dfX7 : ∀ j, j < 32 → defaultValue (tyX7 j) = vp_V [.int 0, .null, .null, .null, .null, .int 0, .int 0, .null, .null, .null, .int 0, .null, .null, .null, .int 0, .null, .null, .null, .null, .int 0, .int 0, .int 0, .null, .int 0, .int 0, .int 0, .null, .null, .null, .null, .null, .int 0] j := by
  intro j hj
  rcases (show j = 0 ∨ j = 1 ∨ j = 2 ∨ j = 3 ∨ j = 4 ∨ j = 5 ∨ j = 6 ∨ j = 7 ∨ j = 8 ∨ j = 9 ∨ j = 10 ∨ j = 11 ∨ j = 12 ∨ j = 13 ∨ j = 14 ∨ j = 15 ∨ j = 16 ∨ j = 17 ∨ j = 18 ∨ j = 19 ∨ j = 20 ∨ j = 21 ∨ j = 22 ∨ j = 23 ∨ j = 24 ∨ j = 25 ∨ j = 26 ∨ j = 27 ∨ j = 28 ∨ j = 29 ∨ j = 30 ∨ j = 31 by omega) with rfl | rfl | rfl | rfl | rfl | rfl | rfl | rfl | rfl | rfl | rfl | rfl | rfl | rfl | rfl | rfl | rfl | rfl | rfl | rfl | rfl | rfl | rfl | rfl | rfl | rfl | rfl | rfl | rfl | rfl | rfl | rfl <;> rfl
theorem giX7 : ∀ w ∈ u_ws RX7 TX7 32, w ∈ lw_good := good_ws inX7 (by decide +kernel)
