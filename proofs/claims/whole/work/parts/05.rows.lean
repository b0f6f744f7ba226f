theorem nf_X6_88 : (Cond.fieldLinkNest "GoingAbout" 88 "GoingAbout$Standing" "near" "[I" "GoingAbout") ∈ nsL := List.mem_of_getElem? (i := 0) rfl
theorem nf_X4_79 : (Cond.fieldLinkNest "GoingAbout$Suburb" 79 "GoingAbout$Standing" "near" "[I" "GoingAbout") ∈ nsL := List.mem_of_getElem? (i := 1) rfl
theorem nf_X6_91 : (Cond.fieldLinkNest "GoingAbout" 91 "GoingAbout$Standing" "shows" "[I" "GoingAbout") ∈ nsL := List.mem_of_getElem? (i := 2) rfl
theorem nf_X4_82 : (Cond.fieldLinkNest "GoingAbout$Suburb" 82 "GoingAbout$Standing" "shows" "[I" "GoingAbout") ∈ nsL := List.mem_of_getElem? (i := 3) rfl
theorem nf_X6_104 : (Cond.fieldLinkNest "GoingAbout" 104 "GoingAbout$Standing" "day" "I" "GoingAbout") ∈ nsL := List.mem_of_getElem? (i := 4) rfl
theorem nf_X4_107 : (Cond.fieldLinkNest "GoingAbout$Suburb" 107 "GoingAbout$Standing" "day" "I" "GoingAbout") ∈ nsL := List.mem_of_getElem? (i := 5) rfl
theorem nf_X4_64 : (Cond.fieldLinkNest "GoingAbout$Suburb" 64 "GoingAbout$Law" "steps" "[I" "GoingAbout") ∈ nsL := List.mem_of_getElem? (i := 6) rfl
theorem nf_X4_67 : (Cond.fieldLinkNest "GoingAbout$Suburb" 67 "GoingAbout$Law" "size" "I" "GoingAbout") ∈ nsL := List.mem_of_getElem? (i := 7) rfl
theorem nf_X6_137 : (Cond.fieldLinkNest "GoingAbout" 137 "GoingAbout$Law" "size" "I" "GoingAbout") ∈ nsL := List.mem_of_getElem? (i := 8) rfl
theorem nf_X6_68 : (Cond.fieldLinkNest "GoingAbout" 68 "GoingAbout$Suburb" "people" "I" "GoingAbout") ∈ nsL := List.mem_of_getElem? (i := 9) rfl
theorem nf_X6_79 : (Cond.fieldLinkNest "GoingAbout" 79 "GoingAbout$Suburb" "kind" "[I" "GoingAbout") ∈ nsL := List.mem_of_getElem? (i := 10) rfl
theorem nf_X6_82 : (Cond.fieldLinkNest "GoingAbout" 82 "GoingAbout$Suburb" "m" "[I" "GoingAbout") ∈ nsL := List.mem_of_getElem? (i := 11) rfl
theorem nf_X6_94 : (Cond.fieldLinkNest "GoingAbout" 94 "GoingAbout$Suburb" "called" "[I" "GoingAbout") ∈ nsL := List.mem_of_getElem? (i := 12) rfl
theorem nf_X6_85 : (Cond.fieldLinkNest "GoingAbout" 85 "GoingAbout$Suburb" "standing" "LGoingAbout$Standing;" "GoingAbout") ∈ nsL := List.mem_of_getElem? (i := 13) rfl
theorem nf_X6_125 : (Cond.fieldLinkNest "GoingAbout" 125 "GoingAbout$Suburb" "tape" "[B" "GoingAbout") ∈ nsL := List.mem_of_getElem? (i := 14) rfl
theorem nf_X6_115 : (Cond.fieldLinkNest "GoingAbout" 115 "GoingAbout$Suburb" "taped" "I" "GoingAbout") ∈ nsL := List.mem_of_getElem? (i := 15) rfl
theorem nf_X6_253 : (Cond.fieldLinkNest "GoingAbout" 253 "GoingAbout$Suburb" "waits" "[I" "GoingAbout") ∈ nsL := List.mem_of_getElem? (i := 16) rfl
theorem nf_X6_250 : (Cond.fieldLinkNest "GoingAbout" 250 "GoingAbout$Suburb" "waiting" "I" "GoingAbout") ∈ nsL := List.mem_of_getElem? (i := 17) rfl
theorem nf_X6_156 : (Cond.fieldLinkNest "GoingAbout" 156 "GoingAbout$Suburb" "z" "I" "GoingAbout") ∈ nsL := List.mem_of_getElem? (i := 18) rfl
theorem nf_X6_214 : (Cond.fieldLinkNest "GoingAbout" 214 "GoingAbout$Voices" "trace" "[I" "GoingAbout") ∈ nsL := List.mem_of_getElem? (i := 19) rfl
theorem nf_X6_211 : (Cond.fieldLinkNest "GoingAbout" 211 "GoingAbout$Voices" "traced" "I" "GoingAbout") ∈ nsL := List.mem_of_getElem? (i := 20) rfl
theorem nf_X6_207 : (Cond.fieldLinkNest "GoingAbout" 207 "GoingAbout$Voices" "parted" "Z" "GoingAbout") ∈ nsL := List.mem_of_getElem? (i := 21) rfl
theorem nf_X6_224 : (Cond.fieldLinkNest "GoingAbout" 224 "GoingAbout$Sheet" "bits" "I" "GoingAbout") ∈ nsL := List.mem_of_getElem? (i := 22) rfl
theorem nf_X6_220 : (Cond.fieldLinkNest "GoingAbout" 220 "GoingAbout$Sheet" "size" "I" "GoingAbout") ∈ nsL := List.mem_of_getElem? (i := 23) rfl
theorem nf_X6_230 : (Cond.fieldLinkNest "GoingAbout" 230 "GoingAbout$Sheet" "numbers" "[I" "GoingAbout") ∈ nsL := List.mem_of_getElem? (i := 24) rfl
theorem nf_X5_43 : (Cond.fieldLinkNest "GoingAbout$Voices" 43 "GoingAbout" "ABOVE" "[I" "GoingAbout") ∈ nsL := List.mem_of_getElem? (i := 25) rfl
theorem nm_X4_30 : (Cond.methodLinkNest "GoingAbout$Suburb" 30 ⟨"GoingAbout$Law", "<init>", "(I)V"⟩ "GoingAbout") ∈ nsL := List.mem_of_getElem? (i := 26) rfl
theorem nm_X6_72 : (Cond.methodLinkNest "GoingAbout" 72 ⟨"GoingAbout$Suburb", "join", "(III)I"⟩ "GoingAbout") ∈ nsL := List.mem_of_getElem? (i := 27) rfl
theorem nm_X6_76 : (Cond.methodLinkNest "GoingAbout" 76 ⟨"GoingAbout$Suburb", "has", "(I)Z"⟩ "GoingAbout") ∈ nsL := List.mem_of_getElem? (i := 28) rfl
theorem nm_X6_107 : (Cond.methodLinkNest "GoingAbout" 107 ⟨"GoingAbout$Suburb", "takenBy", "(IIII)I"⟩ "GoingAbout") ∈ nsL := List.mem_of_getElem? (i := 29) rfl
theorem nm_X4_103 : (Cond.methodLinkNest "GoingAbout$Suburb" 103 ⟨"GoingAbout$Law", "gives", "(III)I"⟩ "GoingAbout") ∈ nsL := List.mem_of_getElem? (i := 30) rfl
theorem nm_X6_111 : (Cond.methodLinkNest "GoingAbout" 111 ⟨"GoingAbout$Suburb", "meet", "(II)I"⟩ "GoingAbout") ∈ nsL := List.mem_of_getElem? (i := 31) rfl
theorem nm_X6_118 : (Cond.methodLinkNest "GoingAbout" 118 ⟨"GoingAbout$Suburb", "record", "(JI)I"⟩ "GoingAbout") ∈ nsL := List.mem_of_getElem? (i := 32) rfl
theorem nm_X6_129 : (Cond.methodLinkNest "GoingAbout" 129 ⟨"GoingAbout$Suburb", "lawOf", "(I)LGoingAbout$Law;"⟩ "GoingAbout") ∈ nsL := List.mem_of_getElem? (i := 33) rfl
theorem nm_X6_133 : (Cond.methodLinkNest "GoingAbout" 133 ⟨"GoingAbout$Reading", "read", "([BIILGoingAbout$Law;)I"⟩ "GoingAbout") ∈ nsL := List.mem_of_getElem? (i := 34) rfl
theorem nm_X1_56 : (Cond.methodLinkNest "GoingAbout$Reading" 56 ⟨"GoingAbout$Law", "copy", "([II)V"⟩ "GoingAbout") ∈ nsL := List.mem_of_getElem? (i := 35) rfl
theorem nm_X6_142 : (Cond.methodLinkNest "GoingAbout" 142 ⟨"GoingAbout$Law", "gives", "(III)I"⟩ "GoingAbout") ∈ nsL := List.mem_of_getElem? (i := 36) rfl
theorem nm_X6_145 : (Cond.methodLinkNest "GoingAbout" 145 ⟨"GoingAbout$Suburb", "pass", "(LGoingAbout$Standing;)Z"⟩ "GoingAbout") ∈ nsL := List.mem_of_getElem? (i := 37) rfl
theorem nm_X6_149 : (Cond.methodLinkNest "GoingAbout" 149 ⟨"GoingAbout$Suburb", "drawMoves", "()V"⟩ "GoingAbout") ∈ nsL := List.mem_of_getElem? (i := 38) rfl
theorem nm_X6_152 : (Cond.methodLinkNest "GoingAbout" 152 ⟨"GoingAbout$Suburb", "nearestIn", "(LGoingAbout$Standing;)I"⟩ "GoingAbout") ∈ nsL := List.mem_of_getElem? (i := 39) rfl
theorem nm_X6_260 : (Cond.methodLinkNest "GoingAbout" 260 ⟨"GoingAbout$Standing", "copy", "(LGoingAbout$Standing;)V"⟩ "GoingAbout") ∈ nsL := List.mem_of_getElem? (i := 40) rfl
theorem nm_X6_163 : (Cond.methodLinkNest "GoingAbout" 163 ⟨"GoingAbout$Suburb", "countNearer", "(I)I"⟩ "GoingAbout") ∈ nsL := List.mem_of_getElem? (i := 41) rfl
theorem nm_X6_178 : (Cond.methodLinkNest "GoingAbout" 178 ⟨"GoingAbout$Suburb", "comeToFrom", "(I)I"⟩ "GoingAbout") ∈ nsL := List.mem_of_getElem? (i := 42) rfl
theorem nm_X6_181 : (Cond.methodLinkNest "GoingAbout" 181 ⟨"GoingAbout$Suburb", "countTakenNearer", "(I)I"⟩ "GoingAbout") ∈ nsL := List.mem_of_getElem? (i := 43) rfl
theorem nm_X6_190 : (Cond.methodLinkNest "GoingAbout" 190 ⟨"GoingAbout$Sheet", "isMissing", "()Z"⟩ "GoingAbout") ∈ nsL := List.mem_of_getElem? (i := 44) rfl
theorem nm_X6_203 : (Cond.methodLinkNest "GoingAbout" 203 ⟨"GoingAbout$Voices", "hear", "(IIIII)I"⟩ "GoingAbout") ∈ nsL := List.mem_of_getElem? (i := 45) rfl
theorem nm_X5_36 : (Cond.methodLinkNest "GoingAbout$Voices" 36 ⟨"GoingAbout", "isWithin", "(II)Z"⟩ "GoingAbout") ∈ nsL := List.mem_of_getElem? (i := 46) rfl
theorem nm_X6_217 : (Cond.methodLinkNest "GoingAbout" 217 ⟨"GoingAbout$Sheet", "lay", "(II)V"⟩ "GoingAbout") ∈ nsL := List.mem_of_getElem? (i := 47) rfl
theorem nm_X6_221 : (Cond.methodLinkNest "GoingAbout" 221 ⟨"GoingAbout$Sheet", "write", "(II)V"⟩ "GoingAbout") ∈ nsL := List.mem_of_getElem? (i := 48) rfl
theorem nm_X6_227 : (Cond.methodLinkNest "GoingAbout" 227 ⟨"GoingAbout$Sheet", "holds", "(II)Z"⟩ "GoingAbout") ∈ nsL := List.mem_of_getElem? (i := 49) rfl
theorem nm_X6_239 : (Cond.methodLinkNest "GoingAbout" 239 ⟨"GoingAbout$Suburb", "signOf", "(ILGoingAbout$Standing;)I"⟩ "GoingAbout") ∈ nsL := List.mem_of_getElem? (i := 50) rfl
theorem nm_X6_243 : (Cond.methodLinkNest "GoingAbout" 243 ⟨"GoingAbout$Suburb", "copy", "(LGoingAbout$Suburb;)V"⟩ "GoingAbout") ∈ nsL := List.mem_of_getElem? (i := 51) rfl
theorem nm_X4_60 : (Cond.methodLinkNest "GoingAbout$Suburb" 60 ⟨"GoingAbout$Standing", "copy", "(LGoingAbout$Standing;)V"⟩ "GoingAbout") ∈ nsL := List.mem_of_getElem? (i := 52) rfl
theorem nm_X4_70 : (Cond.methodLinkNest "GoingAbout$Suburb" 70 ⟨"GoingAbout$Law", "copy", "([II)V"⟩ "GoingAbout") ∈ nsL := List.mem_of_getElem? (i := 53) rfl
theorem kal_3 : Int32.ofNat 3 = 3 := by decide
theorem kal_60 : Int32.ofNat 60 = 60 := by decide
theorem kbp_10 : (Int8.ofInt (10)).toInt32 = 10 := by decide
theorem kbp_100 : (Int8.ofInt (100)).toInt32 = 100 := by decide
theorem kbp_103 : (Int8.ofInt (103)).toInt32 = 103 := by decide
theorem kbp_11 : (Int8.ofInt (11)).toInt32 = 11 := by decide
theorem kbp_110 : (Int8.ofInt (110)).toInt32 = 110 := by decide
theorem kbp_114 : (Int8.ofInt (114)).toInt32 = 114 := by decide
theorem kbp_115 : (Int8.ofInt (115)).toInt32 = 115 := by decide
theorem kbp_12 : (Int8.ofInt (12)).toInt32 = 12 := by decide
theorem kbp_124 : (Int8.ofInt (124)).toInt32 = 124 := by decide
theorem kbp_125 : (Int8.ofInt (125)).toInt32 = 125 := by decide
theorem kbp_13 : (Int8.ofInt (13)).toInt32 = 13 := by decide
theorem kbp_16 : (Int8.ofInt (16)).toInt32 = 16 := by decide
theorem kbp_20 : (Int8.ofInt (20)).toInt32 = 20 := by decide
theorem kbp_21 : (Int8.ofInt (21)).toInt32 = 21 := by decide
theorem kbp_24 : (Int8.ofInt (24)).toInt32 = 24 := by decide
theorem kbp_30 : (Int8.ofInt (30)).toInt32 = 30 := by decide
theorem kbp_32 : (Int8.ofInt (32)).toInt32 = 32 := by decide
theorem kbp_33 : (Int8.ofInt (33)).toInt32 = 33 := by decide
theorem kbp_37 : (Int8.ofInt (37)).toInt32 = 37 := by decide
theorem kbp_38 : (Int8.ofInt (38)).toInt32 = 38 := by decide
theorem kbp_40 : (Int8.ofInt (40)).toInt32 = 40 := by decide
theorem kbp_41 : (Int8.ofInt (41)).toInt32 = 41 := by decide
theorem kbp_42 : (Int8.ofInt (42)).toInt32 = 42 := by decide
theorem kbp_43 : (Int8.ofInt (43)).toInt32 = 43 := by decide
theorem kbp_45 : (Int8.ofInt (45)).toInt32 = 45 := by decide
theorem kbp_47 : (Int8.ofInt (47)).toInt32 = 47 := by decide
theorem kbp_48 : (Int8.ofInt (48)).toInt32 = 48 := by decide
theorem kbp_50 : (Int8.ofInt (50)).toInt32 = 50 := by decide
theorem kbp_51 : (Int8.ofInt (51)).toInt32 = 51 := by decide
theorem kbp_57 : (Int8.ofInt (57)).toInt32 = 57 := by decide
theorem kbp_6 : (Int8.ofInt (6)).toInt32 = 6 := by decide
theorem kbp_60 : (Int8.ofInt (60)).toInt32 = 60 := by decide
theorem kbp_61 : (Int8.ofInt (61)).toInt32 = 61 := by decide
theorem kbp_62 : (Int8.ofInt (62)).toInt32 = 62 := by decide
theorem kbp_63 : (Int8.ofInt (63)).toInt32 = 63 := by decide
theorem kbp_64 : (Int8.ofInt (64)).toInt32 = 64 := by decide
theorem kbp_69 : (Int8.ofInt (69)).toInt32 = 69 := by decide
theorem kbp_7 : (Int8.ofInt (7)).toInt32 = 7 := by decide
theorem kbp_70 : (Int8.ofInt (70)).toInt32 = 70 := by decide
theorem kbp_71 : (Int8.ofInt (71)).toInt32 = 71 := by decide
theorem kbp_8 : (Int8.ofInt (8)).toInt32 = 8 := by decide
theorem kbp_9 : (Int8.ofInt (9)).toInt32 = 9 := by decide
theorem kbp_90 : (Int8.ofInt (90)).toInt32 = 90 := by decide
theorem kbp_99 : (Int8.ofInt (99)).toInt32 = 99 := by decide
theorem kbp_m10 : (Int8.ofInt (-10)).toInt32 = -10 := by decide
theorem kbp_m2 : (Int8.ofInt (-2)).toInt32 = -2 := by decide
theorem kbp_m3 : (Int8.ofInt (-3)).toInt32 = -3 := by decide
theorem kbp_m33 : (Int8.ofInt (-33)).toInt32 = -33 := by decide
theorem kic_0 : Int32.ofInt (0) = 0 := by decide
theorem kic_1 : Int32.ofInt (1) = 1 := by decide
theorem kic_2 : Int32.ofInt (2) = 2 := by decide
theorem kic_3 : Int32.ofInt (3) = 3 := by decide
theorem kic_4 : Int32.ofInt (4) = 4 := by decide
theorem kic_5 : Int32.ofInt (5) = 5 := by decide
theorem kic_m1 : Int32.ofInt (-1) = -1 := by decide
theorem ksp_12345 : (Int16.ofInt (12345)).toInt32 = 12345 := by decide
theorem ksp_255 : (Int16.ofInt (255)).toInt32 = 255 := by decide
theorem ksp_298 : (Int16.ofInt (298)).toInt32 = 298 := by decide
theorem ksp_358 : (Int16.ofInt (358)).toInt32 = 358 := by decide
theorem ksp_382 : (Int16.ofInt (382)).toInt32 = 382 := by decide
theorem ksp_9999 : (Int16.ofInt (9999)).toInt32 = 9999 := by decide
theorem kb_J0_coder_7d493 : KB yJ0_coder_7d493 cJ0_coder_7d493 1 (some .byte) 0 := ⟨im_J0_coder_7d493, sel_J0_coder_7d493, ini_J0, cd_J0_coder_7d493, by decide +kernel⟩
theorem kb_J0_indexOf_0f7a4 : KB yJ0_indexOf_0f7a4 cJ0_indexOf_0f7a4 2 (some .int) 1 := ⟨im_J0_indexOf_0f7a4, sel_J0_indexOf_0f7a4, ini_J0, cd_J0_indexOf_0f7a4, by decide +kernel⟩
theorem kb_J0_indexOf_7cf53 : KB yJ0_indexOf_7cf53 cJ0_indexOf_7cf53 3 (some .int) 2 := ⟨im_J0_indexOf_7cf53, sel_J0_indexOf_7cf53, ini_J0, cd_J0_indexOf_7cf53, by decide +kernel⟩
theorem kb_J0_isLatin1_aae02 : KB yJ0_isLatin1_aae02 cJ0_isLatin1_aae02 1 (some .boolean) 0 := ⟨im_J0_isLatin1_aae02, sel_J0_isLatin1_aae02, ini_J0, cd_J0_isLatin1_aae02, by decide +kernel⟩
theorem kb_J0_length_8abf5 : KB yJ0_length_8abf5 cJ0_length_8abf5 1 (some .int) 0 := ⟨im_J0_length_8abf5, sel_J0_length_8abf5, ini_J0, cd_J0_length_8abf5, by decide +kernel⟩
theorem kb_J1_canEncode_9a6ad : KS yJ1_canEncode_9a6ad cJ1_canEncode_9a6ad 1 (some .boolean) 1 := ⟨st_J1_canEncode_9a6ad, ini_J1, cd_J1_canEncode_9a6ad, by decide +kernel⟩
theorem kb_J1_indexOfChar_4cfef : KS yJ1_indexOfChar_4cfef cJ1_indexOfChar_4cfef 6 (some .int) 4 := ⟨st_J1_indexOfChar_4cfef, ini_J1, cd_J1_indexOfChar_4cfef, by decide +kernel⟩
theorem kb_J1_indexOf_4cfef : KS yJ1_indexOf_4cfef cJ1_indexOf_4cfef 4 (some .int) 4 := ⟨st_J1_indexOf_4cfef, ini_J1, cd_J1_indexOf_4cfef, by decide +kernel⟩
theorem kb_J6_bitCount_0f7a4 : KS yJ6_bitCount_0f7a4 cJ6_bitCount_0f7a4 1 (some .int) 1 := ⟨st_J6_bitCount_0f7a4, ini_J6, cd_J6_bitCount_0f7a4, by decide +kernel⟩
theorem kb_X0_copy : KB yX0_copy cX0_copy 3 none 2 := ⟨im_X0_copy, sel_X0_copy, ini_X0, cd_X0_copy, by decide +kernel⟩
theorem kb_X0_gives : KB yX0_gives cX0_gives 7 (some .int) 3 := ⟨im_X0_gives, sel_X0_gives, ini_X0, cd_X0_gives, by decide +kernel⟩
theorem kb_X0_joined : KS yX0_joined cX0_joined 3 (some .int) 3 := ⟨st_X0_joined, ini_X0, cd_X0_joined, by decide +kernel⟩
theorem kb_X0_named : KS yX0_named cX0_named 4 (some .int) 4 := ⟨st_X0_named, ini_X0, cd_X0_named, by decide +kernel⟩
theorem kb_X1_isDigit : KS yX1_isDigit cX1_isDigit 1 (some .boolean) 1 := ⟨st_X1_isDigit, ini_X1, cd_X1_isDigit, by decide +kernel⟩
theorem kb_X1_levelOf : KS yX1_levelOf cX1_levelOf 1 (some .int) 1 := ⟨st_X1_levelOf, ini_X1, cd_X1_levelOf, by decide +kernel⟩
theorem kb_X1_read : KB yX1_read cX1_read 5 (some .int) 4 := ⟨im_X1_read, sel_X1_read, ini_X1, cd_X1_read, by decide +kernel⟩
theorem kb_X1_readClosing : KB yX1_readClosing cX1_readClosing 1 (some .boolean) 0 := ⟨im_X1_readClosing, sel_X1_readClosing, ini_X1, cd_X1_readClosing, by decide +kernel⟩
theorem kb_X1_readInner : KB yX1_readInner cX1_readInner 5 (some .boolean) 1 := ⟨im_X1_readInner, sel_X1_readInner, ini_X1, cd_X1_readInner, by decide +kernel⟩
theorem kb_X1_readLevel : KB yX1_readLevel cX1_readLevel 5 (some .boolean) 2 := ⟨im_X1_readLevel, sel_X1_readLevel, ini_X1, cd_X1_readLevel, by decide +kernel⟩
theorem kb_X1_readNumber : KB yX1_readNumber cX1_readNumber 3 (some .boolean) 0 := ⟨im_X1_readNumber, sel_X1_readNumber, ini_X1, cd_X1_readNumber, by decide +kernel⟩
theorem kb_X1_step : KB yX1_step cX1_step 2 none 1 := ⟨im_X1_step, sel_X1_step, ini_X1, cd_X1_step, by decide +kernel⟩
theorem kb_X2_holds : KB yX2_holds cX2_holds 3 (some .boolean) 2 := ⟨im_X2_holds, sel_X2_holds, ini_X2, cd_X2_holds, by decide +kernel⟩
theorem kb_X2_isMissing : KB yX2_isMissing cX2_isMissing 1 (some .boolean) 0 := ⟨im_X2_isMissing, sel_X2_isMissing, ini_X2, cd_X2_isMissing, by decide +kernel⟩
theorem kb_X2_lay : KB yX2_lay cX2_lay 4 none 2 := ⟨im_X2_lay, sel_X2_lay, ini_X2, cd_X2_lay, by decide +kernel⟩
theorem kb_X2_write : KB yX2_write cX2_write 3 none 2 := ⟨im_X2_write, sel_X2_write, ini_X2, cd_X2_write, by decide +kernel⟩
theorem kb_X3_copy : KB yX3_copy cX3_copy 2 none 1 := ⟨im_X3_copy, sel_X3_copy, ini_X3, cd_X3_copy, by decide +kernel⟩
theorem kb_X4_comeToFrom : KB yX4_comeToFrom cX4_comeToFrom 5 (some .int) 1 := ⟨im_X4_comeToFrom, sel_X4_comeToFrom, ini_X4, cd_X4_comeToFrom, by decide +kernel⟩
theorem kb_X4_copy : KB yX4_copy cX4_copy 2 none 1 := ⟨im_X4_copy, sel_X4_copy, ini_X4, cd_X4_copy, by decide +kernel⟩
theorem kb_X4_countNearer : KB yX4_countNearer cX4_countNearer 4 (some .int) 1 := ⟨im_X4_countNearer, sel_X4_countNearer, ini_X4, cd_X4_countNearer, by decide +kernel⟩
theorem kb_X4_countTakenNearer : KB yX4_countTakenNearer cX4_countTakenNearer 4 (some .int) 1 := ⟨im_X4_countTakenNearer, sel_X4_countTakenNearer, ini_X4, cd_X4_countTakenNearer, by decide +kernel⟩
theorem kb_X4_draw : KB yX4_draw cX4_draw 1 (some .int) 0 := ⟨im_X4_draw, sel_X4_draw, ini_X4, cd_X4_draw, by decide +kernel⟩
theorem kb_X4_drawMoves : KB yX4_drawMoves cX4_drawMoves 4 none 0 := ⟨im_X4_drawMoves, sel_X4_drawMoves, ini_X4, cd_X4_drawMoves, by decide +kernel⟩
theorem kb_X4_has : KB yX4_has cX4_has 2 (some .boolean) 1 := ⟨im_X4_has, sel_X4_has, ini_X4, cd_X4_has, by decide +kernel⟩
theorem kb_X4_join : KB yX4_join cX4_join 5 (some .int) 3 := ⟨im_X4_join, sel_X4_join, ini_X4, cd_X4_join, by decide +kernel⟩
theorem kb_X4_lawOf : KB yX4_lawOf cX4_lawOf 2 (some (.object "GoingAbout$Law")) 1 := ⟨im_X4_lawOf, sel_X4_lawOf, ini_X4, cd_X4_lawOf, by decide +kernel⟩
theorem kb_X4_meet : KB yX4_meet cX4_meet 4 (some .int) 2 := ⟨im_X4_meet, sel_X4_meet, ini_X4, cd_X4_meet, by decide +kernel⟩
theorem kb_X4_nearAfter : KB yX4_nearAfter cX4_nearAfter 5 (some .int) 2 := ⟨im_X4_nearAfter, sel_X4_nearAfter, ini_X4, cd_X4_nearAfter, by decide +kernel⟩
theorem kb_X4_nearestIn : KB yX4_nearestIn cX4_nearestIn 4 (some .int) 1 := ⟨im_X4_nearestIn, sel_X4_nearestIn, ini_X4, cd_X4_nearestIn, by decide +kernel⟩
theorem kb_X4_pass : KB yX4_pass cX4_pass 6 (some .boolean) 1 := ⟨im_X4_pass, sel_X4_pass, ini_X4, cd_X4_pass, by decide +kernel⟩
theorem kb_X4_readsOf : KS yX4_readsOf cX4_readsOf 6 (some .int) 5 := ⟨st_X4_readsOf, ini_X4, cd_X4_readsOf, by decide +kernel⟩
theorem kb_X4_record : KB yX4_record cX4_record 5 (some .int) 2 := ⟨im_X4_record, sel_X4_record, ini_X4, cd_X4_record, by decide +kernel⟩
theorem kb_X4_signOf : KB yX4_signOf cX4_signOf 4 (some .int) 2 := ⟨im_X4_signOf, sel_X4_signOf, ini_X4, cd_X4_signOf, by decide +kernel⟩
theorem kb_X4_takenBy : KB yX4_takenBy cX4_takenBy 5 (some .int) 4 := ⟨im_X4_takenBy, sel_X4_takenBy, ini_X4, cd_X4_takenBy, by decide +kernel⟩
theorem kb_X4_tellsOf : KS yX4_tellsOf cX4_tellsOf 5 (some .int) 4 := ⟨st_X4_tellsOf, ini_X4, cd_X4_tellsOf, by decide +kernel⟩
theorem kb_X5_hear : KB yX5_hear cX5_hear 6 (some .int) 5 := ⟨im_X5_hear, sel_X5_hear, ini_X5, cd_X5_hear, by decide +kernel⟩
theorem kb_X5_part : KB yX5_part cX5_part 3 (some .int) 1 := ⟨im_X5_part, sel_X5_part, ini_X5, cd_X5_part, by decide +kernel⟩
theorem kb_X5_partAndStir : KB yX5_partAndStir cX5_partAndStir 5 (some .int) 3 := ⟨im_X5_partAndStir, sel_X5_partAndStir, ini_X5, cd_X5_partAndStir, by decide +kernel⟩
theorem kb_X5_speak : KB yX5_speak cX5_speak 7 (some .int) 4 := ⟨im_X5_speak, sel_X5_speak, ini_X5, cd_X5_speak, by decide +kernel⟩
theorem kb_X5_workOut : KB yX5_workOut cX5_workOut 5 (some .int) 4 := ⟨im_X5_workOut, sel_X5_workOut, ini_X5, cd_X5_workOut, by decide +kernel⟩
theorem kb_X6_as : KB yX6_as cX6_as 3 (some .int) 2 := ⟨im_X6_as, sel_X6_as, ini_X6, cd_X6_as, by decide +kernel⟩
theorem kb_X6_become : KB yX6_become cX6_become 4 (some .int) 2 := ⟨im_X6_become, sel_X6_become, ini_X6, cd_X6_become, by decide +kernel⟩
theorem kb_X6_began : KB yX6_began cX6_began 9 (some .int) 3 := ⟨im_X6_began, sel_X6_began, ini_X6, cd_X6_began, by decide +kernel⟩
theorem kb_X6_body : KB yX6_body cX6_body 2 (some .int) 1 := ⟨im_X6_body, sel_X6_body, ini_X6, cd_X6_body, by decide +kernel⟩
theorem kb_X6_call : KB yX6_call cX6_call 3 (some .int) 2 := ⟨im_X6_call, sel_X6_call, ini_X6, cd_X6_call, by decide +kernel⟩
theorem kb_X6_check : KB yX6_check cX6_check 3 (some .int) 0 := ⟨im_X6_check, sel_X6_check, ini_X6, cd_X6_check, by decide +kernel⟩
theorem kb_X6_commonDivisor : KS yX6_commonDivisor cX6_commonDivisor 6 (some .int) 2 := ⟨st_X6_commonDivisor, ini_X6, cd_X6_commonDivisor, by decide +kernel⟩
theorem kb_X6_count : KB yX6_count cX6_count 2 (some .int) 1 := ⟨im_X6_count, sel_X6_count, ini_X6, cd_X6_count, by decide +kernel⟩
theorem kb_X6_days : KB yX6_days cX6_days 3 (some .int) 1 := ⟨im_X6_days, sel_X6_days, ini_X6, cd_X6_days, by decide +kernel⟩
theorem kb_X6_error : KB yX6_error cX6_error 2 (some .int) 1 := ⟨im_X6_error, sel_X6_error, ini_X6, cd_X6_error, by decide +kernel⟩
theorem kb_X6_feed : KB yX6_feed cX6_feed 4 (some .int) 2 := ⟨im_X6_feed, sel_X6_feed, ini_X6, cd_X6_feed, by decide +kernel⟩
theorem kb_X6_fewestFor : KB yX6_fewestFor cX6_fewestFor 5 (some .int) 1 := ⟨im_X6_fewestFor, sel_X6_fewestFor, ini_X6, cd_X6_fewestFor, by decide +kernel⟩
theorem kb_X6_fits : KB yX6_fits cX6_fits 3 (some .int) 1 := ⟨im_X6_fits, sel_X6_fits, ini_X6, cd_X6_fits, by decide +kernel⟩
theorem kb_X6_heard : KB yX6_heard cX6_heard 2 (some .int) 1 := ⟨im_X6_heard, sel_X6_heard, ini_X6, cd_X6_heard, by decide +kernel⟩
theorem kb_X6_image : KB yX6_image cX6_image 1 (some .int) 0 := ⟨im_X6_image, sel_X6_image, ini_X6, cd_X6_image, by decide +kernel⟩
theorem kb_X6_isKind : KS yX6_isKind cX6_isKind 1 (some .boolean) 1 := ⟨st_X6_isKind, ini_X6, cd_X6_isKind, by decide +kernel⟩
theorem kb_X6_isNear : KS yX6_isNear cX6_isNear 1 (some .boolean) 1 := ⟨st_X6_isNear, ini_X6, cd_X6_isNear, by decide +kernel⟩
theorem kb_X6_isSheet : KS yX6_isSheet cX6_isSheet 1 (some .boolean) 1 := ⟨st_X6_isSheet, ini_X6, cd_X6_isSheet, by decide +kernel⟩
theorem kb_X6_isSign : KS yX6_isSign cX6_isSign 1 (some .boolean) 1 := ⟨st_X6_isSign, ini_X6, cd_X6_isSign, by decide +kernel⟩
theorem kb_X6_isUnder : KS yX6_isUnder cX6_isUnder 4 (some .boolean) 2 := ⟨st_X6_isUnder, ini_X6, cd_X6_isUnder, by decide +kernel⟩
theorem kb_X6_isUse : KS yX6_isUse cX6_isUse 1 (some .boolean) 1 := ⟨st_X6_isUse, ini_X6, cd_X6_isUse, by decide +kernel⟩
theorem kb_X6_isWithin : KS yX6_isWithin cX6_isWithin 2 (some .boolean) 2 := ⟨st_X6_isWithin, ini_X6, cd_X6_isWithin, by decide +kernel⟩
theorem kb_X6_judge : KB yX6_judge cX6_judge 4 (some .int) 1 := ⟨im_X6_judge, sel_X6_judge, ini_X6, cd_X6_judge, by decide +kernel⟩
theorem kb_X6_law : KB yX6_law cX6_law 5 (some .int) 4 := ⟨im_X6_law, sel_X6_law, ini_X6, cd_X6_law, by decide +kernel⟩
theorem kb_X6_loose : KB yX6_loose cX6_loose 3 (some .int) 1 := ⟨im_X6_loose, sel_X6_loose, ini_X6, cd_X6_loose, by decide +kernel⟩
theorem kb_X6_move : KB yX6_move cX6_move 8 (some .int) 5 := ⟨im_X6_move, sel_X6_move, ini_X6, cd_X6_move, by decide +kernel⟩
theorem kb_X6_nearIfSigned : KB yX6_nearIfSigned cX6_nearIfSigned 3 (some .int) 2 := ⟨im_X6_nearIfSigned, sel_X6_nearIfSigned, ini_X6, cd_X6_nearIfSigned, by decide +kernel⟩
theorem kb_X6_nearest : KB yX6_nearest cX6_nearest 2 (some .int) 1 := ⟨im_X6_nearest, sel_X6_nearest, ini_X6, cd_X6_nearest, by decide +kernel⟩
theorem kb_X6_nearestIfSigned : KB yX6_nearestIfSigned cX6_nearestIfSigned 4 (some .int) 1 := ⟨im_X6_nearestIfSigned, sel_X6_nearestIfSigned, ini_X6, cd_X6_nearestIfSigned, by decide +kernel⟩
theorem kb_X6_nears : KB yX6_nears cX6_nears 4 (some .int) 1 := ⟨im_X6_nears, sel_X6_nears, ini_X6, cd_X6_nears, by decide +kernel⟩
theorem kb_X6_odds : KB yX6_odds cX6_odds 6 (some .int) 2 := ⟨im_X6_odds, sel_X6_odds, ini_X6, cd_X6_odds, by decide +kernel⟩
theorem kb_X6_person : KB yX6_person cX6_person 4 (some .int) 3 := ⟨im_X6_person, sel_X6_person, ini_X6, cd_X6_person, by decide +kernel⟩
theorem kb_X6_personIs : KB yX6_personIs cX6_personIs 3 (some .int) 2 := ⟨im_X6_personIs, sel_X6_personIs, ini_X6, cd_X6_personIs, by decide +kernel⟩
theorem kb_X6_put : KB yX6_put cX6_put 4 (some .int) 3 := ⟨im_X6_put, sel_X6_put, ini_X6, cd_X6_put, by decide +kernel⟩
theorem kb_X6_rank : KB yX6_rank cX6_rank 2 (some .int) 1 := ⟨im_X6_rank, sel_X6_rank, ini_X6, cd_X6_rank, by decide +kernel⟩
theorem kb_X6_restore : KB yX6_restore cX6_restore 1 (some .int) 0 := ⟨im_X6_restore, sel_X6_restore, ini_X6, cd_X6_restore, by decide +kernel⟩
theorem kb_X6_seed : KB yX6_seed cX6_seed 3 (some .int) 1 := ⟨im_X6_seed, sel_X6_seed, ini_X6, cd_X6_seed, by decide +kernel⟩
theorem kb_X6_seems : KB yX6_seems cX6_seems 4 (some .int) 2 := ⟨im_X6_seems, sel_X6_seems, ini_X6, cd_X6_seems, by decide +kernel⟩
theorem kb_X6_settles : KB yX6_settles cX6_settles 2 (some .int) 0 := ⟨im_X6_settles, sel_X6_settles, ini_X6, cd_X6_settles, by decide +kernel⟩
theorem kb_X6_sheet : KB yX6_sheet cX6_sheet 4 (some .int) 3 := ⟨im_X6_sheet, sel_X6_sheet, ini_X6, cd_X6_sheet, by decide +kernel⟩
theorem kb_X6_shows : KB yX6_shows cX6_shows 4 (some .int) 2 := ⟨im_X6_shows, sel_X6_shows, ini_X6, cd_X6_shows, by decide +kernel⟩
theorem kb_X6_signs : KB yX6_signs cX6_signs 6 (some .int) 4 := ⟨im_X6_signs, sel_X6_signs, ini_X6, cd_X6_signs, by decide +kernel⟩
theorem kb_X6_taken : KB yX6_taken cX6_taken 4 (some .int) 2 := ⟨im_X6_taken, sel_X6_taken, ini_X6, cd_X6_taken, by decide +kernel⟩
theorem kb_X6_tell : KB yX6_tell cX6_tell 2 (some .int) 1 := ⟨im_X6_tell, sel_X6_tell, ini_X6, cd_X6_tell, by decide +kernel⟩
theorem kb_X6_tellsMixed : KB yX6_tellsMixed cX6_tellsMixed 4 (some .boolean) 2 := ⟨im_X6_tellsMixed, sel_X6_tellsMixed, ini_X6, cd_X6_tellsMixed, by decide +kernel⟩
theorem kb_X6_text : KB yX6_text cX6_text 3 (some .int) 1 := ⟨im_X6_text, sel_X6_text, ini_X6, cd_X6_text, by decide +kernel⟩
theorem kb_X6_then : KB yX6_then cX6_then 4 (some .int) 3 := ⟨im_X6_then, sel_X6_then, ini_X6, cd_X6_then, by decide +kernel⟩
theorem kb_X6_think : KB yX6_think cX6_think 3 none 1 := ⟨im_X6_think, sel_X6_think, ini_X6, cd_X6_think, by decide +kernel⟩
theorem kb_X6_thinkSigned : KB yX6_thinkSigned cX6_thinkSigned 4 none 2 := ⟨im_X6_thinkSigned, sel_X6_thinkSigned, ini_X6, cd_X6_thinkSigned, by decide +kernel⟩
theorem kb_X6_told : KB yX6_told cX6_told 2 (some .int) 1 := ⟨im_X6_told, sel_X6_told, ini_X6, cd_X6_told, by decide +kernel⟩
theorem kb_X6_untell : KB yX6_untell cX6_untell 4 (some .int) 1 := ⟨im_X6_untell, sel_X6_untell, ini_X6, cd_X6_untell, by decide +kernel⟩
theorem kb_X6_voice : KB yX6_voice cX6_voice 5 (some .int) 3 := ⟨im_X6_voice, sel_X6_voice, ini_X6, cd_X6_voice, by decide +kernel⟩
theorem kb_X7_aDay : KB yX7_aDay cX7_aDay 2 none 0 := ⟨im_X7_aDay, sel_X7_aDay, ini_X7, cd_X7_aDay, by decide +kernel⟩
theorem kb_X7_above : KS yX7_above cX7_above 1 (some .int) 1 := ⟨st_X7_above, ini_X7, cd_X7_above, by decide +kernel⟩
theorem kb_X7_areNearSo : KB yX7_areNearSo cX7_areNearSo 4 (some .boolean) 1 := ⟨im_X7_areNearSo, sel_X7_areNearSo, ini_X7, cd_X7_areNearSo, by decide +kernel⟩
theorem kb_X7_areTwo : KB yX7_areTwo cX7_areTwo 3 (some .boolean) 2 := ⟨im_X7_areTwo, sel_X7_areTwo, ini_X7, cd_X7_areTwo, by decide +kernel⟩
theorem kb_X7_as : KB yX7_as cX7_as 4 (some .int) 2 := ⟨im_X7_as, sel_X7_as, ini_X7, cd_X7_as, by decide +kernel⟩
theorem kb_X7_become : KB yX7_become cX7_become 3 (some .int) 2 := ⟨im_X7_become, sel_X7_become, ini_X7, cd_X7_become, by decide +kernel⟩
theorem kb_X7_began : KB yX7_began cX7_began 9 (some .int) 3 := ⟨im_X7_began, sel_X7_began, ini_X7, cd_X7_began, by decide +kernel⟩
theorem kb_X7_body : KB yX7_body cX7_body 2 (some .int) 1 := ⟨im_X7_body, sel_X7_body, ini_X7, cd_X7_body, by decide +kernel⟩
theorem kb_X7_both : KB yX7_both cX7_both 1 (some .boolean) 0 := ⟨im_X7_both, sel_X7_both, ini_X7, cd_X7_both, by decide +kernel⟩
theorem kb_X7_call : KB yX7_call cX7_call 3 (some .int) 2 := ⟨im_X7_call, sel_X7_call, ini_X7, cd_X7_call, by decide +kernel⟩
theorem kb_X7_calls : KB yX7_calls cX7_calls 4 (some .int) 2 := ⟨im_X7_calls, sel_X7_calls, ini_X7, cd_X7_calls, by decide +kernel⟩
theorem kb_X7_callsAs : KB yX7_callsAs cX7_callsAs 3 (some .int) 2 := ⟨im_X7_callsAs, sel_X7_callsAs, ini_X7, cd_X7_callsAs, by decide +kernel⟩
theorem kb_X7_change1 : KB yX7_change1 cX7_change1 4 (some .int) 2 := ⟨im_X7_change1, sel_X7_change1, ini_X7, cd_X7_change1, by decide +kernel⟩
theorem kb_X7_check : KB yX7_check cX7_check 3 (some .int) 0 := ⟨im_X7_check, sel_X7_check, ini_X7, cd_X7_check, by decide +kernel⟩
theorem kb_X7_compared : KB yX7_compared cX7_compared 2 (some .boolean) 0 := ⟨im_X7_compared, sel_X7_compared, ini_X7, cd_X7_compared, by decide +kernel⟩
theorem kb_X7_copyAll : KS yX7_copyAll cX7_copyAll 3 none 2 := ⟨st_X7_copyAll, ini_X7, cd_X7_copyAll, by decide +kernel⟩
theorem kb_X7_count : KB yX7_count cX7_count 2 (some .int) 1 := ⟨im_X7_count, sel_X7_count, ini_X7, cd_X7_count, by decide +kernel⟩
theorem kb_X7_days : KB yX7_days cX7_days 3 (some .int) 1 := ⟨im_X7_days, sel_X7_days, ini_X7, cd_X7_days, by decide +kernel⟩
theorem kb_X7_divisor : KS yX7_divisor cX7_divisor 5 (some .int) 2 := ⟨st_X7_divisor, ini_X7, cd_X7_divisor, by decide +kernel⟩
theorem kb_X7_doesLead : KB yX7_doesLead cX7_doesLead 6 (some .boolean) 4 := ⟨im_X7_doesLead, sel_X7_doesLead, ini_X7, cd_X7_doesLead, by decide +kernel⟩
theorem kb_X7_draw : KB yX7_draw cX7_draw 1 (some .int) 0 := ⟨im_X7_draw, sel_X7_draw, ini_X7, cd_X7_draw, by decide +kernel⟩
theorem kb_X7_errands : KB yX7_errands cX7_errands 5 none 0 := ⟨im_X7_errands, sel_X7_errands, ini_X7, cd_X7_errands, by decide +kernel⟩
theorem kb_X7_error : KB yX7_error cX7_error 2 (some .int) 1 := ⟨im_X7_error, sel_X7_error, ini_X7, cd_X7_error, by decide +kernel⟩
theorem kb_X7_feed : KB yX7_feed cX7_feed 5 (some .int) 2 := ⟨im_X7_feed, sel_X7_feed, ini_X7, cd_X7_feed, by decide +kernel⟩
theorem kb_X7_findThen : KB yX7_findThen cX7_findThen 4 none 0 := ⟨im_X7_findThen, sel_X7_findThen, ini_X7, cd_X7_findThen, by decide +kernel⟩
theorem kb_X7_fits : KB yX7_fits cX7_fits 4 (some .int) 1 := ⟨im_X7_fits, sel_X7_fits, ini_X7, cd_X7_fits, by decide +kernel⟩
theorem kb_X7_goes : KB yX7_goes cX7_goes 3 none 1 := ⟨im_X7_goes, sel_X7_goes, ini_X7, cd_X7_goes, by decide +kernel⟩
theorem kb_X7_hasText : KB yX7_hasText cX7_hasText 2 (some .boolean) 1 := ⟨im_X7_hasText, sel_X7_hasText, ini_X7, cd_X7_hasText, by decide +kernel⟩
theorem kb_X7_heard : KB yX7_heard cX7_heard 5 (some .int) 1 := ⟨im_X7_heard, sel_X7_heard, ini_X7, cd_X7_heard, by decide +kernel⟩
theorem kb_X7_held : KS yX7_held cX7_held 3 (some .int) 3 := ⟨st_X7_held, ini_X7, cd_X7_held, by decide +kernel⟩
theorem kb_X7_image : KB yX7_image cX7_image 1 (some .int) 0 := ⟨im_X7_image, sel_X7_image, ini_X7, cd_X7_image, by decide +kernel⟩
theorem kb_X7_in : KS yX7_in cX7_in 3 (some .boolean) 3 := ⟨st_X7_in, ini_X7, cd_X7_in, by decide +kernel⟩
theorem kb_X7_isKind : KS yX7_isKind cX7_isKind 1 (some .boolean) 1 := ⟨st_X7_isKind, ini_X7, cd_X7_isKind, by decide +kernel⟩
theorem kb_X7_isName : KB yX7_isName cX7_isName 2 (some .boolean) 1 := ⟨im_X7_isName, sel_X7_isName, ini_X7, cd_X7_isName, by decide +kernel⟩
theorem kb_X7_isPerson : KB yX7_isPerson cX7_isPerson 2 (some .boolean) 1 := ⟨im_X7_isPerson, sel_X7_isPerson, ini_X7, cd_X7_isPerson, by decide +kernel⟩
theorem kb_X7_isSettled : KB yX7_isSettled cX7_isSettled 3 (some .boolean) 0 := ⟨im_X7_isSettled, sel_X7_isSettled, ini_X7, cd_X7_isSettled, by decide +kernel⟩
theorem kb_X7_isSheet : KS yX7_isSheet cX7_isSheet 1 (some .boolean) 1 := ⟨st_X7_isSheet, ini_X7, cd_X7_isSheet, by decide +kernel⟩
theorem kb_X7_isSoBy : KB yX7_isSoBy cX7_isSoBy 6 (some .boolean) 4 := ⟨im_X7_isSoBy, sel_X7_isSoBy, ini_X7, cd_X7_isSoBy, by decide +kernel⟩
theorem kb_X7_its : KB yX7_its cX7_its 3 (some .int) 2 := ⟨im_X7_its, sel_X7_its, ini_X7, cd_X7_its, by decide +kernel⟩
theorem kb_X7_joined : KS yX7_joined cX7_joined 3 (some .int) 3 := ⟨st_X7_joined, ini_X7, cd_X7_joined, by decide +kernel⟩
theorem kb_X7_judge : KB yX7_judge cX7_judge 4 (some .int) 1 := ⟨im_X7_judge, sel_X7_judge, ini_X7, cd_X7_judge, by decide +kernel⟩
theorem kb_X7_kindNow : KB yX7_kindNow cX7_kindNow 1 (some .int) 0 := ⟨im_X7_kindNow, sel_X7_kindNow, ini_X7, cd_X7_kindNow, by decide +kernel⟩
theorem kb_X7_lacks : KB yX7_lacks cX7_lacks 2 (some .int) 1 := ⟨im_X7_lacks, sel_X7_lacks, ini_X7, cd_X7_lacks, by decide +kernel⟩
theorem kb_X7_law : KB yX7_law cX7_law 5 (some .int) 4 := ⟨im_X7_law, sel_X7_law, ini_X7, cd_X7_law, by decide +kernel⟩
theorem kb_X7_layBack : KB yX7_layBack cX7_layBack 2 none 0 := ⟨im_X7_layBack, sel_X7_layBack, ini_X7, cd_X7_layBack, by decide +kernel⟩
theorem kb_X7_layDown : KB yX7_layDown cX7_layDown 2 none 0 := ⟨im_X7_layDown, sel_X7_layDown, ini_X7, cd_X7_layDown, by decide +kernel⟩
theorem kb_X7_lays1 : KB yX7_lays1 cX7_lays1 4 none 3 := ⟨im_X7_lays1, sel_X7_lays1, ini_X7, cd_X7_lays1, by decide +kernel⟩
theorem kb_X7_look : KB yX7_look cX7_look 1 (some .int) 0 := ⟨im_X7_look, sel_X7_look, ini_X7, cd_X7_look, by decide +kernel⟩
theorem kb_X7_loose : KB yX7_loose cX7_loose 4 (some .int) 1 := ⟨im_X7_loose, sel_X7_loose, ini_X7, cd_X7_loose, by decide +kernel⟩
theorem kb_X7_mNow : KB yX7_mNow cX7_mNow 1 (some .int) 0 := ⟨im_X7_mNow, sel_X7_mNow, ini_X7, cd_X7_mNow, by decide +kernel⟩
theorem kb_X7_manyIn : KS yX7_manyIn cX7_manyIn 3 (some .int) 1 := ⟨st_X7_manyIn, ini_X7, cd_X7_manyIn, by decide +kernel⟩
theorem kb_X7_move : KB yX7_move cX7_move 7 (some .int) 5 := ⟨im_X7_move, sel_X7_move, ini_X7, cd_X7_move, by decide +kernel⟩
theorem kb_X7_nearest : KB yX7_nearest cX7_nearest 3 (some .int) 1 := ⟨im_X7_nearest, sel_X7_nearest, ini_X7, cd_X7_nearest, by decide +kernel⟩
theorem kb_X7_nearestNow : KB yX7_nearestNow cX7_nearestNow 3 (some .int) 0 := ⟨im_X7_nearestNow, sel_X7_nearestNow, ini_X7, cd_X7_nearestNow, by decide +kernel⟩
theorem kb_X7_nears : KB yX7_nears cX7_nears 4 (some .int) 1 := ⟨im_X7_nears, sel_X7_nears, ini_X7, cd_X7_nears, by decide +kernel⟩
theorem kb_X7_odds : KB yX7_odds cX7_odds 6 (some .int) 2 := ⟨im_X7_odds, sel_X7_odds, ini_X7, cd_X7_odds, by decide +kernel⟩
theorem kb_X7_one : KB yX7_one cX7_one 4 (some .boolean) 0 := ⟨im_X7_one, sel_X7_one, ini_X7, cd_X7_one, by decide +kernel⟩
theorem kb_X7_opens : KB yX7_opens cX7_opens 1 (some .boolean) 0 := ⟨im_X7_opens, sel_X7_opens, ini_X7, cd_X7_opens, by decide +kernel⟩
theorem kb_X7_partsAs : KB yX7_partsAs cX7_partsAs 5 (some .int) 2 := ⟨im_X7_partsAs, sel_X7_partsAs, ini_X7, cd_X7_partsAs, by decide +kernel⟩
theorem kb_X7_person : KB yX7_person cX7_person 5 (some .int) 3 := ⟨im_X7_person, sel_X7_person, ini_X7, cd_X7_person, by decide +kernel⟩
theorem kb_X7_personIs : KB yX7_personIs cX7_personIs 3 (some .int) 2 := ⟨im_X7_personIs, sel_X7_personIs, ini_X7, cd_X7_personIs, by decide +kernel⟩
theorem kb_X7_product : KB yX7_product cX7_product 2 (some .boolean) 0 := ⟨im_X7_product, sel_X7_product, ini_X7, cd_X7_product, by decide +kernel⟩
theorem kb_X7_put : KB yX7_put cX7_put 5 (some .int) 3 := ⟨im_X7_put, sel_X7_put, ini_X7, cd_X7_put, by decide +kernel⟩
theorem kb_X7_rank : KB yX7_rank cX7_rank 4 (some .int) 1 := ⟨im_X7_rank, sel_X7_rank, ini_X7, cd_X7_rank, by decide +kernel⟩
theorem kb_X7_readsOf : KB yX7_readsOf cX7_readsOf 5 (some .int) 2 := ⟨im_X7_readsOf, sel_X7_readsOf, ini_X7, cd_X7_readsOf, by decide +kernel⟩
theorem kb_X7_restore : KB yX7_restore cX7_restore 1 (some .int) 0 := ⟨im_X7_restore, sel_X7_restore, ini_X7, cd_X7_restore, by decide +kernel⟩
theorem kb_X7_seed : KB yX7_seed cX7_seed 2 (some .int) 1 := ⟨im_X7_seed, sel_X7_seed, ini_X7, cd_X7_seed, by decide +kernel⟩
theorem kb_X7_seems : KB yX7_seems cX7_seems 3 (some .int) 2 := ⟨im_X7_seems, sel_X7_seems, ini_X7, cd_X7_seems, by decide +kernel⟩
theorem kb_X7_settles : KB yX7_settles cX7_settles 2 (some .int) 0 := ⟨im_X7_settles, sel_X7_settles, ini_X7, cd_X7_settles, by decide +kernel⟩
theorem kb_X7_sheet : KB yX7_sheet cX7_sheet 5 (some .int) 3 := ⟨im_X7_sheet, sel_X7_sheet, ini_X7, cd_X7_sheet, by decide +kernel⟩
theorem kb_X7_shows : KB yX7_shows cX7_shows 3 (some .int) 2 := ⟨im_X7_shows, sel_X7_shows, ini_X7, cd_X7_shows, by decide +kernel⟩
theorem kb_X7_sighsAs : KB yX7_sighsAs cX7_sighsAs 3 (some .int) 2 := ⟨im_X7_sighsAs, sel_X7_sighsAs, ini_X7, cd_X7_sighsAs, by decide +kernel⟩
theorem kb_X7_signOf : KB yX7_signOf cX7_signOf 2 (some .int) 1 := ⟨im_X7_signOf, sel_X7_signOf, ini_X7, cd_X7_signOf, by decide +kernel⟩
theorem kb_X7_signTold : KB yX7_signTold cX7_signTold 4 (some .int) 3 := ⟨im_X7_signTold, sel_X7_signTold, ini_X7, cd_X7_signTold, by decide +kernel⟩
theorem kb_X7_signs : KB yX7_signs cX7_signs 8 (some .int) 4 := ⟨im_X7_signs, sel_X7_signs, ini_X7, cd_X7_signs, by decide +kernel⟩
theorem kb_X7_starts : KB yX7_starts cX7_starts 2 none 1 := ⟨im_X7_starts, sel_X7_starts, ini_X7, cd_X7_starts, by decide +kernel⟩
theorem kb_X7_step1 : KB yX7_step1 cX7_step1 3 none 2 := ⟨im_X7_step1, sel_X7_step1, ini_X7, cd_X7_step1, by decide +kernel⟩
theorem kb_X7_stirsAs : KB yX7_stirsAs cX7_stirsAs 3 (some .int) 2 := ⟨im_X7_stirsAs, sel_X7_stirsAs, ini_X7, cd_X7_stirsAs, by decide +kernel⟩
theorem kb_X7_sum : KB yX7_sum cX7_sum 2 (some .boolean) 0 := ⟨im_X7_sum, sel_X7_sum, ini_X7, cd_X7_sum, by decide +kernel⟩
theorem kb_X7_taken : KB yX7_taken cX7_taken 3 (some .int) 2 := ⟨im_X7_taken, sel_X7_taken, ini_X7, cd_X7_taken, by decide +kernel⟩
theorem kb_X7_takes : KB yX7_takes cX7_takes 3 (some .int) 2 := ⟨im_X7_takes, sel_X7_takes, ini_X7, cd_X7_takes, by decide +kernel⟩
theorem kb_X7_takesTold : KB yX7_takesTold cX7_takesTold 4 (some .int) 3 := ⟨im_X7_takesTold, sel_X7_takesTold, ini_X7, cd_X7_takesTold, by decide +kernel⟩
theorem kb_X7_tell : KB yX7_tell cX7_tell 2 (some .int) 1 := ⟨im_X7_tell, sel_X7_tell, ini_X7, cd_X7_tell, by decide +kernel⟩
theorem kb_X7_tellsOf : KB yX7_tellsOf cX7_tellsOf 4 (some .int) 1 := ⟨im_X7_tellsOf, sel_X7_tellsOf, ini_X7, cd_X7_tellsOf, by decide +kernel⟩
theorem kb_X7_text : KB yX7_text cX7_text 5 (some .int) 1 := ⟨im_X7_text, sel_X7_text, ini_X7, cd_X7_text, by decide +kernel⟩
theorem kb_X7_then : KB yX7_then cX7_then 5 (some .int) 3 := ⟨im_X7_then, sel_X7_then, ini_X7, cd_X7_then, by decide +kernel⟩
theorem kb_X7_told : KB yX7_told cX7_told 2 (some .int) 1 := ⟨im_X7_told, sel_X7_told, ini_X7, cd_X7_told, by decide +kernel⟩
theorem kb_X7_untell : KB yX7_untell cX7_untell 3 (some .int) 1 := ⟨im_X7_untell, sel_X7_untell, ini_X7, cd_X7_untell, by decide +kernel⟩
theorem kb_X7_voice : KB yX7_voice cX7_voice 6 (some .int) 3 := ⟨im_X7_voice, sel_X7_voice, ini_X7, cd_X7_voice, by decide +kernel⟩
theorem kb_X7_whole : KB yX7_whole cX7_whole 1 (some .boolean) 0 := ⟨im_X7_whole, sel_X7_whole, ini_X7, cd_X7_whole, by decide +kernel⟩
theorem kb_X7_whyNot : KB yX7_whyNot cX7_whyNot 3 (some .int) 2 := ⟨im_X7_whyNot, sel_X7_whyNot, ini_X7, cd_X7_whyNot, by decide +kernel⟩
theorem kb_X7_worked : KB yX7_worked cX7_worked 7 (some .int) 1 := ⟨im_X7_worked, sel_X7_worked, ini_X7, cd_X7_worked, by decide +kernel⟩
def wd_law0 (G : Gt) (b : Nat → Nat) (people taped waiting z : Int32) : va_W := [(b 0, .inr (4, [.int people, .ref (b 1), .ref (b 2), .ref (b 3), .ref (b 4), .ref (b 7), .ref (b 10), .ref (b 13), .int taped, .ref (b 14), .int waiting, .int z]))]
theorem c_X4_lawOf (l : Launch) (G : Gt) (b : Nat → Nat) (people taped waiting z : Int32) (p1 : Int32) : CR l G yX4_lawOf (.code yX4_lawOf cX4_lawOf 2 (some (.object "GoingAbout$Law")) :: wsG) (rmm 0 0) [.ref (b 0), .int p1] (wd_law0 G b people taped waiting z) (fun a => (p1 = 1 → a = b 10) ∧ (¬ p1 = 1 → a = b 7)) := by
  refine cr_intro (by decide) rfl rfl (Nat.le_of_ble_eq_true rfl) ?_
  intro p e s m args below meth c A H ls Q C hW hS hl ret
  have hx := C.1.1
  have hb := C.1.2.1
  have hl : lv_has ls 2 [(0, .ref (b 0)), (1, .int p1)] := hl
  refine lv_iload_n hx hb dX4_lawOf_0 rfl (lv_at hl 1 rfl) ?_
  refine lv_iconst (v := 1) hx hb dX4_lawOf_1 kic_1 ?_
  refine lv_icmp_ne (tgt := 12) hx hb dX4_lawOf_2 (by decide) (fun c_1 => ?_) (fun c_1 => ?_)
  · refine lv_aload_n hx hb dX4_lawOf_12 rfl (lv_at hl 0 rfl) ?_
    refine q_get C kc4 hW 0 rfl 5 (by decide) fl_X4_33 rfl rfl dX4_lawOf_13 ?_
    exact ret (b 7) H [] ls _ hW hS ⟨fun h => absurd h c_1, fun _ => rfl⟩ dX4_lawOf_16
  · refine lv_aload_n hx hb dX4_lawOf_5 rfl (lv_at hl 0 rfl) ?_
    refine q_get C kc4 hW 0 rfl 6 (by decide) fl_X4_37 rfl rfl dX4_lawOf_6 ?_
    refine lv_goto (tgt := 16) hx hb dX4_lawOf_9 (by decide) ?_
    exact ret (b 10) H [] ls _ hW hS ⟨fun _ => rfl, fun h => absurd c_1 h⟩ dX4_lawOf_16
def f_index (k : Nat) (c : Int32) : Int32 := if c = f_str k 0 then 0 else if c = f_str k 1 then 1 else if c = f_str k 2 then 2 else -1
