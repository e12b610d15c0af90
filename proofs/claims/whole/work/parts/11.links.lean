theorem bp_m9 : (Int8.ofInt (-9)).toInt32 = (-9) := by decide
theorem bp_m6 : (Int8.ofInt (-6)).toInt32 = (-6) := by decide
theorem bp_m4 : (Int8.ofInt (-4)).toInt32 = (-4) := by decide
theorem bp_m3 : (Int8.ofInt (-3)).toInt32 = (-3) := by decide
theorem bp_m2 : (Int8.ofInt (-2)).toInt32 = (-2) := by decide
theorem bp_6 : (Int8.ofInt 6).toInt32 = 6 := by decide
theorem bp_7 : (Int8.ofInt 7).toInt32 = 7 := by decide
theorem bp_8 : (Int8.ofInt 8).toInt32 = 8 := by decide
theorem bp_9 : (Int8.ofInt 9).toInt32 = 9 := by decide
theorem bp_10 : (Int8.ofInt 10).toInt32 = 10 := by decide
theorem bp_11 : (Int8.ofInt 11).toInt32 = 11 := by decide
theorem bp_12 : (Int8.ofInt 12).toInt32 = 12 := by decide
theorem bp_16 : (Int8.ofInt 16).toInt32 = 16 := by decide
theorem bp_20 : (Int8.ofInt 20).toInt32 = 20 := by decide
theorem bp_30 : (Int8.ofInt 30).toInt32 = 30 := by decide
theorem bp_31 : (Int8.ofInt 31).toInt32 = 31 := by decide
theorem bp_32 : (Int8.ofInt 32).toInt32 = 32 := by decide
theorem bp_48 : (Int8.ofInt 48).toInt32 = 48 := by decide
theorem bp_57 : (Int8.ofInt 57).toInt32 = 57 := by decide
theorem bp_59 : (Int8.ofInt 59).toInt32 = 59 := by decide
theorem bp_63 : (Int8.ofInt 63).toInt32 = 63 := by decide
theorem bp_79 : (Int8.ofInt 79).toInt32 = 79 := by decide
theorem bp_89 : (Int8.ofInt 89).toInt32 = 89 := by decide
theorem bp_90 : (Int8.ofInt 90).toInt32 = 90 := by decide
theorem bp_96 : (Int8.ofInt 96).toInt32 = 96 := by decide
theorem bp_99 : (Int8.ofInt 99).toInt32 = 99 := by decide
theorem bp_100 : (Int8.ofInt 100).toInt32 = 100 := by decide
theorem ic_m16 : Int32.ofInt (-16) = (-16) := by decide
theorem ic_m8 : Int32.ofInt (-8) = (-8) := by decide
theorem ic_m4 : Int32.ofInt (-4) = (-4) := by decide
theorem ic_m2 : Int32.ofInt (-2) = (-2) := by decide
theorem ic_m1 : Int32.ofInt (-1) = (-1) := by decide
theorem ic_0 : Int32.ofInt 0 = 0 := by decide
theorem ic_1 : Int32.ofInt 1 = 1 := by decide
theorem ic_2 : Int32.ofInt 2 = 2 := by decide
theorem ic_3 : Int32.ofInt 3 = 3 := by decide
theorem ic_4 : Int32.ofInt 4 = 4 := by decide
theorem ic_5 : Int32.ofInt 5 = 5 := by decide
theorem ic_8 : Int32.ofInt 8 = 8 := by decide
theorem ic_16 : Int32.ofInt 16 = 16 := by decide
theorem sp_m2000 : (Int16.ofInt (-2000)).toInt32 = (-2000) := by decide
theorem sp_m1000 : (Int16.ofInt (-1000)).toInt32 = (-1000) := by decide
theorem sp_255 : (Int16.ofInt 255).toInt32 = 255 := by decide
theorem sp_256 : (Int16.ofInt 256).toInt32 = 256 := by decide
theorem sp_999 : (Int16.ofInt 999).toInt32 = 999 := by decide
theorem sp_9999 : (Int16.ofInt 9999).toInt32 = 9999 := by decide
theorem lc_0 : Int64.ofNat ((0 : Fin 2) : Nat) = 0 := by decide
theorem lc_1 : Int64.ofNat ((1 : Fin 2) : Nat) = 1 := by decide
theorem km_0_9 : mlk 0 9 = some (9, 1, 1, eX0_held) := rfl
theorem km_0_15 : mlk 0 15 = some (15, 1, 1, eX0_nearestTen) := rfl
theorem km_0_18 : mlk 0 18 = some (18, 5, 2, eJ6_bitCount_0f7a4) := rfl
theorem km_1_9 : mlk 1 9 = some (9, 1, 2, eX1_elders) := rfl
theorem km_1_54 : mlk 1 54 = some (54, 0, 1, eX3_hasKey) := rfl
theorem km_1_15 : mlk 1 15 = some (15, 1, 1, eJ6_bitCount_0f7a4) := rfl
theorem km_1_21 : mlk 1 21 = some (21, 1, 1, eJ6_numberOfTrailingZeros_0f7a4) := rfl
theorem km_1_24 : mlk 1 24 = some (24, 1, 2, eX1_childBits) := rfl
theorem km_1_41 : mlk 1 41 = some (41, 1, 1, eJ6_numberOfLeadingZeros_0f7a4) := rfl
theorem km_1_44 : mlk 1 44 = some (44, 1, 2, eX1_heirsOf) := rfl
theorem km_1_47 : mlk 1 47 = some (47, 0, 0, eX3_openingBits) := rfl
theorem km_1_51 : mlk 1 51 = some (51, 0, 1, eX3_leastWiggleOf) := rfl
theorem km_1_37 : mlk 1 37 = some (37, 2, 2, eX5_holds) := rfl
theorem km_2_60 : mlk 2 60 = some (60, 0, 2, eX2_takeKey) := rfl
theorem km_2_28 : mlk 2 28 = some (28, 3, 5, eJ6_bitCount_0f7a4) := rfl
theorem km_2_64 : mlk 2 64 = some (64, 0, 2, eX2_cutCopyBy) := rfl
theorem km_2_46 : mlk 2 46 = some (46, 0, 2, eX2_cutCopy) := rfl
theorem km_2_34 : mlk 2 34 = some (34, 1, 4, eX0_cutHeight) := rfl
theorem km_2_67 : mlk 2 67 = some (67, 0, 1, eX3_wiggleOf) := rfl
theorem km_2_71 : mlk 2 71 = some (71, 0, 1, eX3_fits) := rfl
theorem km_2_75 : mlk 2 75 = some (75, 0, 1, eX3_leastTooFar) := rfl
theorem km_2_78 : mlk 2 78 = some (78, 0, 3, eX2_opensWorn) := rfl
theorem km_2_82 : mlk 2 82 = some (82, 1, 2, eX3_wornHeight) := rfl
theorem km_2_89 : mlk 2 89 = some (89, 1, 2, eX3_wornPin) := rfl
theorem km_2_92 : mlk 2 92 = some (92, 6, 1, eJ6_bitCount_0f7a4) := rfl
theorem km_2_105 : mlk 2 105 = some (105, 0, 2, eX2_pinAnew) := rfl
theorem km_2_101 : mlk 2 101 = some (101, 0, 3, eX2_wholeKeysWithin) := rfl
theorem km_2_109 : mlk 2 109 = some (109, 0, 3, eX2_teethWithin) := rfl
theorem km_2_113 : mlk 2 113 = some (113, 0, 3, eX2_middleHeight) := rfl
theorem km_2_123 : mlk 2 123 = some (123, 1, 1, eJ6_bitCount_0f7a4) := rfl
theorem km_2_116 : mlk 2 116 = some (116, 1, 1, eX0_codeOf) := rfl
theorem km_2_128 : mlk 2 128 = some (128, 0, 3, eX2_codeOfSet) := rfl
theorem km_2_131 : mlk 2 131 = some (131, 0, 0, eX3_snappedBits) := rfl
theorem km_2_135 : mlk 2 135 = some (135, 0, 0, eX3_allKeysBits) := rfl
theorem km_2_138 : mlk 2 138 = some (138, 0, 2, eX2_isEnough) := rfl
theorem km_2_142 : mlk 2 142 = some (142, 0, 1, eX3_opens) := rfl
theorem km_2_146 : mlk 2 146 = some (146, 0, 5, eX2_lastCopyFits) := rfl
theorem km_2_154 : mlk 2 154 = some (154, 0, 5, eX2_isSteady) := rfl
theorem km_2_157 : mlk 2 157 = some (157, 0, 5, eX2_cutTwice) := rfl
theorem km_2_161 : mlk 2 161 = some (161, 0, 3, eX3_cutBy) := rfl
theorem km_2_165 : mlk 2 165 = some (165, 0, 5, eX2_cutsSo) := rfl
theorem km_2_169 : mlk 2 169 = some (169, 0, 1, eX2_drawBelow) := rfl
theorem km_2_119 : mlk 2 119 = some (119, 2, 2, eX5_holds) := rfl
theorem km_2_150 : mlk 2 150 = some (150, 2, 2, eX5_power) := rfl
theorem km_3_52 : mlk 3 52 = some (52, 3, 5, eJ6_bitCount_0f7a4) := rfl
theorem km_3_58 : mlk 3 58 = some (58, 0, 1, eX3_hasKey) := rfl
theorem km_3_62 : mlk 3 62 = some (62, 0, 1, eX3_hasMachine) := rfl
theorem km_3_65 : mlk 3 65 = some (65, 0, 1, eX3_addKey) := rfl
theorem km_3_69 : mlk 3 69 = some (69, 0, 3, eX3_cutBy) := rfl
theorem km_3_73 : mlk 3 73 = some (73, 1, 4, eX0_cutHeight) := rfl
theorem km_3_79 : mlk 3 79 = some (79, 1, 2, eX3_wornHeight) := rfl
theorem km_3_86 : mlk 3 86 = some (86, 4, 2, eJ6_bitCount_0f7a4) := rfl
theorem km_3_83 : mlk 3 83 = some (83, 1, 2, eX3_wornPin) := rfl
theorem km_3_91 : mlk 3 91 = some (91, 0, 1, eX3_fits) := rfl
theorem km_3_95 : mlk 3 95 = some (95, 0, 1, eX3_leastTooFar) := rfl
theorem km_3_99 : mlk 3 99 = some (99, 6, 1, eJ6_bitCount_0f7a4) := rfl
theorem km_3_102 : mlk 3 102 = some (102, 0, 1, eX3_opens) := rfl
theorem km_3_105 : mlk 3 105 = some (105, 0, 0, eX3_allKeysBits) := rfl
theorem km_3_109 : mlk 3 109 = some (109, 0, 0, eX3_snappedBits) := rfl
theorem km_3_112 : mlk 3 112 = some (112, 0, 1, eX3_leastWiggleOf) := rfl
theorem km_3_119 : mlk 3 119 = some (119, 0, 1, eX3_wiggleOf) := rfl
theorem km_3_115 : mlk 3 115 = some (115, 2, 2, eX5_holds) := rfl
theorem km_4_19 : mlk 4 19 = some (19, 1, 1, eX4_shapeBehind) := rfl
theorem km_4_23 : mlk 4 23 = some (23, 0, 0, eJ0_isEmpty_aae02) := rfl
theorem km_4_29 : mlk 4 29 = some (29, 0, 0, eJ0_length_8abf5) := rfl
theorem km_4_33 : mlk 4 33 = some (33, 0, 1, eJ0_charAt_5068e) := rfl
theorem km_4_37 : mlk 4 37 = some (37, 1, 2, eX4_fitsShape) := rfl
theorem km_4_122 : mlk 4 122 = some (122, 0, 1, eJ0_indexOf_0f7a4) := rfl
theorem km_4_41 : mlk 4 41 = some (41, 0, 2, eX4_happens) := rfl
theorem km_4_45 : mlk 4 45 = some (45, 0, 1, eX4_digitAt) := rfl
theorem km_4_49 : mlk 4 49 = some (49, 0, 1, eX4_letterAt) := rfl
theorem km_4_110 : mlk 4 110 = some (110, 5, 2, eJ6_bitCount_0f7a4) := rfl
theorem km_4_115 : mlk 4 115 = some (115, 4, 2, eJ6_bitCount_0f7a4) := rfl
theorem km_4_57 : mlk 4 57 = some (57, 0, 2, eX4_readFive) := rfl
theorem km_4_79 : mlk 4 79 = some (79, 0, 1, eX4_twoDigitsAt) := rfl
theorem km_4_61 : mlk 4 61 = some (61, 0, 2, eX4_keyComes) := rfl
theorem km_4_92 : mlk 4 92 = some (92, 0, 1, eX3_addKey) := rfl
theorem km_4_64 : mlk 4 64 = some (64, 0, 1, eX4_kindAt) := rfl
theorem km_4_67 : mlk 4 67 = some (67, 0, 2, eX3_addMachine) := rfl
theorem km_4_71 : mlk 4 71 = some (71, 0, 1, eX3_hasWholeKey) := rfl
theorem km_4_75 : mlk 4 75 = some (75, 0, 2, eX3_addCopy) := rfl
theorem km_4_82 : mlk 4 82 = some (82, 1, 3, eX4_isUsed) := rfl
theorem km_4_102 : mlk 4 102 = some (102, 0, 2, eX3_wear) := rfl
theorem km_4_89 : mlk 4 89 = some (89, 1, 2, eX4_isSnapped) := rfl
theorem km_5_51 : mlk 5 51 = some (51, 0, 1, eX5_refuse) := rfl
theorem km_5_55 : mlk 5 55 = some (55, 0, 0, eX4_isFull) := rfl
theorem km_5_59 : mlk 5 59 = some (59, 0, 1, eX4_take) := rfl
theorem km_5_62 : mlk 5 62 = some (62, 0, 0, eX4_misshapenPlace) := rfl
theorem km_5_66 : mlk 5 66 = some (66, 0, 1, eX3_becomes) := rfl
theorem km_5_70 : mlk 5 70 = some (70, 0, 1, eX4_happenIn) := rfl
theorem km_5_74 : mlk 5 74 = some (74, 0, 0, eX4_forget) := rfl
theorem km_5_77 : mlk 5 77 = some (77, 1, 1, eX5_isTooth) := rfl
theorem km_5_84 : mlk 5 84 = some (84, 0, 1, eX3_hasKey) := rfl
theorem km_5_98 : mlk 5 98 = some (98, 0, 1, eX3_opens) := rfl
theorem km_5_101 : mlk 5 101 = some (101, 0, 1, eX3_wiggleOf) := rfl
theorem km_5_105 : mlk 5 105 = some (105, 0, 1, eX3_worstTooth) := rfl
theorem km_5_108 : mlk 5 108 = some (108, 0, 1, eX3_hasMachine) := rfl
theorem km_5_111 : mlk 5 111 = some (111, 1, 1, eX5_isZeroOrOne) := rfl
theorem km_5_120 : mlk 5 120 = some (120, 1, 3, eX5_outside) := rfl
theorem km_5_130 : mlk 5 130 = some (130, 0, 2, eX3_addCopy) := rfl
theorem km_5_137 : mlk 5 137 = some (137, 0, 2, eX3_wear) := rfl
theorem km_5_141 : mlk 5 141 = some (141, 0, 0, eX3_snappedBits) := rfl
theorem km_5_144 : mlk 5 144 = some (144, 1, 1, eJ6_bitCount_0f7a4) := rfl
theorem km_5_149 : mlk 5 149 = some (149, 0, 0, eX3_openingBits) := rfl
theorem km_5_152 : mlk 5 152 = some (152, 1, 2, eX1_depthOf) := rfl
theorem km_5_158 : mlk 5 158 = some (158, 1, 2, eX1_rootOf) := rfl
theorem km_5_161 : mlk 5 161 = some (161, 1, 2, eX1_childrenOf) := rfl
theorem km_5_164 : mlk 5 164 = some (164, 1, 2, eX1_heirsOf) := rfl
theorem km_5_167 : mlk 5 167 = some (167, 1, 3, eX1_commonOf) := rfl
theorem km_5_171 : mlk 5 171 = some (171, 0, 0, eX3_nearestKey) := rfl
theorem km_5_174 : mlk 5 174 = some (174, 0, 2, eX2_bestNext) := rfl
theorem km_5_178 : mlk 5 178 = some (178, 0, 3, eX2_copiesThatOpen) := rfl
theorem km_5_181 : mlk 5 181 = some (181, 0, 3, eX2_toothThatGoesFirst) := rfl
theorem km_5_184 : mlk 5 184 = some (184, 0, 2, eX2_usesTillShut) := rfl
theorem km_5_187 : mlk 5 187 = some (187, 6, 1, eJ6_bitCount_0f7a4) := rfl
theorem km_5_192 : mlk 5 192 = some (192, 0, 1, eX2_openAnew) := rfl
theorem km_5_195 : mlk 5 195 = some (195, 0, 2, eX2_pinAnew) := rfl
theorem km_5_198 : mlk 5 198 = some (198, 0, 0, eX3_allKeysBits) := rfl
theorem km_5_201 : mlk 5 201 = some (201, 0, 3, eX2_codeOfSet) := rfl
theorem km_5_204 : mlk 5 204 = some (204, 0, 3, eX2_unlikeTeeth) := rfl
theorem km_5_208 : mlk 5 208 = some (208, 0, 2, eX2_lessByMending) := rfl
theorem km_5_211 : mlk 5 211 = some (211, 1, 2, eX1_openHeirsOf) := rfl
theorem km_5_214 : mlk 5 214 = some (214, 1, 1, eX1_bestRoot) := rfl
theorem km_5_217 : mlk 5 217 = some (217, 1, 2, eX1_whomToAsk) := rfl
theorem km_5_220 : mlk 5 220 = some (220, 0, 1, eX2_fewestEnough) := rfl
theorem km_5_225 : mlk 5 225 = some (225, 0, 5, eX2_waysToOpen) := rfl
theorem km_5_229 : mlk 5 229 = some (229, 1, 2, eX5_power) := rfl
theorem km_5_233 : mlk 5 233 = some (233, 1, 2, eX5_greatestDivisor) := rfl
theorem km_5_237 : mlk 5 237 = some (237, 7, 2, eJ6_bitCount_0f7a4) := rfl
theorem km_5_240 : mlk 5 240 = some (240, 0, 3, eX2_steadyPair) := rfl
theorem km_5_243 : mlk 5 243 = some (243, 0, 3, eX2_machinesThatCut) := rfl
theorem km_5_247 : mlk 5 247 = some (247, 0, 4, eX2_kindsThatCut) := rfl
theorem km_5_251 : mlk 5 251 = some (251, 0, 1, eX5_firstToldWrong) := rfl
theorem km_5_257 : mlk 5 257 = some (257, 0, 4, eX2_drawLots) := rfl
theorem km_5_261 : mlk 5 261 = some (261, 0, 0, eX4_size) := rfl
theorem km_6_35 : mlk 6 35 = some (35, 0, 1, eX6_no) := rfl
theorem km_6_132 : mlk 6 132 = some (132, 0, 0, eX6_readsStatement) := rfl
theorem km_6_101 : mlk 6 101 = some (101, 0, 0, eX6_here) := rfl
theorem km_6_111 : mlk 6 111 = some (111, 0, 0, eX6_readsFive) := rfl
theorem km_6_107 : mlk 6 107 = some (107, 0, 2, eX6_readsNumber) := rfl
theorem km_6_41 : mlk 6 41 = some (41, 1, 3, eX6_isIn) := rfl
theorem km_6_114 : mlk 6 114 = some (114, 0, 0, eX6_readsKind) := rfl
theorem km_6_104 : mlk 6 104 = some (104, 1, 1, eX6_kindBy) := rfl
theorem km_6_135 : mlk 6 135 = some (135, 1, 2, eX6_lays) := rfl
theorem km_6_139 : mlk 6 139 = some (139, 0, 1, eX6_isDone) := rfl
theorem km_6_45 : mlk 6 45 = some (45, 1, 2, eX6_of) := rfl
theorem km_6_120 : mlk 6 120 = some (120, 0, 1, eX6_isKey) := rfl
theorem km_6_83 : mlk 6 83 = some (83, 0, 1, eX6_isSnapped) := rfl
theorem km_6_123 : mlk 6 123 = some (123, 0, 1, eX6_isMachine) := rfl
theorem km_6_126 : mlk 6 126 = some (126, 0, 2, eX6_cuts) := rfl
theorem km_6_76 : mlk 6 76 = some (76, 0, 1, eX6_takes) := rfl
theorem km_6_117 : mlk 6 117 = some (117, 0, 2, eX6_cutsBy) := rfl
theorem km_6_65 : mlk 6 65 = some (65, 0, 2, eX6_cutsIn) := rfl
theorem km_6_61 : mlk 6 61 = some (61, 1, 4, eX6_cutBy) := rfl
theorem km_6_55 : mlk 6 55 = some (55, 1, 1, eX6_held) := rfl
theorem km_6_49 : mlk 6 49 = some (49, 1, 2, eX6_least) := rfl
theorem km_6_52 : mlk 6 52 = some (52, 1, 2, eX6_most) := rfl
theorem km_6_58 : mlk 6 58 = some (58, 1, 1, eX6_round) := rfl
theorem km_6_129 : mlk 6 129 = some (129, 0, 2, eX6_used) := rfl
theorem km_6_142 : mlk 6 142 = some (142, 1, 1, eX6_isTooth) := rfl
theorem km_6_91 : mlk 6 91 = some (91, 0, 1, eX6_opens) := rfl
theorem km_6_87 : mlk 6 87 = some (87, 0, 0, eX6_opensIn) := rfl
theorem km_6_72 : mlk 6 72 = some (72, 0, 0, eX6_fitIn) := rfl
theorem km_6_69 : mlk 6 69 = some (69, 1, 2, eX6_apart) := rfl
theorem km_6_145 : mlk 6 145 = some (145, 0, 1, eX6_wiggleOf) := rfl
theorem km_6_80 : mlk 6 80 = some (80, 0, 0, eX6_wiggle) := rfl
theorem km_6_148 : mlk 6 148 = some (148, 0, 1, eX6_worstOf) := rfl
theorem km_6_151 : mlk 6 151 = some (151, 1, 2, eX6_wrong) := rfl
theorem km_6_160 : mlk 6 160 = some (160, 0, 1, eX6_depthOf) := rfl
theorem km_6_154 : mlk 6 154 = some (154, 0, 1, eX6_fromOf) := rfl
theorem km_6_163 : mlk 6 163 = some (163, 0, 1, eX6_heirs) := rfl
theorem km_6_157 : mlk 6 157 = some (157, 0, 2, eX6_isHeir) := rfl
theorem km_6_166 : mlk 6 166 = some (166, 0, 1, eX6_anewOf) := rfl
theorem km_6_172 : mlk 6 172 = some (172, 0, 1, eX6_wrongSet) := rfl
theorem km_6_175 : mlk 6 175 = some (175, 0, 2, eX6_middle) := rfl
theorem km_6_169 : mlk 6 169 = some (169, 1, 1, eX6_bits) := rfl
theorem km_6_178 : mlk 6 178 = some (178, 1, 1, eX6_code) := rfl
theorem km_6_181 : mlk 6 181 = some (181, 0, 1, eX6_noFar) := rfl
theorem km_6_184 : mlk 6 184 = some (184, 0, 1, eX6_lineOf) := rfl
theorem km_6_191 : mlk 6 191 = some (191, 0, 1, eX6_noWide) := rfl
theorem km_6_195 : mlk 6 195 = some (195, 1, 3, eX6_partOf) := rfl
theorem km_6_187 : mlk 6 187 = some (187, 1, 2, eX6_gcd) := rfl
theorem km_6_199 : mlk 6 199 = some (199, 0, 4, eX6_lastHeight) := rfl
theorem km_6_205 : mlk 6 205 = some (205, 0, 0, eX6_isTold) := rfl
theorem km_6_214 : mlk 6 214 = some (214, 0, 1, eX6_drawn) := rfl
theorem km_6_221 : mlk 6 221 = some (221, 0, 0, eX6_openMany) := rfl
theorem km_10_335 : mlk 10 335 = some (335, 0, 0, eJ0_coder_7d493) := rfl
theorem km_10_492 : mlk 10 492 = some (492, 0, 0, eJ0_isLatin1_aae02) := rfl
theorem km_10_495 : mlk 10 495 = some (495, 1, 2, eJ1_charAt_3b067) := rfl
theorem km_10_1059 : mlk 10 1059 = some (1059, 1, 3, eJ3_checkIndex_8e157) := rfl
theorem km_10_633 : mlk 10 633 = some (633, 0, 2, eJ0_indexOf_7cf53) := rfl
theorem km_10_505 : mlk 10 505 = some (505, 0, 0, eJ0_length_8abf5) := rfl
theorem km_10_637 : mlk 10 637 = some (637, 1, 4, eJ1_indexOf_4cfef) := rfl
theorem km_11_9 : mlk 11 9 = some (9, 1, 2, eJ0_checkIndex_df160) := rfl
theorem km_11_88 : mlk 11 88 = some (88, 1, 1, eJ1_canEncode_9a6ad) := rfl
theorem km_11_92 : mlk 11 92 = some (92, 4, 2, eJ6_bitCount_0f7a4) := rfl
theorem km_11_38 : mlk 11 38 = some (38, 5, 2, eJ6_bitCount_0f7a4) := rfl
theorem km_11_95 : mlk 11 95 = some (95, 1, 4, eJ1_indexOfChar_4cfef) := rfl
theorem kf_1_27 : flk 1 27 = some (27, 3, 2, 0) := rfl
theorem kf_1_33 : flk 1 33 = some (33, 3, 4, 2) := rfl
theorem kf_2_86 : flk 2 86 = some (86, 3, 0, 2) := rfl
theorem kf_2_98 : flk 2 98 = some (98, 3, 1, 0) := rfl
theorem kf_2_50 : flk 2 50 = some (50, 3, 2, 0) := rfl
theorem kf_2_22 : flk 2 22 = some (22, 3, 3, 2) := rfl
theorem kf_2_56 : flk 2 56 = some (56, 3, 5, 2) := rfl
theorem kf_2_53 : flk 2 53 = some (53, 3, 6, 0) := rfl
theorem kf_2_40 : flk 2 40 = some (40, 3, 7, 2) := rfl
theorem kf_2_43 : flk 2 43 = some (43, 3, 8, 2) := rfl
theorem kf_2_9 : flk 2 9 = some (9, 2, 0, 2) := rfl
theorem kf_2_15 : flk 2 15 = some (15, 2, 1, 2) := rfl
theorem kf_2_18 : flk 2 18 = some (18, 2, 2, 0) := rfl
theorem kf_3_9 : flk 3 9 = some (9, 3, 0, 2) := rfl
theorem kf_3_21 : flk 3 21 = some (21, 3, 1, 0) := rfl
theorem kf_3_25 : flk 3 25 = some (25, 3, 2, 0) := rfl
theorem kf_3_30 : flk 3 30 = some (30, 3, 3, 2) := rfl
theorem kf_3_33 : flk 3 33 = some (33, 3, 4, 2) := rfl
theorem kf_3_36 : flk 3 36 = some (36, 3, 5, 2) := rfl
theorem kf_3_40 : flk 3 40 = some (40, 3, 6, 0) := rfl
theorem kf_3_43 : flk 3 43 = some (43, 3, 7, 2) := rfl
theorem kf_3_46 : flk 3 46 = some (46, 3, 8, 2) := rfl
theorem kf_3_49 : flk 3 49 = some (49, 3, 9, 0) := rfl
theorem kf_4_52 : flk 4 52 = some (52, 3, 0, 2) := rfl
theorem kf_4_86 : flk 4 86 = some (86, 3, 1, 0) := rfl
theorem kf_4_95 : flk 4 95 = some (95, 3, 3, 2) := rfl
theorem kf_4_106 : flk 4 106 = some (106, 3, 5, 2) := rfl
theorem kf_4_99 : flk 4 99 = some (99, 3, 9, 0) := rfl
theorem kf_4_9 : flk 4 9 = some (9, 4, 0, 2) := rfl
theorem kf_4_15 : flk 4 15 = some (15, 4, 1, 0) := rfl
theorem kf_5_81 : flk 5 81 = some (81, 3, 0, 2) := rfl
theorem kf_5_124 : flk 5 124 = some (124, 3, 1, 0) := rfl
theorem kf_5_127 : flk 5 127 = some (127, 3, 2, 0) := rfl
theorem kf_5_87 : flk 5 87 = some (87, 3, 3, 2) := rfl
theorem kf_5_91 : flk 5 91 = some (91, 3, 4, 2) := rfl
theorem kf_5_94 : flk 5 94 = some (94, 3, 5, 2) := rfl
theorem kf_5_254 : flk 5 254 = some (254, 3, 6, 0) := rfl
theorem kf_5_114 : flk 5 114 = some (114, 3, 7, 2) := rfl
theorem kf_5_117 : flk 5 117 = some (117, 3, 8, 2) := rfl
theorem kf_5_134 : flk 5 134 = some (134, 3, 9, 0) := rfl
theorem kf_5_10 : flk 5 10 = some (10, 5, 0, 2) := rfl
theorem kf_5_16 : flk 5 16 = some (16, 5, 1, 2) := rfl
theorem kf_5_19 : flk 5 19 = some (19, 5, 2, 2) := rfl
theorem kf_5_22 : flk 5 22 = some (22, 5, 3, 1) := rfl
theorem kf_5_29 : flk 5 29 = some (29, 5, 4, 2) := rfl
theorem kf_5_36 : flk 5 36 = some (36, 5, 5, 2) := rfl
theorem kf_5_40 : flk 5 40 = some (40, 5, 6, 2) := rfl
theorem kf_5_44 : flk 5 44 = some (44, 5, 7, 0) := rfl
theorem kf_5_48 : flk 5 48 = some (48, 5, 8, 2) := rfl
theorem kf_6_9 : flk 6 9 = some (9, 6, 0, 2) := rfl
theorem kf_6_13 : flk 6 13 = some (13, 6, 1, 2) := rfl
theorem kf_6_16 : flk 6 16 = some (16, 6, 2, 2) := rfl
theorem kf_6_217 : flk 6 217 = some (217, 6, 3, 1) := rfl
theorem kf_6_19 : flk 6 19 = some (19, 6, 4, 2) := rfl
theorem kf_6_22 : flk 6 22 = some (22, 6, 5, 2) := rfl
theorem kf_6_25 : flk 6 25 = some (25, 6, 6, 2) := rfl
theorem kf_6_94 : flk 6 94 = some (94, 6, 7, 0) := rfl
theorem kf_6_202 : flk 6 202 = some (202, 6, 8, 0) := rfl
theorem kf_6_28 : flk 6 28 = some (28, 6, 9, 2) := rfl
theorem kf_6_98 : flk 6 98 = some (98, 6, 10, 0) := rfl
theorem kf_6_31 : flk 6 31 = some (31, 6, 11, 2) := rfl
theorem kf_6_208 : flk 6 208 = some (208, 6, 12, 0) := rfl
theorem kf_10_9 : flk 10 9 = some (9, 10, 0, 2) := rfl
theorem kf_10_15 : flk 10 15 = some (15, 10, 1, 3) := rfl
theorem kc_2_172 : clk 2 172 = some (172, .int 1664525) := rfl
theorem kc_2_173 : clk 2 173 = some (173, .int 1013904223) := rfl
theorem kc_2_174 : clk 2 174 = some (174, .int 2147483647) := rfl
theorem kc_4_125 : clk 4 125 = some (125, .ref 100) := rfl
theorem kc_4_127 : clk 4 127 = some (127, .ref 101) := rfl
theorem kc_4_129 : clk 4 129 = some (129, .ref 102) := rfl
theorem kc_4_131 : clk 4 131 = some (131, .ref 103) := rfl
theorem kc_4_133 : clk 4 133 = some (133, .ref 104) := rfl
theorem kc_4_135 : clk 4 135 = some (135, .ref 105) := rfl
theorem kc_4_120 : clk 4 120 = some (120, .ref 106) := rfl
theorem kc_5_207 : clk 5 207 = some (207, .int 1000000000) := rfl
theorem kc_5_223 : clk 5 223 = some (223, .long 4000000000000000000) := rfl
theorem kc_6_34 : clk 6 34 = some (34, .int 1000000000) := rfl
theorem kc_6_211 : clk 6 211 = some (211, .int 1664525) := rfl
theorem kc_6_212 : clk 6 212 = some (212, .int 1013904223) := rfl
theorem kc_6_213 : clk 6 213 = some (213, .int 2147483647) := rfl
theorem kc_6_39 : clk 6 39 = some (39, .long 4000000000000000000) := rfl
theorem kc_16_265 : clk 16 265 = some (265, .int 1431655765) := rfl
theorem kc_16_266 : clk 16 266 = some (266, .int 858993459) := rfl
theorem kc_16_267 : clk 16 267 = some (267, .int 252645135) := rfl
theorem kc_16_264 : clk 16 264 = some (264, .int 65536) := rfl
