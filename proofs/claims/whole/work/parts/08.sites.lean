theorem cb_m20 : (Int8.ofInt (-20)).toInt32 = (-20 : Int32) := by decide
theorem cb_m14 : (Int8.ofInt (-14)).toInt32 = (-14 : Int32) := by decide
theorem cb_m13 : (Int8.ofInt (-13)).toInt32 = (-13 : Int32) := by decide
theorem cb_m12 : (Int8.ofInt (-12)).toInt32 = (-12 : Int32) := by decide
theorem cb_m11 : (Int8.ofInt (-11)).toInt32 = (-11 : Int32) := by decide
theorem cb_m4 : (Int8.ofInt (-4)).toInt32 = (-4 : Int32) := by decide
theorem cb_m3 : (Int8.ofInt (-3)).toInt32 = (-3 : Int32) := by decide
theorem cb_m2 : (Int8.ofInt (-2)).toInt32 = (-2 : Int32) := by decide
theorem cb_6 : (Int8.ofInt (6)).toInt32 = (6 : Int32) := by decide
theorem cb_7 : (Int8.ofInt (7)).toInt32 = (7 : Int32) := by decide
theorem cb_8 : (Int8.ofInt (8)).toInt32 = (8 : Int32) := by decide
theorem cb_9 : (Int8.ofInt (9)).toInt32 = (9 : Int32) := by decide
theorem cb_10 : (Int8.ofInt (10)).toInt32 = (10 : Int32) := by decide
theorem cb_16 : (Int8.ofInt (16)).toInt32 = (16 : Int32) := by decide
theorem cb_20 : (Int8.ofInt (20)).toInt32 = (20 : Int32) := by decide
theorem cb_24 : (Int8.ofInt (24)).toInt32 = (24 : Int32) := by decide
theorem cb_32 : (Int8.ofInt (32)).toInt32 = (32 : Int32) := by decide
theorem cb_40 : (Int8.ofInt (40)).toInt32 = (40 : Int32) := by decide
theorem cb_48 : (Int8.ofInt (48)).toInt32 = (48 : Int32) := by decide
theorem cb_50 : (Int8.ofInt (50)).toInt32 = (50 : Int32) := by decide
theorem cb_57 : (Int8.ofInt (57)).toInt32 = (57 : Int32) := by decide
theorem cb_59 : (Int8.ofInt (59)).toInt32 = (59 : Int32) := by decide
theorem cb_60 : (Int8.ofInt (60)).toInt32 = (60 : Int32) := by decide
theorem cb_63 : (Int8.ofInt (63)).toInt32 = (63 : Int32) := by decide
theorem cb_70 : (Int8.ofInt (70)).toInt32 = (70 : Int32) := by decide
theorem cb_80 : (Int8.ofInt (80)).toInt32 = (80 : Int32) := by decide
theorem cb_99 : (Int8.ofInt (99)).toInt32 = (99 : Int32) := by decide
theorem cb_102 : (Int8.ofInt (102)).toInt32 = (102 : Int32) := by decide
theorem cb_103 : (Int8.ofInt (103)).toInt32 = (103 : Int32) := by decide
theorem cb_108 : (Int8.ofInt (108)).toInt32 = (108 : Int32) := by decide
theorem cb_110 : (Int8.ofInt (110)).toInt32 = (110 : Int32) := by decide
theorem cb_114 : (Int8.ofInt (114)).toInt32 = (114 : Int32) := by decide
theorem cb_115 : (Int8.ofInt (115)).toInt32 = (115 : Int32) := by decide
theorem cb_116 : (Int8.ofInt (116)).toInt32 = (116 : Int32) := by decide
theorem cb_119 : (Int8.ofInt (119)).toInt32 = (119 : Int32) := by decide
theorem cb_126 : (Int8.ofInt (126)).toInt32 = (126 : Int32) := by decide
theorem ci_m1 : Int32.ofInt (-1) = (-1 : Int32) := by decide
theorem ci_0 : Int32.ofInt (0) = (0 : Int32) := by decide
theorem ci_1 : Int32.ofInt (1) = (1 : Int32) := by decide
theorem ci_2 : Int32.ofInt (2) = (2 : Int32) := by decide
theorem ci_3 : Int32.ofInt (3) = (3 : Int32) := by decide
theorem ci_4 : Int32.ofInt (4) = (4 : Int32) := by decide
theorem ci_5 : Int32.ofInt (5) = (5 : Int32) := by decide
theorem cl_0 : Int64.ofNat ((0 : Fin 2) : Nat) = (0 : Int64) := by decide
theorem cl_1 : Int64.ofNat ((1 : Fin 2) : Nat) = (1 : Int64) := by decide
theorem cs_m1000 : (Int16.ofInt (-1000)).toInt32 = (-1000 : Int32) := by decide
theorem cs_200 : (Int16.ofInt (200)).toInt32 = (200 : Int32) := by decide
theorem cs_240 : (Int16.ofInt (240)).toInt32 = (240 : Int32) := by decide
theorem cs_255 : (Int16.ofInt (255)).toInt32 = (255 : Int32) := by decide
theorem cs_400 : (Int16.ofInt (400)).toInt32 = (400 : Int32) := by decide
theorem cs_499 : (Int16.ofInt (499)).toInt32 = (499 : Int32) := by decide
theorem cs_999 : (Int16.ofInt (999)).toInt32 = (999 : Int32) := by decide
theorem cs_1000 : (Int16.ofInt (1000)).toInt32 = (1000 : Int32) := by decide
theorem fg_X0_11 : mm_F RX0 11 0 0 := ⟨RX0, TX0, 9, rfl, wY_X0, by decide, wf_X0_11⟩
theorem fg_X0_17 : mm_F RX0 17 0 1 := ⟨RX0, TX0, 9, rfl, wY_X0, by decide, wf_X0_17⟩
theorem fg_X0_21 : mm_F RX0 21 0 8 := ⟨RX0, TX0, 9, rfl, wY_X0, by decide, wf_X0_21⟩
theorem fg_X0_25 : mm_F RX0 25 3 1 := ⟨RX3, TX3, 4, rfl, wY_X3, by decide, wf_X0_25⟩
theorem fg_X0_35 : mm_F RX0 35 0 2 := ⟨RX0, TX0, 9, rfl, wY_X0, by decide, wf_X0_35⟩
theorem fg_X0_38 : mm_F RX0 38 0 6 := ⟨RX0, TX0, 9, rfl, wY_X0, by decide, wf_X0_38⟩
theorem fg_X0_39 : mm_F RX0 39 3 3 := ⟨RX3, TX3, 4, rfl, wY_X3, by decide, wf_X0_39⟩
theorem fg_X0_59 : mm_F RX0 59 5 7 := ⟨RX5, TX5, 18, rfl, wY_X5, by decide, wf_X0_59⟩
theorem fg_X0_68 : mm_F RX0 68 3 0 := ⟨RX3, TX3, 4, rfl, wY_X3, by decide, wf_X0_68⟩
theorem fg_X0_71 : mm_F RX0 71 0 7 := ⟨RX0, TX0, 9, rfl, wY_X0, by decide, wf_X0_71⟩
theorem fg_X0_72 : mm_F RX0 72 3 2 := ⟨RX3, TX3, 4, rfl, wY_X3, by decide, wf_X0_72⟩
theorem fg_X0_83 : mm_F RX0 83 5 2 := ⟨RX5, TX5, 18, rfl, wY_X5, by decide, wf_X0_83⟩
theorem fg_X0_90 : mm_F RX0 90 5 5 := ⟨RX5, TX5, 18, rfl, wY_X5, by decide, wf_X0_90⟩
theorem fg_X0_94 : mm_F RX0 94 5 6 := ⟨RX5, TX5, 18, rfl, wY_X5, by decide, wf_X0_94⟩
theorem fg_X0_122 : mm_F RX0 122 0 3 := ⟨RX0, TX0, 9, rfl, wY_X0, by decide, wf_X0_122⟩
theorem fg_X0_125 : mm_F RX0 125 0 4 := ⟨RX0, TX0, 9, rfl, wY_X0, by decide, wf_X0_125⟩
theorem fg_X0_128 : mm_F RX0 128 0 5 := ⟨RX0, TX0, 9, rfl, wY_X0, by decide, wf_X0_128⟩
theorem fg_X0_138 : mm_F RX0 138 5 8 := ⟨RX5, TX5, 18, rfl, wY_X5, by decide, wf_X0_138⟩
theorem fg_X0_141 : mm_F RX0 141 5 12 := ⟨RX5, TX5, 18, rfl, wY_X5, by decide, wf_X0_141⟩
theorem fg_X0_147 : mm_F RX0 147 5 9 := ⟨RX5, TX5, 18, rfl, wY_X5, by decide, wf_X0_147⟩
theorem fg_X0_154 : mm_F RX0 154 5 16 := ⟨RX5, TX5, 18, rfl, wY_X5, by decide, wf_X0_154⟩
theorem fg_X0_169 : mm_F RX0 169 5 11 := ⟨RX5, TX5, 18, rfl, wY_X5, by decide, wf_X0_169⟩
theorem fg_X0_172 : mm_F RX0 172 5 15 := ⟨RX5, TX5, 18, rfl, wY_X5, by decide, wf_X0_172⟩
theorem fg_X0_192 : mm_F RX0 192 5 14 := ⟨RX5, TX5, 18, rfl, wY_X5, by decide, wf_X0_192⟩
theorem fg_X1_9 : mm_F RX1 9 1 1 := ⟨RX1, TX1, 6, rfl, wY_X1, by decide, wf_X1_9⟩
theorem fg_X1_15 : mm_F RX1 15 1 4 := ⟨RX1, TX1, 6, rfl, wY_X1, by decide, wf_X1_15⟩
theorem fg_X1_18 : mm_F RX1 18 1 5 := ⟨RX1, TX1, 6, rfl, wY_X1, by decide, wf_X1_18⟩
theorem fg_X1_27 : mm_F RX1 27 1 0 := ⟨RX1, TX1, 6, rfl, wY_X1, by decide, wf_X1_27⟩
theorem fg_X1_35 : mm_F RX1 35 0 0 := ⟨RX0, TX0, 9, rfl, wY_X0, by decide, wf_X1_35⟩
theorem fg_X1_66 : mm_F RX1 66 1 2 := ⟨RX1, TX1, 6, rfl, wY_X1, by decide, wf_X1_66⟩
theorem fg_X1_69 : mm_F RX1 69 1 3 := ⟨RX1, TX1, 6, rfl, wY_X1, by decide, wf_X1_69⟩
theorem fg_X2_9 : mm_F RX2 9 2 0 := ⟨RX2, TX2, 3, rfl, wY_X2, by decide, wf_X2_9⟩
theorem fg_X2_15 : mm_F RX2 15 2 2 := ⟨RX2, TX2, 3, rfl, wY_X2, by decide, wf_X2_15⟩
theorem fg_X2_19 : mm_F RX2 19 2 1 := ⟨RX2, TX2, 3, rfl, wY_X2, by decide, wf_X2_19⟩
theorem fg_X3_9 : mm_F RX3 9 3 0 := ⟨RX3, TX3, 4, rfl, wY_X3, by decide, wf_X3_9⟩
theorem fg_X3_15 : mm_F RX3 15 3 2 := ⟨RX3, TX3, 4, rfl, wY_X3, by decide, wf_X3_15⟩
theorem fg_X3_21 : mm_F RX3 21 3 3 := ⟨RX3, TX3, 4, rfl, wY_X3, by decide, wf_X3_21⟩
theorem fg_X3_33 : mm_F RX3 33 3 1 := ⟨RX3, TX3, 4, rfl, wY_X3, by decide, wf_X3_33⟩
theorem fg_X4_9 : mm_F RX4 9 4 2 := ⟨RX4, TX4, 3, rfl, wY_X4, by decide, wf_X4_9⟩
theorem fg_X4_15 : mm_F RX4 15 4 0 := ⟨RX4, TX4, 3, rfl, wY_X4, by decide, wf_X4_15⟩
theorem fg_X4_19 : mm_F RX4 19 4 1 := ⟨RX4, TX4, 3, rfl, wY_X4, by decide, wf_X4_19⟩
theorem fg_X5_9 : mm_F RX5 9 5 8 := ⟨RX5, TX5, 18, rfl, wY_X5, by decide, wf_X5_9⟩
theorem fg_X5_15 : mm_F RX5 15 5 1 := ⟨RX5, TX5, 18, rfl, wY_X5, by decide, wf_X5_15⟩
theorem fg_X5_18 : mm_F RX5 18 5 9 := ⟨RX5, TX5, 18, rfl, wY_X5, by decide, wf_X5_18⟩
theorem fg_X5_21 : mm_F RX5 21 5 0 := ⟨RX5, TX5, 18, rfl, wY_X5, by decide, wf_X5_21⟩
theorem fg_X5_24 : mm_F RX5 24 5 11 := ⟨RX5, TX5, 18, rfl, wY_X5, by decide, wf_X5_24⟩
theorem fg_X5_27 : mm_F RX5 27 5 10 := ⟨RX5, TX5, 18, rfl, wY_X5, by decide, wf_X5_27⟩
theorem fg_X5_30 : mm_F RX5 30 5 12 := ⟨RX5, TX5, 18, rfl, wY_X5, by decide, wf_X5_30⟩
theorem fg_X5_33 : mm_F RX5 33 5 2 := ⟨RX5, TX5, 18, rfl, wY_X5, by decide, wf_X5_33⟩
theorem fg_X5_36 : mm_F RX5 36 5 13 := ⟨RX5, TX5, 18, rfl, wY_X5, by decide, wf_X5_36⟩
theorem fg_X5_45 : mm_F RX5 45 5 16 := ⟨RX5, TX5, 18, rfl, wY_X5, by decide, wf_X5_45⟩
theorem fg_X5_48 : mm_F RX5 48 5 17 := ⟨RX5, TX5, 18, rfl, wY_X5, by decide, wf_X5_48⟩
theorem fg_X5_60 : mm_F RX5 60 5 3 := ⟨RX5, TX5, 18, rfl, wY_X5, by decide, wf_X5_60⟩
theorem fg_X5_63 : mm_F RX5 63 5 4 := ⟨RX5, TX5, 18, rfl, wY_X5, by decide, wf_X5_63⟩
theorem fg_X6_10 : mm_F RX6 10 6 0 := ⟨RX6, TX6, 8, rfl, wY_X6, by decide, wf_X6_10⟩
theorem fg_X6_16 : mm_F RX6 16 6 1 := ⟨RX6, TX6, 8, rfl, wY_X6, by decide, wf_X6_16⟩
theorem fg_X6_22 : mm_F RX6 22 6 3 := ⟨RX6, TX6, 8, rfl, wY_X6, by decide, wf_X6_22⟩
theorem fg_X6_26 : mm_F RX6 26 6 4 := ⟨RX6, TX6, 8, rfl, wY_X6, by decide, wf_X6_26⟩
theorem fg_X6_33 : mm_F RX6 33 6 5 := ⟨RX6, TX6, 8, rfl, wY_X6, by decide, wf_X6_33⟩
theorem fg_X6_40 : mm_F RX6 40 6 6 := ⟨RX6, TX6, 8, rfl, wY_X6, by decide, wf_X6_40⟩
theorem fg_X6_46 : mm_F RX6 46 6 7 := ⟨RX6, TX6, 8, rfl, wY_X6, by decide, wf_X6_46⟩
theorem fg_X6_51 : mm_F RX6 51 3 0 := ⟨RX3, TX3, 4, rfl, wY_X3, by decide, wf_X6_51⟩
theorem fg_X6_65 : mm_F RX6 65 3 2 := ⟨RX3, TX3, 4, rfl, wY_X3, by decide, wf_X6_65⟩
theorem fg_X6_80 : mm_F RX6 80 3 1 := ⟨RX3, TX3, 4, rfl, wY_X3, by decide, wf_X6_80⟩
theorem fg_X6_90 : mm_F RX6 90 3 3 := ⟨RX3, TX3, 4, rfl, wY_X3, by decide, wf_X6_90⟩
theorem fg_X6_104 : mm_F RX6 104 4 0 := ⟨RX4, TX4, 3, rfl, wY_X4, by decide, wf_X6_104⟩
theorem fg_X6_127 : mm_F RX6 127 0 0 := ⟨RX0, TX0, 9, rfl, wY_X0, by decide, wf_X6_127⟩
theorem fg_X6_131 : mm_F RX6 131 5 8 := ⟨RX5, TX5, 18, rfl, wY_X5, by decide, wf_X6_131⟩
theorem fg_X6_136 : mm_F RX6 136 5 14 := ⟨RX5, TX5, 18, rfl, wY_X5, by decide, wf_X6_136⟩
theorem fg_X6_139 : mm_F RX6 139 5 10 := ⟨RX5, TX5, 18, rfl, wY_X5, by decide, wf_X6_139⟩
theorem fg_X6_142 : mm_F RX6 142 5 15 := ⟨RX5, TX5, 18, rfl, wY_X5, by decide, wf_X6_142⟩
theorem fg_X6_145 : mm_F RX6 145 5 16 := ⟨RX5, TX5, 18, rfl, wY_X5, by decide, wf_X6_145⟩
theorem fg_X6_148 : mm_F RX6 148 5 17 := ⟨RX5, TX5, 18, rfl, wY_X5, by decide, wf_X6_148⟩
theorem fg_X6_151 : mm_F RX6 151 0 3 := ⟨RX0, TX0, 9, rfl, wY_X0, by decide, wf_X6_151⟩
theorem fg_X6_160 : mm_F RX6 160 0 4 := ⟨RX0, TX0, 9, rfl, wY_X0, by decide, wf_X6_160⟩
theorem fg_X6_167 : mm_F RX6 167 5 12 := ⟨RX5, TX5, 18, rfl, wY_X5, by decide, wf_X6_167⟩
theorem fg_X6_177 : mm_F RX6 177 0 5 := ⟨RX0, TX0, 9, rfl, wY_X0, by decide, wf_X6_177⟩
theorem fg_X6_186 : mm_F RX6 186 1 0 := ⟨RX1, TX1, 6, rfl, wY_X1, by decide, wf_X6_186⟩
theorem fg_X6_194 : mm_F RX6 194 1 1 := ⟨RX1, TX1, 6, rfl, wY_X1, by decide, wf_X6_194⟩
theorem fg_X6_226 : mm_F RX6 226 0 1 := ⟨RX0, TX0, 9, rfl, wY_X0, by decide, wf_X6_226⟩
theorem fg_X6_230 : mm_F RX6 230 6 2 := ⟨RX6, TX6, 8, rfl, wY_X6, by decide, wf_X6_230⟩
theorem fg_X6_238 : mm_F RX6 238 2 2 := ⟨RX2, TX2, 3, rfl, wY_X2, by decide, wf_X6_238⟩
theorem fg_X6_245 : mm_F RX6 245 2 0 := ⟨RX2, TX2, 3, rfl, wY_X2, by decide, wf_X6_245⟩
theorem fg_X6_248 : mm_F RX6 248 2 1 := ⟨RX2, TX2, 3, rfl, wY_X2, by decide, wf_X6_248⟩
theorem fg_X7_7 : mm_F RX7 7 7 0 := ⟨RX7, TX7, 43, rfl, wY_X7, by decide, wf_X7_7⟩
theorem fg_X7_13 : mm_F RX7 13 7 2 := ⟨RX7, TX7, 43, rfl, wY_X7, by decide, wf_X7_13⟩
theorem fg_X7_16 : mm_F RX7 16 7 3 := ⟨RX7, TX7, 43, rfl, wY_X7, by decide, wf_X7_16⟩
theorem fg_X7_20 : mm_F RX7 20 7 4 := ⟨RX7, TX7, 43, rfl, wY_X7, by decide, wf_X7_20⟩
theorem fg_X7_23 : mm_F RX7 23 7 8 := ⟨RX7, TX7, 43, rfl, wY_X7, by decide, wf_X7_23⟩
theorem fg_X7_26 : mm_F RX7 26 7 9 := ⟨RX7, TX7, 43, rfl, wY_X7, by decide, wf_X7_26⟩
theorem fg_X7_29 : mm_F RX7 29 7 10 := ⟨RX7, TX7, 43, rfl, wY_X7, by decide, wf_X7_29⟩
theorem fg_X7_32 : mm_F RX7 32 7 11 := ⟨RX7, TX7, 43, rfl, wY_X7, by decide, wf_X7_32⟩
theorem fg_X7_35 : mm_F RX7 35 7 12 := ⟨RX7, TX7, 43, rfl, wY_X7, by decide, wf_X7_35⟩
theorem fg_X7_38 : mm_F RX7 38 7 13 := ⟨RX7, TX7, 43, rfl, wY_X7, by decide, wf_X7_38⟩
theorem fg_X7_41 : mm_F RX7 41 7 14 := ⟨RX7, TX7, 43, rfl, wY_X7, by decide, wf_X7_41⟩
theorem fg_X7_44 : mm_F RX7 44 7 15 := ⟨RX7, TX7, 43, rfl, wY_X7, by decide, wf_X7_44⟩
theorem fg_X7_47 : mm_F RX7 47 7 16 := ⟨RX7, TX7, 43, rfl, wY_X7, by decide, wf_X7_47⟩
theorem fg_X7_50 : mm_F RX7 50 7 17 := ⟨RX7, TX7, 43, rfl, wY_X7, by decide, wf_X7_50⟩
theorem fg_X7_53 : mm_F RX7 53 7 18 := ⟨RX7, TX7, 43, rfl, wY_X7, by decide, wf_X7_53⟩
theorem fg_X7_56 : mm_F RX7 56 7 19 := ⟨RX7, TX7, 43, rfl, wY_X7, by decide, wf_X7_56⟩
theorem fg_X7_59 : mm_F RX7 59 7 20 := ⟨RX7, TX7, 43, rfl, wY_X7, by decide, wf_X7_59⟩
theorem fg_X7_62 : mm_F RX7 62 7 21 := ⟨RX7, TX7, 43, rfl, wY_X7, by decide, wf_X7_62⟩
theorem fg_X7_65 : mm_F RX7 65 7 22 := ⟨RX7, TX7, 43, rfl, wY_X7, by decide, wf_X7_65⟩
theorem fg_X7_68 : mm_F RX7 68 7 27 := ⟨RX7, TX7, 43, rfl, wY_X7, by decide, wf_X7_68⟩
theorem fg_X7_71 : mm_F RX7 71 7 28 := ⟨RX7, TX7, 43, rfl, wY_X7, by decide, wf_X7_71⟩
theorem fg_X7_74 : mm_F RX7 74 7 30 := ⟨RX7, TX7, 43, rfl, wY_X7, by decide, wf_X7_74⟩
theorem fg_X7_77 : mm_F RX7 77 7 31 := ⟨RX7, TX7, 43, rfl, wY_X7, by decide, wf_X7_77⟩
theorem fg_X7_80 : mm_F RX7 80 7 32 := ⟨RX7, TX7, 43, rfl, wY_X7, by decide, wf_X7_80⟩
theorem fg_X7_83 : mm_F RX7 83 7 36 := ⟨RX7, TX7, 43, rfl, wY_X7, by decide, wf_X7_83⟩
theorem fg_X7_86 : mm_F RX7 86 7 37 := ⟨RX7, TX7, 43, rfl, wY_X7, by decide, wf_X7_86⟩
theorem fg_X7_89 : mm_F RX7 89 7 40 := ⟨RX7, TX7, 43, rfl, wY_X7, by decide, wf_X7_89⟩
theorem fg_X7_92 : mm_F RX7 92 7 41 := ⟨RX7, TX7, 43, rfl, wY_X7, by decide, wf_X7_92⟩
theorem fg_X7_95 : mm_F RX7 95 7 42 := ⟨RX7, TX7, 43, rfl, wY_X7, by decide, wf_X7_95⟩
theorem fg_X7_98 : mm_F RX7 98 7 1 := ⟨RX7, TX7, 43, rfl, wY_X7, by decide, wf_X7_98⟩
theorem fg_X7_155 : mm_F RX7 155 7 5 := ⟨RX7, TX7, 43, rfl, wY_X7, by decide, wf_X7_155⟩
theorem fg_X7_158 : mm_F RX7 158 7 6 := ⟨RX7, TX7, 43, rfl, wY_X7, by decide, wf_X7_158⟩
theorem fg_X7_169 : mm_F RX7 169 7 7 := ⟨RX7, TX7, 43, rfl, wY_X7, by decide, wf_X7_169⟩
theorem fg_X7_191 : mm_F RX7 191 7 23 := ⟨RX7, TX7, 43, rfl, wY_X7, by decide, wf_X7_191⟩
theorem fg_X7_194 : mm_F RX7 194 7 24 := ⟨RX7, TX7, 43, rfl, wY_X7, by decide, wf_X7_194⟩
theorem fg_X7_197 : mm_F RX7 197 7 25 := ⟨RX7, TX7, 43, rfl, wY_X7, by decide, wf_X7_197⟩
theorem fg_X7_200 : mm_F RX7 200 7 26 := ⟨RX7, TX7, 43, rfl, wY_X7, by decide, wf_X7_200⟩
theorem fg_X7_259 : mm_F RX7 259 7 29 := ⟨RX7, TX7, 43, rfl, wY_X7, by decide, wf_X7_259⟩
theorem fg_X7_265 : mm_F RX7 265 7 33 := ⟨RX7, TX7, 43, rfl, wY_X7, by decide, wf_X7_265⟩
theorem fg_X7_268 : mm_F RX7 268 7 34 := ⟨RX7, TX7, 43, rfl, wY_X7, by decide, wf_X7_268⟩
theorem fg_X7_310 : mm_F RX7 310 7 38 := ⟨RX7, TX7, 43, rfl, wY_X7, by decide, wf_X7_310⟩
theorem fg_X7_313 : mm_F RX7 313 7 39 := ⟨RX7, TX7, 43, rfl, wY_X7, by decide, wf_X7_313⟩
theorem fg_X7_316 : mm_F RX7 316 7 35 := ⟨RX7, TX7, 43, rfl, wY_X7, by decide, wf_X7_316⟩
theorem fp_X0_35 : mm_Fp RX0 35 0 2 .int := ⟨RX0, TX0, 9, tyX0, rfl, wY_X0, by decide, wf_X0_35, tyX0_ok, nmX0, rfl, tyX0_ok 2 (by decide)⟩
theorem fp_X0_38 : mm_Fp RX0 38 0 6 .int := ⟨RX0, TX0, 9, tyX0, rfl, wY_X0, by decide, wf_X0_38, tyX0_ok, nmX0, rfl, tyX0_ok 6 (by decide)⟩
theorem fp_X0_47 : mm_Fp RX0 47 5 0 .int := ⟨RX5, TX5, 18, tyX5, rfl, wY_X5, by decide, wf_X0_47, tyX5_ok, nmX5, rfl, tyX5_ok 0 (by decide)⟩
theorem fp_X0_50 : mm_Fp RX0 50 5 1 .int := ⟨RX5, TX5, 18, tyX5, rfl, wY_X5, by decide, wf_X0_50, tyX5_ok, nmX5, rfl, tyX5_ok 1 (by decide)⟩
theorem fp_X0_53 : mm_Fp RX0 53 5 3 .int := ⟨RX5, TX5, 18, tyX5, rfl, wY_X5, by decide, wf_X0_53, tyX5_ok, nmX5, rfl, tyX5_ok 3 (by decide)⟩
theorem fp_X0_56 : mm_Fp RX0 56 5 4 .int := ⟨RX5, TX5, 18, tyX5, rfl, wY_X5, by decide, wf_X0_56, tyX5_ok, nmX5, rfl, tyX5_ok 4 (by decide)⟩
theorem fp_X0_59 : mm_Fp RX0 59 5 7 .int := ⟨RX5, TX5, 18, tyX5, rfl, wY_X5, by decide, wf_X0_59, tyX5_ok, nmX5, rfl, tyX5_ok 7 (by decide)⟩
theorem fp_X0_71 : mm_Fp RX0 71 0 7 .int := ⟨RX0, TX0, 9, tyX0, rfl, wY_X0, by decide, wf_X0_71, tyX0_ok, nmX0, rfl, tyX0_ok 7 (by decide)⟩
theorem fp_X0_83 : mm_Fp RX0 83 5 2 .int := ⟨RX5, TX5, 18, tyX5, rfl, wY_X5, by decide, wf_X0_83, tyX5_ok, nmX5, rfl, tyX5_ok 2 (by decide)⟩
theorem fp_X0_90 : mm_Fp RX0 90 5 5 .boolean := ⟨RX5, TX5, 18, tyX5, rfl, wY_X5, by decide, wf_X0_90, tyX5_ok, nmX5, rfl, tyX5_ok 5 (by decide)⟩
theorem fp_X0_94 : mm_Fp RX0 94 5 6 .int := ⟨RX5, TX5, 18, tyX5, rfl, wY_X5, by decide, wf_X0_94, tyX5_ok, nmX5, rfl, tyX5_ok 6 (by decide)⟩
theorem fp_X0_122 : mm_Fp RX0 122 0 3 .int := ⟨RX0, TX0, 9, tyX0, rfl, wY_X0, by decide, wf_X0_122, tyX0_ok, nmX0, rfl, tyX0_ok 3 (by decide)⟩
theorem fp_X0_125 : mm_Fp RX0 125 0 4 .int := ⟨RX0, TX0, 9, tyX0, rfl, wY_X0, by decide, wf_X0_125, tyX0_ok, nmX0, rfl, tyX0_ok 4 (by decide)⟩
theorem fp_X0_128 : mm_Fp RX0 128 0 5 .int := ⟨RX0, TX0, 9, tyX0, rfl, wY_X0, by decide, wf_X0_128, tyX0_ok, nmX0, rfl, tyX0_ok 5 (by decide)⟩
theorem fp_X0_138 : mm_Fp RX0 138 5 8 .int := ⟨RX5, TX5, 18, tyX5, rfl, wY_X5, by decide, wf_X0_138, tyX5_ok, nmX5, rfl, tyX5_ok 8 (by decide)⟩
theorem fp_X0_154 : mm_Fp RX0 154 5 16 .int := ⟨RX5, TX5, 18, tyX5, rfl, wY_X5, by decide, wf_X0_154, tyX5_ok, nmX5, rfl, tyX5_ok 16 (by decide)⟩
theorem fp_X0_172 : mm_Fp RX0 172 5 15 .int := ⟨RX5, TX5, 18, tyX5, rfl, wY_X5, by decide, wf_X0_172, tyX5_ok, nmX5, rfl, tyX5_ok 15 (by decide)⟩
theorem fp_X1_27 : mm_Fp RX1 27 1 0 .int := ⟨RX1, TX1, 6, tyX1, rfl, wY_X1, by decide, wf_X1_27, tyX1_ok, nmX1, rfl, tyX1_ok 0 (by decide)⟩
theorem fp_X1_41 : mm_Fp RX1 41 5 6 .int := ⟨RX5, TX5, 18, tyX5, rfl, wY_X5, by decide, wf_X1_41, tyX5_ok, nmX5, rfl, tyX5_ok 6 (by decide)⟩
theorem fp_X1_49 : mm_Fp RX1 49 5 7 .int := ⟨RX5, TX5, 18, tyX5, rfl, wY_X5, by decide, wf_X1_49, tyX5_ok, nmX5, rfl, tyX5_ok 7 (by decide)⟩
theorem fp_X1_60 : mm_Fp RX1 60 5 0 .int := ⟨RX5, TX5, 18, tyX5, rfl, wY_X5, by decide, wf_X1_60, tyX5_ok, nmX5, rfl, tyX5_ok 0 (by decide)⟩
theorem fp_X1_66 : mm_Fp RX1 66 1 2 .int := ⟨RX1, TX1, 6, tyX1, rfl, wY_X1, by decide, wf_X1_66, tyX1_ok, nmX1, rfl, tyX1_ok 2 (by decide)⟩
theorem fp_X1_69 : mm_Fp RX1 69 1 3 .int := ⟨RX1, TX1, 6, tyX1, rfl, wY_X1, by decide, wf_X1_69, tyX1_ok, nmX1, rfl, tyX1_ok 3 (by decide)⟩
theorem fp_X2_9 : mm_Fp RX2 9 2 0 .int := ⟨RX2, TX2, 3, tyX2, rfl, wY_X2, by decide, wf_X2_9, tyX2_ok, nmX2, rfl, tyX2_ok 0 (by decide)⟩
theorem fp_X2_19 : mm_Fp RX2 19 2 1 .int := ⟨RX2, TX2, 3, tyX2, rfl, wY_X2, by decide, wf_X2_19, tyX2_ok, nmX2, rfl, tyX2_ok 1 (by decide)⟩
theorem fp_X3_9 : mm_Fp RX3 9 3 0 .int := ⟨RX3, TX3, 4, tyX3, rfl, wY_X3, by decide, wf_X3_9, tyX3_ok, nmX3, rfl, tyX3_ok 0 (by decide)⟩
theorem fp_X3_33 : mm_Fp RX3 33 3 1 .int := ⟨RX3, TX3, 4, tyX3, rfl, wY_X3, by decide, wf_X3_33, tyX3_ok, nmX3, rfl, tyX3_ok 1 (by decide)⟩
theorem fp_X4_15 : mm_Fp RX4 15 4 0 .int := ⟨RX4, TX4, 3, tyX4, rfl, wY_X4, by decide, wf_X4_15, tyX4_ok, nmX4, rfl, tyX4_ok 0 (by decide)⟩
theorem fp_X4_19 : mm_Fp RX4 19 4 1 .int := ⟨RX4, TX4, 3, tyX4, rfl, wY_X4, by decide, wf_X4_19, tyX4_ok, nmX4, rfl, tyX4_ok 1 (by decide)⟩
theorem fp_X5_9 : mm_Fp RX5 9 5 8 .int := ⟨RX5, TX5, 18, tyX5, rfl, wY_X5, by decide, wf_X5_9, tyX5_ok, nmX5, rfl, tyX5_ok 8 (by decide)⟩
theorem fp_X5_18 : mm_Fp RX5 18 5 9 .int := ⟨RX5, TX5, 18, tyX5, rfl, wY_X5, by decide, wf_X5_18, tyX5_ok, nmX5, rfl, tyX5_ok 9 (by decide)⟩
theorem fp_X5_24 : mm_Fp RX5 24 5 11 .int := ⟨RX5, TX5, 18, tyX5, rfl, wY_X5, by decide, wf_X5_24, tyX5_ok, nmX5, rfl, tyX5_ok 11 (by decide)⟩
theorem fp_X5_27 : mm_Fp RX5 27 5 10 .int := ⟨RX5, TX5, 18, tyX5, rfl, wY_X5, by decide, wf_X5_27, tyX5_ok, nmX5, rfl, tyX5_ok 10 (by decide)⟩
theorem fp_X5_30 : mm_Fp RX5 30 5 12 .int := ⟨RX5, TX5, 18, tyX5, rfl, wY_X5, by decide, wf_X5_30, tyX5_ok, nmX5, rfl, tyX5_ok 12 (by decide)⟩
theorem fp_X5_36 : mm_Fp RX5 36 5 13 .int := ⟨RX5, TX5, 18, tyX5, rfl, wY_X5, by decide, wf_X5_36, tyX5_ok, nmX5, rfl, tyX5_ok 13 (by decide)⟩
theorem fp_X5_39 : mm_Fp RX5 39 5 14 .int := ⟨RX5, TX5, 18, tyX5, rfl, wY_X5, by decide, wf_X5_39, tyX5_ok, nmX5, rfl, tyX5_ok 14 (by decide)⟩
theorem fp_X5_42 : mm_Fp RX5 42 5 15 .int := ⟨RX5, TX5, 18, tyX5, rfl, wY_X5, by decide, wf_X5_42, tyX5_ok, nmX5, rfl, tyX5_ok 15 (by decide)⟩
theorem fp_X5_45 : mm_Fp RX5 45 5 16 .int := ⟨RX5, TX5, 18, tyX5, rfl, wY_X5, by decide, wf_X5_45, tyX5_ok, nmX5, rfl, tyX5_ok 16 (by decide)⟩
theorem fp_X5_48 : mm_Fp RX5 48 5 17 .int := ⟨RX5, TX5, 18, tyX5, rfl, wY_X5, by decide, wf_X5_48, tyX5_ok, nmX5, rfl, tyX5_ok 17 (by decide)⟩
theorem fp_X6_51 : mm_Fp RX6 51 3 0 .int := ⟨RX3, TX3, 4, tyX3, rfl, wY_X3, by decide, wf_X6_51, tyX3_ok, nmX3, rfl, tyX3_ok 0 (by decide)⟩
theorem fp_X6_80 : mm_Fp RX6 80 3 1 .int := ⟨RX3, TX3, 4, tyX3, rfl, wY_X3, by decide, wf_X6_80, tyX3_ok, nmX3, rfl, tyX3_ok 1 (by decide)⟩
theorem fp_X6_104 : mm_Fp RX6 104 4 0 .int := ⟨RX4, TX4, 3, tyX4, rfl, wY_X4, by decide, wf_X6_104, tyX4_ok, nmX4, rfl, tyX4_ok 0 (by decide)⟩
theorem fp_X6_218 : mm_Fp RX6 218 0 2 .int := ⟨RX0, TX0, 9, tyX0, rfl, wY_X0, by decide, wf_X6_218, tyX0_ok, nmX0, rfl, tyX0_ok 2 (by decide)⟩
theorem fp_X6_230 : mm_Fp RX6 230 6 2 .boolean := ⟨RX6, TX6, 8, tyX6, rfl, wY_X6, by decide, wf_X6_230, tyX6_ok, nmX6, rfl, tyX6_ok 2 (by decide)⟩
theorem fp_X6_251 : mm_Fp RX6 251 5 7 .int := ⟨RX5, TX5, 18, tyX5, rfl, wY_X5, by decide, wf_X6_251, tyX5_ok, nmX5, rfl, tyX5_ok 7 (by decide)⟩
theorem fp_X7_16 : mm_Fp RX7 16 7 3 .int := ⟨RX7, TX7, 43, tyX7, rfl, wY_X7, by decide, wf_X7_16, tyX7_ok, nmX7, rfl, tyX7_ok 3 (by decide)⟩
theorem fp_X7_68 : mm_Fp RX7 68 7 27 .int := ⟨RX7, TX7, 43, tyX7, rfl, wY_X7, by decide, wf_X7_68, tyX7_ok, nmX7, rfl, tyX7_ok 27 (by decide)⟩
theorem fp_X7_98 : mm_Fp RX7 98 7 1 .int := ⟨RX7, TX7, 43, tyX7, rfl, wY_X7, by decide, wf_X7_98, tyX7_ok, nmX7, rfl, tyX7_ok 1 (by decide)⟩
theorem fp_X7_155 : mm_Fp RX7 155 7 5 .int := ⟨RX7, TX7, 43, tyX7, rfl, wY_X7, by decide, wf_X7_155, tyX7_ok, nmX7, rfl, tyX7_ok 5 (by decide)⟩
theorem fp_X7_158 : mm_Fp RX7 158 7 6 .int := ⟨RX7, TX7, 43, tyX7, rfl, wY_X7, by decide, wf_X7_158, tyX7_ok, nmX7, rfl, tyX7_ok 6 (by decide)⟩
theorem fp_X7_169 : mm_Fp RX7 169 7 7 .int := ⟨RX7, TX7, 43, tyX7, rfl, wY_X7, by decide, wf_X7_169, tyX7_ok, nmX7, rfl, tyX7_ok 7 (by decide)⟩
theorem fp_X7_191 : mm_Fp RX7 191 7 23 .int := ⟨RX7, TX7, 43, tyX7, rfl, wY_X7, by decide, wf_X7_191, tyX7_ok, nmX7, rfl, tyX7_ok 23 (by decide)⟩
theorem fp_X7_194 : mm_Fp RX7 194 7 24 .int := ⟨RX7, TX7, 43, tyX7, rfl, wY_X7, by decide, wf_X7_194, tyX7_ok, nmX7, rfl, tyX7_ok 24 (by decide)⟩
theorem fp_X7_197 : mm_Fp RX7 197 7 25 .int := ⟨RX7, TX7, 43, tyX7, rfl, wY_X7, by decide, wf_X7_197, tyX7_ok, nmX7, rfl, tyX7_ok 25 (by decide)⟩
theorem fp_X7_200 : mm_Fp RX7 200 7 26 .int := ⟨RX7, TX7, 43, tyX7, rfl, wY_X7, by decide, wf_X7_200, tyX7_ok, nmX7, rfl, tyX7_ok 26 (by decide)⟩
theorem fp_X7_259 : mm_Fp RX7 259 7 29 .int := ⟨RX7, TX7, 43, tyX7, rfl, wY_X7, by decide, wf_X7_259, tyX7_ok, nmX7, rfl, tyX7_ok 29 (by decide)⟩
theorem fp_X7_265 : mm_Fp RX7 265 7 33 .int := ⟨RX7, TX7, 43, tyX7, rfl, wY_X7, by decide, wf_X7_265, tyX7_ok, nmX7, rfl, tyX7_ok 33 (by decide)⟩
theorem fp_X7_268 : mm_Fp RX7 268 7 34 .int := ⟨RX7, TX7, 43, tyX7, rfl, wY_X7, by decide, wf_X7_268, tyX7_ok, nmX7, rfl, tyX7_ok 34 (by decide)⟩
theorem fp_X7_310 : mm_Fp RX7 310 7 38 .int := ⟨RX7, TX7, 43, tyX7, rfl, wY_X7, by decide, wf_X7_310, tyX7_ok, nmX7, rfl, tyX7_ok 38 (by decide)⟩
theorem fp_X7_313 : mm_Fp RX7 313 7 39 .int := ⟨RX7, TX7, 43, tyX7, rfl, wY_X7, by decide, wf_X7_313, tyX7_ok, nmX7, rfl, tyX7_ok 39 (by decide)⟩
theorem fp_X7_316 : mm_Fp RX7 316 7 35 .boolean := ⟨RX7, TX7, 43, tyX7, rfl, wY_X7, by decide, wf_X7_316, tyX7_ok, nmX7, rfl, tyX7_ok 35 (by decide)⟩
theorem hd_J0_charAt_5068e : yJ0_charAt_5068e.cls ≠ "java/lang/invoke/MethodHandle" ∧ yJ0_charAt_5068e.cls ≠ "java/lang/invoke/VarHandle" ∧ (parseMethodDescriptor yJ0_charAt_5068e.desc).map (fun d => d.parameters.length) = some 1 := by decide +kernel
theorem hd_J0_checkIndex_df160 : yJ0_checkIndex_df160.cls ≠ "java/lang/invoke/MethodHandle" ∧ yJ0_checkIndex_df160.cls ≠ "java/lang/invoke/VarHandle" ∧ (parseMethodDescriptor yJ0_checkIndex_df160.desc).map (fun d => d.parameters.length) = some 2 := by decide +kernel
theorem hd_J0_coder_7d493 : yJ0_coder_7d493.cls ≠ "java/lang/invoke/MethodHandle" ∧ yJ0_coder_7d493.cls ≠ "java/lang/invoke/VarHandle" ∧ (parseMethodDescriptor yJ0_coder_7d493.desc).map (fun d => d.parameters.length) = some 0 := by decide +kernel
theorem hd_J0_indexOf_0f7a4 : yJ0_indexOf_0f7a4.cls ≠ "java/lang/invoke/MethodHandle" ∧ yJ0_indexOf_0f7a4.cls ≠ "java/lang/invoke/VarHandle" ∧ (parseMethodDescriptor yJ0_indexOf_0f7a4.desc).map (fun d => d.parameters.length) = some 1 := by decide +kernel
theorem hd_J0_indexOf_7cf53 : yJ0_indexOf_7cf53.cls ≠ "java/lang/invoke/MethodHandle" ∧ yJ0_indexOf_7cf53.cls ≠ "java/lang/invoke/VarHandle" ∧ (parseMethodDescriptor yJ0_indexOf_7cf53.desc).map (fun d => d.parameters.length) = some 2 := by decide +kernel
theorem hd_J0_isLatin1_aae02 : yJ0_isLatin1_aae02.cls ≠ "java/lang/invoke/MethodHandle" ∧ yJ0_isLatin1_aae02.cls ≠ "java/lang/invoke/VarHandle" ∧ (parseMethodDescriptor yJ0_isLatin1_aae02.desc).map (fun d => d.parameters.length) = some 0 := by decide +kernel
theorem hd_J0_length_8abf5 : yJ0_length_8abf5.cls ≠ "java/lang/invoke/MethodHandle" ∧ yJ0_length_8abf5.cls ≠ "java/lang/invoke/VarHandle" ∧ (parseMethodDescriptor yJ0_length_8abf5.desc).map (fun d => d.parameters.length) = some 0 := by decide +kernel
theorem hd_J1_canEncode_9a6ad : yJ1_canEncode_9a6ad.cls ≠ "java/lang/invoke/MethodHandle" ∧ yJ1_canEncode_9a6ad.cls ≠ "java/lang/invoke/VarHandle" ∧ (parseMethodDescriptor yJ1_canEncode_9a6ad.desc).map (fun d => d.parameters.length) = some 1 := by decide +kernel
theorem hd_J1_charAt_3b067 : yJ1_charAt_3b067.cls ≠ "java/lang/invoke/MethodHandle" ∧ yJ1_charAt_3b067.cls ≠ "java/lang/invoke/VarHandle" ∧ (parseMethodDescriptor yJ1_charAt_3b067.desc).map (fun d => d.parameters.length) = some 2 := by decide +kernel
theorem hd_J1_indexOfChar_4cfef : yJ1_indexOfChar_4cfef.cls ≠ "java/lang/invoke/MethodHandle" ∧ yJ1_indexOfChar_4cfef.cls ≠ "java/lang/invoke/VarHandle" ∧ (parseMethodDescriptor yJ1_indexOfChar_4cfef.desc).map (fun d => d.parameters.length) = some 4 := by decide +kernel
theorem hd_J1_indexOf_4cfef : yJ1_indexOf_4cfef.cls ≠ "java/lang/invoke/MethodHandle" ∧ yJ1_indexOf_4cfef.cls ≠ "java/lang/invoke/VarHandle" ∧ (parseMethodDescriptor yJ1_indexOf_4cfef.desc).map (fun d => d.parameters.length) = some 4 := by decide +kernel
theorem hd_J3_checkIndex_8e157 : yJ3_checkIndex_8e157.cls ≠ "java/lang/invoke/MethodHandle" ∧ yJ3_checkIndex_8e157.cls ≠ "java/lang/invoke/VarHandle" ∧ (parseMethodDescriptor yJ3_checkIndex_8e157.desc).map (fun d => d.parameters.length) = some 3 := by decide +kernel
theorem hd_J6_bitCount_0f7a4 : yJ6_bitCount_0f7a4.cls ≠ "java/lang/invoke/MethodHandle" ∧ yJ6_bitCount_0f7a4.cls ≠ "java/lang/invoke/VarHandle" ∧ (parseMethodDescriptor yJ6_bitCount_0f7a4.desc).map (fun d => d.parameters.length) = some 1 := by decide +kernel
theorem hd_X0_begin : yX0_begin.cls ≠ "java/lang/invoke/MethodHandle" ∧ yX0_begin.cls ≠ "java/lang/invoke/VarHandle" ∧ (parseMethodDescriptor yX0_begin.desc).map (fun d => d.parameters.length) = some 0 := by decide +kernel
theorem hd_X0_comeByFord : yX0_comeByFord.cls ≠ "java/lang/invoke/MethodHandle" ∧ yX0_comeByFord.cls ≠ "java/lang/invoke/VarHandle" ∧ (parseMethodDescriptor yX0_comeByFord.desc).map (fun d => d.parameters.length) = some 1 := by decide +kernel
theorem hd_X0_countOf : yX0_countOf.cls ≠ "java/lang/invoke/MethodHandle" ∧ yX0_countOf.cls ≠ "java/lang/invoke/VarHandle" ∧ (parseMethodDescriptor yX0_countOf.desc).map (fun d => d.parameters.length) = some 3 := by decide +kernel
theorem hd_X0_haveNight : yX0_haveNight.cls ≠ "java/lang/invoke/MethodHandle" ∧ yX0_haveNight.cls ≠ "java/lang/invoke/VarHandle" ∧ (parseMethodDescriptor yX0_haveNight.desc).map (fun d => d.parameters.length) = some 1 := by decide +kernel
theorem hd_X0_isHeldBack : yX0_isHeldBack.cls ≠ "java/lang/invoke/MethodHandle" ∧ yX0_isHeldBack.cls ≠ "java/lang/invoke/VarHandle" ∧ (parseMethodDescriptor yX0_isHeldBack.desc).map (fun d => d.parameters.length) = some 1 := by decide +kernel
theorem hd_X0_lastOver : yX0_lastOver.cls ≠ "java/lang/invoke/MethodHandle" ∧ yX0_lastOver.cls ≠ "java/lang/invoke/VarHandle" ∧ (parseMethodDescriptor yX0_lastOver.desc).map (fun d => d.parameters.length) = some 0 := by decide +kernel
theorem hd_X0_load : yX0_load.cls ≠ "java/lang/invoke/MethodHandle" ∧ yX0_load.cls ≠ "java/lang/invoke/VarHandle" ∧ (parseMethodDescriptor yX0_load.desc).map (fun d => d.parameters.length) = some 1 := by decide +kernel
theorem hd_X0_loadBridge : yX0_loadBridge.cls ≠ "java/lang/invoke/MethodHandle" ∧ yX0_loadBridge.cls ≠ "java/lang/invoke/VarHandle" ∧ (parseMethodDescriptor yX0_loadBridge.desc).map (fun d => d.parameters.length) = some 2 := by decide +kernel
theorem hd_X0_loadOnce : yX0_loadOnce.cls ≠ "java/lang/invoke/MethodHandle" ∧ yX0_loadOnce.cls ≠ "java/lang/invoke/VarHandle" ∧ (parseMethodDescriptor yX0_loadOnce.desc).map (fun d => d.parameters.length) = some 3 := by decide +kernel
theorem hd_X0_loadWalker : yX0_loadWalker.cls ≠ "java/lang/invoke/MethodHandle" ∧ yX0_loadWalker.cls ≠ "java/lang/invoke/VarHandle" ∧ (parseMethodDescriptor yX0_loadWalker.desc).map (fun d => d.parameters.length) = some 3 := by decide +kernel
theorem hd_X0_onBridgeFrom : yX0_onBridgeFrom.cls ≠ "java/lang/invoke/MethodHandle" ∧ yX0_onBridgeFrom.cls ≠ "java/lang/invoke/VarHandle" ∧ (parseMethodDescriptor yX0_onBridgeFrom.desc).map (fun d => d.parameters.length) = some 1 := by decide +kernel
theorem hd_X0_quietAfter : yX0_quietAfter.cls ≠ "java/lang/invoke/MethodHandle" ∧ yX0_quietAfter.cls ≠ "java/lang/invoke/VarHandle" ∧ (parseMethodDescriptor yX0_quietAfter.desc).map (fun d => d.parameters.length) = some 1 := by decide +kernel
theorem hd_X0_run : yX0_run.cls ≠ "java/lang/invoke/MethodHandle" ∧ yX0_run.cls ≠ "java/lang/invoke/VarHandle" ∧ (parseMethodDescriptor yX0_run.desc).map (fun d => d.parameters.length) = some 1 := by decide +kernel
theorem hd_X0_start : yX0_start.cls ≠ "java/lang/invoke/MethodHandle" ∧ yX0_start.cls ≠ "java/lang/invoke/VarHandle" ∧ (parseMethodDescriptor yX0_start.desc).map (fun d => d.parameters.length) = some 1 := by decide +kernel
theorem hd_X0_stepOff : yX0_stepOff.cls ≠ "java/lang/invoke/MethodHandle" ∧ yX0_stepOff.cls ≠ "java/lang/invoke/VarHandle" ∧ (parseMethodDescriptor yX0_stepOff.desc).map (fun d => d.parameters.length) = some 1 := by decide +kernel
theorem hd_X0_stepOffFrom : yX0_stepOffFrom.cls ≠ "java/lang/invoke/MethodHandle" ∧ yX0_stepOffFrom.cls ≠ "java/lang/invoke/VarHandle" ∧ (parseMethodDescriptor yX0_stepOffFrom.desc).map (fun d => d.parameters.length) = some 2 := by decide +kernel
theorem hd_X0_sumOfFords : yX0_sumOfFords.cls ≠ "java/lang/invoke/MethodHandle" ∧ yX0_sumOfFords.cls ≠ "java/lang/invoke/VarHandle" ∧ (parseMethodDescriptor yX0_sumOfFords.desc).map (fun d => d.parameters.length) = some 0 := by decide +kernel
theorem hd_X0_sumOfOver : yX0_sumOfOver.cls ≠ "java/lang/invoke/MethodHandle" ∧ yX0_sumOfOver.cls ≠ "java/lang/invoke/VarHandle" ∧ (parseMethodDescriptor yX0_sumOfOver.desc).map (fun d => d.parameters.length) = some 0 := by decide +kernel
theorem hd_X0_takeRope : yX0_takeRope.cls ≠ "java/lang/invoke/MethodHandle" ∧ yX0_takeRope.cls ≠ "java/lang/invoke/VarHandle" ∧ (parseMethodDescriptor yX0_takeRope.desc).map (fun d => d.parameters.length) = some 1 := by decide +kernel
theorem hd_X0_walk : yX0_walk.cls ≠ "java/lang/invoke/MethodHandle" ∧ yX0_walk.cls ≠ "java/lang/invoke/VarHandle" ∧ (parseMethodDescriptor yX0_walk.desc).map (fun d => d.parameters.length) = some 0 := by decide +kernel
theorem hd_X0_whoIs : yX0_whoIs.cls ≠ "java/lang/invoke/MethodHandle" ∧ yX0_whoIs.cls ≠ "java/lang/invoke/VarHandle" ∧ (parseMethodDescriptor yX0_whoIs.desc).map (fun d => d.parameters.length) = some 1 := by decide +kernel
theorem hd_X1_begin : yX1_begin.cls ≠ "java/lang/invoke/MethodHandle" ∧ yX1_begin.cls ≠ "java/lang/invoke/VarHandle" ∧ (parseMethodDescriptor yX1_begin.desc).map (fun d => d.parameters.length) = some 2 := by decide +kernel
theorem hd_X1_bestPerson : yX1_bestPerson.cls ≠ "java/lang/invoke/MethodHandle" ∧ yX1_bestPerson.cls ≠ "java/lang/invoke/VarHandle" ∧ (parseMethodDescriptor yX1_bestPerson.desc).map (fun d => d.parameters.length) = some 1 := by decide +kernel
theorem hd_X1_choose : yX1_choose.cls ≠ "java/lang/invoke/MethodHandle" ∧ yX1_choose.cls ≠ "java/lang/invoke/VarHandle" ∧ (parseMethodDescriptor yX1_choose.desc).map (fun d => d.parameters.length) = some 2 := by decide +kernel
theorem hd_X1_companyOf : yX1_companyOf.cls ≠ "java/lang/invoke/MethodHandle" ∧ yX1_companyOf.cls ≠ "java/lang/invoke/VarHandle" ∧ (parseMethodDescriptor yX1_companyOf.desc).map (fun d => d.parameters.length) = some 1 := by decide +kernel
theorem hd_X1_findCompanies : yX1_findCompanies.cls ≠ "java/lang/invoke/MethodHandle" ∧ yX1_findCompanies.cls ≠ "java/lang/invoke/VarHandle" ∧ (parseMethodDescriptor yX1_findCompanies.desc).map (fun d => d.parameters.length) = some 2 := by decide +kernel
theorem hd_X1_findRow : yX1_findRow.cls ≠ "java/lang/invoke/MethodHandle" ∧ yX1_findRow.cls ≠ "java/lang/invoke/VarHandle" ∧ (parseMethodDescriptor yX1_findRow.desc).map (fun d => d.parameters.length) = some 3 := by decide +kernel
theorem hd_X1_found : yX1_found.cls ≠ "java/lang/invoke/MethodHandle" ∧ yX1_found.cls ≠ "java/lang/invoke/VarHandle" ∧ (parseMethodDescriptor yX1_found.desc).map (fun d => d.parameters.length) = some 1 := by decide +kernel
theorem hd_X1_keepIfBetter : yX1_keepIfBetter.cls ≠ "java/lang/invoke/MethodHandle" ∧ yX1_keepIfBetter.cls ≠ "java/lang/invoke/VarHandle" ∧ (parseMethodDescriptor yX1_keepIfBetter.desc).map (fun d => d.parameters.length) = some 1 := by decide +kernel
theorem hd_X1_makeNextCompanies : yX1_makeNextCompanies.cls ≠ "java/lang/invoke/MethodHandle" ∧ yX1_makeNextCompanies.cls ≠ "java/lang/invoke/VarHandle" ∧ (parseMethodDescriptor yX1_makeNextCompanies.desc).map (fun d => d.parameters.length) = some 0 := by decide +kernel
theorem hd_X1_makeNextRow : yX1_makeNextRow.cls ≠ "java/lang/invoke/MethodHandle" ∧ yX1_makeNextRow.cls ≠ "java/lang/invoke/VarHandle" ∧ (parseMethodDescriptor yX1_makeNextRow.desc).map (fun d => d.parameters.length) = some 0 := by decide +kernel
theorem hd_X1_mostAhead : yX1_mostAhead.cls ≠ "java/lang/invoke/MethodHandle" ∧ yX1_mostAhead.cls ≠ "java/lang/invoke/VarHandle" ∧ (parseMethodDescriptor yX1_mostAhead.desc).map (fun d => d.parameters.length) = some 1 := by decide +kernel
theorem hd_X1_swap : yX1_swap.cls ≠ "java/lang/invoke/MethodHandle" ∧ yX1_swap.cls ≠ "java/lang/invoke/VarHandle" ∧ (parseMethodDescriptor yX1_swap.desc).map (fun d => d.parameters.length) = some 2 := by decide +kernel
theorem hd_X2_begin : yX2_begin.cls ≠ "java/lang/invoke/MethodHandle" ∧ yX2_begin.cls ≠ "java/lang/invoke/VarHandle" ∧ (parseMethodDescriptor yX2_begin.desc).map (fun d => d.parameters.length) = some 2 := by decide +kernel
theorem hd_X2_put : yX2_put.cls ≠ "java/lang/invoke/MethodHandle" ∧ yX2_put.cls ≠ "java/lang/invoke/VarHandle" ∧ (parseMethodDescriptor yX2_put.desc).map (fun d => d.parameters.length) = some 2 := by decide +kernel
theorem hd_X3_become : yX3_become.cls ≠ "java/lang/invoke/MethodHandle" ∧ yX3_become.cls ≠ "java/lang/invoke/VarHandle" ∧ (parseMethodDescriptor yX3_become.desc).map (fun d => d.parameters.length) = some 1 := by decide +kernel
theorem hd_X3_enlist : yX3_enlist.cls ≠ "java/lang/invoke/MethodHandle" ∧ yX3_enlist.cls ≠ "java/lang/invoke/VarHandle" ∧ (parseMethodDescriptor yX3_enlist.desc).map (fun d => d.parameters.length) = some 2 := by decide +kernel
theorem hd_X3_has : yX3_has.cls ≠ "java/lang/invoke/MethodHandle" ∧ yX3_has.cls ≠ "java/lang/invoke/VarHandle" ∧ (parseMethodDescriptor yX3_has.desc).map (fun d => d.parameters.length) = some 1 := by decide +kernel
theorem hd_X3_hasRoom : yX3_hasRoom.cls ≠ "java/lang/invoke/MethodHandle" ∧ yX3_hasRoom.cls ≠ "java/lang/invoke/VarHandle" ∧ (parseMethodDescriptor yX3_hasRoom.desc).map (fun d => d.parameters.length) = some 1 := by decide +kernel
theorem hd_X3_isSpiting : yX3_isSpiting.cls ≠ "java/lang/invoke/MethodHandle" ∧ yX3_isSpiting.cls ≠ "java/lang/invoke/VarHandle" ∧ (parseMethodDescriptor yX3_isSpiting.desc).map (fun d => d.parameters.length) = some 1 := by decide +kernel
theorem hd_X3_mayCome : yX3_mayCome.cls ≠ "java/lang/invoke/MethodHandle" ∧ yX3_mayCome.cls ≠ "java/lang/invoke/VarHandle" ∧ (parseMethodDescriptor yX3_mayCome.desc).map (fun d => d.parameters.length) = some 2 := by decide +kernel
theorem hd_X3_paceOf : yX3_paceOf.cls ≠ "java/lang/invoke/MethodHandle" ∧ yX3_paceOf.cls ≠ "java/lang/invoke/VarHandle" ∧ (parseMethodDescriptor yX3_paceOf.desc).map (fun d => d.parameters.length) = some 1 := by decide +kernel
theorem hd_X4_fault : yX4_fault.cls ≠ "java/lang/invoke/MethodHandle" ∧ yX4_fault.cls ≠ "java/lang/invoke/VarHandle" ∧ (parseMethodDescriptor yX4_fault.desc).map (fun d => d.parameters.length) = some 0 := by decide +kernel
theorem hd_X4_peek : yX4_peek.cls ≠ "java/lang/invoke/MethodHandle" ∧ yX4_peek.cls ≠ "java/lang/invoke/VarHandle" ∧ (parseMethodDescriptor yX4_peek.desc).map (fun d => d.parameters.length) = some 0 := by decide +kernel
theorem hd_X4_put : yX4_put.cls ≠ "java/lang/invoke/MethodHandle" ∧ yX4_put.cls ≠ "java/lang/invoke/VarHandle" ∧ (parseMethodDescriptor yX4_put.desc).map (fun d => d.parameters.length) = some 1 := by decide +kernel
theorem hd_X4_readLaws : yX4_readLaws.cls ≠ "java/lang/invoke/MethodHandle" ∧ yX4_readLaws.cls ≠ "java/lang/invoke/VarHandle" ∧ (parseMethodDescriptor yX4_readLaws.desc).map (fun d => d.parameters.length) = some 1 := by decide +kernel
theorem hd_X4_readLetter : yX4_readLetter.cls ≠ "java/lang/invoke/MethodHandle" ∧ yX4_readLetter.cls ≠ "java/lang/invoke/VarHandle" ∧ (parseMethodDescriptor yX4_readLetter.desc).map (fun d => d.parameters.length) = some 1 := by decide +kernel
theorem hd_X4_readNumber : yX4_readNumber.cls ≠ "java/lang/invoke/MethodHandle" ∧ yX4_readNumber.cls ≠ "java/lang/invoke/VarHandle" ∧ (parseMethodDescriptor yX4_readNumber.desc).map (fun d => d.parameters.length) = some 2 := by decide +kernel
theorem hd_X4_readPeople : yX4_readPeople.cls ≠ "java/lang/invoke/MethodHandle" ∧ yX4_readPeople.cls ≠ "java/lang/invoke/VarHandle" ∧ (parseMethodDescriptor yX4_readPeople.desc).map (fun d => d.parameters.length) = some 1 := by decide +kernel
theorem hd_X4_readPerson : yX4_readPerson.cls ≠ "java/lang/invoke/MethodHandle" ∧ yX4_readPerson.cls ≠ "java/lang/invoke/VarHandle" ∧ (parseMethodDescriptor yX4_readPerson.desc).map (fun d => d.parameters.length) = some 2 := by decide +kernel
theorem hd_X4_readTrips : yX4_readTrips.cls ≠ "java/lang/invoke/MethodHandle" ∧ yX4_readTrips.cls ≠ "java/lang/invoke/VarHandle" ∧ (parseMethodDescriptor yX4_readTrips.desc).map (fun d => d.parameters.length) = some 0 := by decide +kernel
theorem hd_X5_begin : yX5_begin.cls ≠ "java/lang/invoke/MethodHandle" ∧ yX5_begin.cls ≠ "java/lang/invoke/VarHandle" ∧ (parseMethodDescriptor yX5_begin.desc).map (fun d => d.parameters.length) = some 0 := by decide +kernel
theorem hd_X5_comeOver : yX5_comeOver.cls ≠ "java/lang/invoke/MethodHandle" ∧ yX5_comeOver.cls ≠ "java/lang/invoke/VarHandle" ∧ (parseMethodDescriptor yX5_comeOver.desc).map (fun d => d.parameters.length) = some 1 := by decide +kernel
theorem hd_X5_isOnBridge : yX5_isOnBridge.cls ≠ "java/lang/invoke/MethodHandle" ∧ yX5_isOnBridge.cls ≠ "java/lang/invoke/VarHandle" ∧ (parseMethodDescriptor yX5_isOnBridge.desc).map (fun d => d.parameters.length) = some 0 := by decide +kernel
theorem hd_X5_nextTurn : yX5_nextTurn.cls ≠ "java/lang/invoke/MethodHandle" ∧ yX5_nextTurn.cls ≠ "java/lang/invoke/VarHandle" ∧ (parseMethodDescriptor yX5_nextTurn.desc).map (fun d => d.parameters.length) = some 2 := by decide +kernel
theorem hd_X5_pass : yX5_pass.cls ≠ "java/lang/invoke/MethodHandle" ∧ yX5_pass.cls ≠ "java/lang/invoke/VarHandle" ∧ (parseMethodDescriptor yX5_pass.desc).map (fun d => d.parameters.length) = some 1 := by decide +kernel
theorem hd_X5_startByFord : yX5_startByFord.cls ≠ "java/lang/invoke/MethodHandle" ∧ yX5_startByFord.cls ≠ "java/lang/invoke/VarHandle" ∧ (parseMethodDescriptor yX5_startByFord.desc).map (fun d => d.parameters.length) = some 1 := by decide +kernel
theorem hd_X5_stepOn : yX5_stepOn.cls ≠ "java/lang/invoke/MethodHandle" ∧ yX5_stepOn.cls ≠ "java/lang/invoke/VarHandle" ∧ (parseMethodDescriptor yX5_stepOn.desc).map (fun d => d.parameters.length) = some 1 := by decide +kernel
theorem hd_X6_cutUp : yX6_cutUp.cls ≠ "java/lang/invoke/MethodHandle" ∧ yX6_cutUp.cls ≠ "java/lang/invoke/VarHandle" ∧ (parseMethodDescriptor yX6_cutUp.desc).map (fun d => d.parameters.length) = some 2 := by decide +kernel
theorem hd_X6_enlistAll : yX6_enlistAll.cls ≠ "java/lang/invoke/MethodHandle" ∧ yX6_enlistAll.cls ≠ "java/lang/invoke/VarHandle" ∧ (parseMethodDescriptor yX6_enlistAll.desc).map (fun d => d.parameters.length) = some 3 := by decide +kernel
theorem hd_X6_half : yX6_half.cls ≠ "java/lang/invoke/MethodHandle" ∧ yX6_half.cls ≠ "java/lang/invoke/VarHandle" ∧ (parseMethodDescriptor yX6_half.desc).map (fun d => d.parameters.length) = some 1 := by decide +kernel
theorem hd_X6_isWithin : yX6_isWithin.cls ≠ "java/lang/invoke/MethodHandle" ∧ yX6_isWithin.cls ≠ "java/lang/invoke/VarHandle" ∧ (parseMethodDescriptor yX6_isWithin.desc).map (fun d => d.parameters.length) = some 2 := by decide +kernel
theorem hd_X6_lowByte : yX6_lowByte.cls ≠ "java/lang/invoke/MethodHandle" ∧ yX6_lowByte.cls ≠ "java/lang/invoke/VarHandle" ∧ (parseMethodDescriptor yX6_lowByte.desc).map (fun d => d.parameters.length) = some 2 := by decide +kernel
theorem hd_X6_refusedRow : yX6_refusedRow.cls ≠ "java/lang/invoke/MethodHandle" ∧ yX6_refusedRow.cls ≠ "java/lang/invoke/VarHandle" ∧ (parseMethodDescriptor yX6_refusedRow.desc).map (fun d => d.parameters.length) = some 4 := by decide +kernel
theorem hd_X6_sumIfHeld : yX6_sumIfHeld.cls ≠ "java/lang/invoke/MethodHandle" ∧ yX6_sumIfHeld.cls ≠ "java/lang/invoke/VarHandle" ∧ (parseMethodDescriptor yX6_sumIfHeld.desc).map (fun d => d.parameters.length) = some 2 := by decide +kernel
theorem hd_X7_add : yX7_add.cls ≠ "java/lang/invoke/MethodHandle" ∧ yX7_add.cls ≠ "java/lang/invoke/VarHandle" ∧ (parseMethodDescriptor yX7_add.desc).map (fun d => d.parameters.length) = some 5 := by decide +kernel
theorem hd_X7_addRead : yX7_addRead.cls ≠ "java/lang/invoke/MethodHandle" ∧ yX7_addRead.cls ≠ "java/lang/invoke/VarHandle" ∧ (parseMethodDescriptor yX7_addRead.desc).map (fun d => d.parameters.length) = some 0 := by decide +kernel
theorem hd_X7_asLane : yX7_asLane.cls ≠ "java/lang/invoke/MethodHandle" ∧ yX7_asLane.cls ≠ "java/lang/invoke/VarHandle" ∧ (parseMethodDescriptor yX7_asLane.desc).map (fun d => d.parameters.length) = some 2 := by decide +kernel
theorem hd_X7_begin : yX7_begin.cls ≠ "java/lang/invoke/MethodHandle" ∧ yX7_begin.cls ≠ "java/lang/invoke/VarHandle" ∧ (parseMethodDescriptor yX7_begin.desc).map (fun d => d.parameters.length) = some 0 := by decide +kernel
theorem hd_X7_beginSome : yX7_beginSome.cls ≠ "java/lang/invoke/MethodHandle" ∧ yX7_beginSome.cls ≠ "java/lang/invoke/VarHandle" ∧ (parseMethodDescriptor yX7_beginSome.desc).map (fun d => d.parameters.length) = some 0 := by decide +kernel
theorem hd_X7_comeOver : yX7_comeOver.cls ≠ "java/lang/invoke/MethodHandle" ∧ yX7_comeOver.cls ≠ "java/lang/invoke/VarHandle" ∧ (parseMethodDescriptor yX7_comeOver.desc).map (fun d => d.parameters.length) = some 2 := by decide +kernel
theorem hd_X7_countsAt : yX7_countsAt.cls ≠ "java/lang/invoke/MethodHandle" ∧ yX7_countsAt.cls ≠ "java/lang/invoke/VarHandle" ∧ (parseMethodDescriptor yX7_countsAt.desc).map (fun d => d.parameters.length) = some 4 := by decide +kernel
theorem hd_X7_goAll : yX7_goAll.cls ≠ "java/lang/invoke/MethodHandle" ∧ yX7_goAll.cls ≠ "java/lang/invoke/VarHandle" ∧ (parseMethodDescriptor yX7_goAll.desc).map (fun d => d.parameters.length) = some 0 := by decide +kernel
theorem hd_X7_goCompanies : yX7_goCompanies.cls ≠ "java/lang/invoke/MethodHandle" ∧ yX7_goCompanies.cls ≠ "java/lang/invoke/VarHandle" ∧ (parseMethodDescriptor yX7_goCompanies.desc).map (fun d => d.parameters.length) = some 0 := by decide +kernel
theorem hd_X7_goOn : yX7_goOn.cls ≠ "java/lang/invoke/MethodHandle" ∧ yX7_goOn.cls ≠ "java/lang/invoke/VarHandle" ∧ (parseMethodDescriptor yX7_goOn.desc).map (fun d => d.parameters.length) = some 0 := by decide +kernel
theorem hd_X7_goOrder : yX7_goOrder.cls ≠ "java/lang/invoke/MethodHandle" ∧ yX7_goOrder.cls ≠ "java/lang/invoke/VarHandle" ∧ (parseMethodDescriptor yX7_goOrder.desc).map (fun d => d.parameters.length) = some 1 := by decide +kernel
theorem hd_X7_goSome : yX7_goSome.cls ≠ "java/lang/invoke/MethodHandle" ∧ yX7_goSome.cls ≠ "java/lang/invoke/VarHandle" ∧ (parseMethodDescriptor yX7_goSome.desc).map (fun d => d.parameters.length) = some 1 := by decide +kernel
theorem hd_X7_goTo : yX7_goTo.cls ≠ "java/lang/invoke/MethodHandle" ∧ yX7_goTo.cls ≠ "java/lang/invoke/VarHandle" ∧ (parseMethodDescriptor yX7_goTo.desc).map (fun d => d.parameters.length) = some 1 := by decide +kernel
theorem hd_X7_grow : yX7_grow.cls ≠ "java/lang/invoke/MethodHandle" ∧ yX7_grow.cls ≠ "java/lang/invoke/VarHandle" ∧ (parseMethodDescriptor yX7_grow.desc).map (fun d => d.parameters.length) = some 1 := by decide +kernel
theorem hd_X7_has : yX7_has.cls ≠ "java/lang/invoke/MethodHandle" ∧ yX7_has.cls ≠ "java/lang/invoke/VarHandle" ∧ (parseMethodDescriptor yX7_has.desc).map (fun d => d.parameters.length) = some 2 := by decide +kernel
theorem hd_X7_in : yX7_in.cls ≠ "java/lang/invoke/MethodHandle" ∧ yX7_in.cls ≠ "java/lang/invoke/VarHandle" ∧ (parseMethodDescriptor yX7_in.desc).map (fun d => d.parameters.length) = some 3 := by decide +kernel
theorem hd_X7_isPerson : yX7_isPerson.cls ≠ "java/lang/invoke/MethodHandle" ∧ yX7_isPerson.cls ≠ "java/lang/invoke/VarHandle" ∧ (parseMethodDescriptor yX7_isPerson.desc).map (fun d => d.parameters.length) = some 1 := by decide +kernel
theorem hd_X7_isSheet : yX7_isSheet.cls ≠ "java/lang/invoke/MethodHandle" ∧ yX7_isSheet.cls ≠ "java/lang/invoke/VarHandle" ∧ (parseMethodDescriptor yX7_isSheet.desc).map (fun d => d.parameters.length) = some 2 := by decide +kernel
theorem hd_X7_isSpiting : yX7_isSpiting.cls ≠ "java/lang/invoke/MethodHandle" ∧ yX7_isSpiting.cls ≠ "java/lang/invoke/VarHandle" ∧ (parseMethodDescriptor yX7_isSpiting.desc).map (fun d => d.parameters.length) = some 1 := by decide +kernel
theorem hd_X7_judge : yX7_judge.cls ≠ "java/lang/invoke/MethodHandle" ∧ yX7_judge.cls ≠ "java/lang/invoke/VarHandle" ∧ (parseMethodDescriptor yX7_judge.desc).map (fun d => d.parameters.length) = some 0 := by decide +kernel
theorem hd_X7_lacksRow : yX7_lacksRow.cls ≠ "java/lang/invoke/MethodHandle" ∧ yX7_lacksRow.cls ≠ "java/lang/invoke/VarHandle" ∧ (parseMethodDescriptor yX7_lacksRow.desc).map (fun d => d.parameters.length) = some 4 := by decide +kernel
theorem hd_X7_lastOver : yX7_lastOver.cls ≠ "java/lang/invoke/MethodHandle" ∧ yX7_lastOver.cls ≠ "java/lang/invoke/VarHandle" ∧ (parseMethodDescriptor yX7_lastOver.desc).map (fun d => d.parameters.length) = some 0 := by decide +kernel
theorem hd_X7_least : yX7_least.cls ≠ "java/lang/invoke/MethodHandle" ∧ yX7_least.cls ≠ "java/lang/invoke/VarHandle" ∧ (parseMethodDescriptor yX7_least.desc).map (fun d => d.parameters.length) = some 2 := by decide +kernel
theorem hd_X7_leastOf : yX7_leastOf.cls ≠ "java/lang/invoke/MethodHandle" ∧ yX7_leastOf.cls ≠ "java/lang/invoke/VarHandle" ∧ (parseMethodDescriptor yX7_leastOf.desc).map (fun d => d.parameters.length) = some 1 := by decide +kernel
theorem hd_X7_letterOf : yX7_letterOf.cls ≠ "java/lang/invoke/MethodHandle" ∧ yX7_letterOf.cls ≠ "java/lang/invoke/VarHandle" ∧ (parseMethodDescriptor yX7_letterOf.desc).map (fun d => d.parameters.length) = some 1 := by decide +kernel
theorem hd_X7_may : yX7_may.cls ≠ "java/lang/invoke/MethodHandle" ∧ yX7_may.cls ≠ "java/lang/invoke/VarHandle" ∧ (parseMethodDescriptor yX7_may.desc).map (fun d => d.parameters.length) = some 5 := by decide +kernel
theorem hd_X7_most : yX7_most.cls ≠ "java/lang/invoke/MethodHandle" ∧ yX7_most.cls ≠ "java/lang/invoke/VarHandle" ∧ (parseMethodDescriptor yX7_most.desc).map (fun d => d.parameters.length) = some 2 := by decide +kernel
theorem hd_X7_mostOf : yX7_mostOf.cls ≠ "java/lang/invoke/MethodHandle" ∧ yX7_mostOf.cls ≠ "java/lang/invoke/VarHandle" ∧ (parseMethodDescriptor yX7_mostOf.desc).map (fun d => d.parameters.length) = some 1 := by decide +kernel
theorem hd_X7_mustWait : yX7_mustWait.cls ≠ "java/lang/invoke/MethodHandle" ∧ yX7_mustWait.cls ≠ "java/lang/invoke/VarHandle" ∧ (parseMethodDescriptor yX7_mustWait.desc).map (fun d => d.parameters.length) = some 1 := by decide +kernel
theorem hd_X7_nextByte : yX7_nextByte.cls ≠ "java/lang/invoke/MethodHandle" ∧ yX7_nextByte.cls ≠ "java/lang/invoke/VarHandle" ∧ (parseMethodDescriptor yX7_nextByte.desc).map (fun d => d.parameters.length) = some 0 := by decide +kernel
theorem hd_X7_nextOrder : yX7_nextOrder.cls ≠ "java/lang/invoke/MethodHandle" ∧ yX7_nextOrder.cls ≠ "java/lang/invoke/VarHandle" ∧ (parseMethodDescriptor yX7_nextOrder.desc).map (fun d => d.parameters.length) = some 0 := by decide +kernel
theorem hd_X7_nextRow : yX7_nextRow.cls ≠ "java/lang/invoke/MethodHandle" ∧ yX7_nextRow.cls ≠ "java/lang/invoke/VarHandle" ∧ (parseMethodDescriptor yX7_nextRow.desc).map (fun d => d.parameters.length) = some 0 := by decide +kernel
theorem hd_X7_onesOf : yX7_onesOf.cls ≠ "java/lang/invoke/MethodHandle" ∧ yX7_onesOf.cls ≠ "java/lang/invoke/VarHandle" ∧ (parseMethodDescriptor yX7_onesOf.desc).map (fun d => d.parameters.length) = some 1 := by decide +kernel
theorem hd_X7_paceOf : yX7_paceOf.cls ≠ "java/lang/invoke/MethodHandle" ∧ yX7_paceOf.cls ≠ "java/lang/invoke/VarHandle" ∧ (parseMethodDescriptor yX7_paceOf.desc).map (fun d => d.parameters.length) = some 1 := by decide +kernel
theorem hd_X7_readLaws : yX7_readLaws.cls ≠ "java/lang/invoke/MethodHandle" ∧ yX7_readLaws.cls ≠ "java/lang/invoke/VarHandle" ∧ (parseMethodDescriptor yX7_readLaws.desc).map (fun d => d.parameters.length) = some 0 := by decide +kernel
theorem hd_X7_readNumber : yX7_readNumber.cls ≠ "java/lang/invoke/MethodHandle" ∧ yX7_readNumber.cls ≠ "java/lang/invoke/VarHandle" ∧ (parseMethodDescriptor yX7_readNumber.desc).map (fun d => d.parameters.length) = some 2 := by decide +kernel
theorem hd_X7_readPeople : yX7_readPeople.cls ≠ "java/lang/invoke/MethodHandle" ∧ yX7_readPeople.cls ≠ "java/lang/invoke/VarHandle" ∧ (parseMethodDescriptor yX7_readPeople.desc).map (fun d => d.parameters.length) = some 0 := by decide +kernel
theorem hd_X7_readPerson : yX7_readPerson.cls ≠ "java/lang/invoke/MethodHandle" ∧ yX7_readPerson.cls ≠ "java/lang/invoke/VarHandle" ∧ (parseMethodDescriptor yX7_readPerson.desc).map (fun d => d.parameters.length) = some 1 := by decide +kernel
theorem hd_X7_start : yX7_start.cls ≠ "java/lang/invoke/MethodHandle" ∧ yX7_start.cls ≠ "java/lang/invoke/VarHandle" ∧ (parseMethodDescriptor yX7_start.desc).map (fun d => d.parameters.length) = some 2 := by decide +kernel
theorem hd_X7_startAll : yX7_startAll.cls ≠ "java/lang/invoke/MethodHandle" ∧ yX7_startAll.cls ≠ "java/lang/invoke/VarHandle" ∧ (parseMethodDescriptor yX7_startAll.desc).map (fun d => d.parameters.length) = some 1 := by decide +kernel
theorem hd_X7_stepOff : yX7_stepOff.cls ≠ "java/lang/invoke/MethodHandle" ∧ yX7_stepOff.cls ≠ "java/lang/invoke/VarHandle" ∧ (parseMethodDescriptor yX7_stepOff.desc).map (fun d => d.parameters.length) = some 1 := by decide +kernel
theorem hd_X7_sumIf : yX7_sumIf.cls ≠ "java/lang/invoke/MethodHandle" ∧ yX7_sumIf.cls ≠ "java/lang/invoke/VarHandle" ∧ (parseMethodDescriptor yX7_sumIf.desc).map (fun d => d.parameters.length) = some 2 := by decide +kernel
theorem hd_X7_sumOver : yX7_sumOver.cls ≠ "java/lang/invoke/MethodHandle" ∧ yX7_sumOver.cls ≠ "java/lang/invoke/VarHandle" ∧ (parseMethodDescriptor yX7_sumOver.desc).map (fun d => d.parameters.length) = some 0 := by decide +kernel
theorem hd_X7_takeSome : yX7_takeSome.cls ≠ "java/lang/invoke/MethodHandle" ∧ yX7_takeSome.cls ≠ "java/lang/invoke/VarHandle" ∧ (parseMethodDescriptor yX7_takeSome.desc).map (fun d => d.parameters.length) = some 1 := by decide +kernel
theorem hd_X7_wetOf : yX7_wetOf.cls ≠ "java/lang/invoke/MethodHandle" ∧ yX7_wetOf.cls ≠ "java/lang/invoke/VarHandle" ∧ (parseMethodDescriptor yX7_wetOf.desc).map (fun d => d.parameters.length) = some 1 := by decide +kernel
