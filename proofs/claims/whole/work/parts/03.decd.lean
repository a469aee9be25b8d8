theorem dX7_init_0 : decode cX7_init 0 = .ok (.aload_n 0, 1) := by decide +kernel
theorem dX7_init_1 : decode cX7_init 1 = .ok (.invokespecial 1, 3) := by decide +kernel
theorem dX7_init_4 : decode cX7_init 4 = .ok (.aload_n 0, 1) := by decide +kernel
theorem dX7_init_5 : decode cX7_init 5 = .ok (.bipush 70, 2) := by decide +kernel
theorem dX7_init_7 : decode cX7_init 7 = .ok (.newarray .int, 2) := by decide +kernel
theorem dX7_init_9 : decode cX7_init 9 = .ok (.putfield 7, 3) := by decide +kernel
theorem dX7_init_12 : decode cX7_init 12 = .ok (.aload_n 0, 1) := by decide +kernel
theorem dX7_init_13 : decode cX7_init 13 = .ok (.bipush 6, 2) := by decide +kernel
theorem dX7_init_15 : decode cX7_init 15 = .ok (.newarray .int, 2) := by decide +kernel
theorem dX7_init_17 : decode cX7_init 17 = .ok (.putfield 13, 3) := by decide +kernel
theorem dX7_init_20 : decode cX7_init 20 = .ok (.aload_n 0, 1) := by decide +kernel
theorem dX7_init_21 : decode cX7_init 21 = .ok (.bipush 20, 2) := by decide +kernel
theorem dX7_init_23 : decode cX7_init 23 = .ok (.putfield 16, 3) := by decide +kernel
theorem dX7_init_26 : decode cX7_init 26 = .ok (.aload_n 0, 1) := by decide +kernel
theorem dX7_init_27 : decode cX7_init 27 = .ok (.bipush 80, 2) := by decide +kernel
theorem dX7_init_29 : decode cX7_init 29 = .ok (.newarray .int, 2) := by decide +kernel
theorem dX7_init_31 : decode cX7_init 31 = .ok (.putfield 20, 3) := by decide +kernel
theorem dX7_init_34 : decode cX7_init 34 = .ok (.aload_n 0, 1) := by decide +kernel
theorem dX7_init_35 : decode cX7_init 35 = .ok (.bipush 30, 2) := by decide +kernel
theorem dX7_init_37 : decode cX7_init 37 = .ok (.newarray .int, 2) := by decide +kernel
theorem dX7_init_39 : decode cX7_init 39 = .ok (.putfield 23, 3) := by decide +kernel
theorem dX7_init_42 : decode cX7_init 42 = .ok (.aload_n 0, 1) := by decide +kernel
theorem dX7_init_43 : decode cX7_init 43 = .ok (.bipush 10, 2) := by decide +kernel
theorem dX7_init_45 : decode cX7_init 45 = .ok (.newarray .int, 2) := by decide +kernel
theorem dX7_init_47 : decode cX7_init 47 = .ok (.putfield 26, 3) := by decide +kernel
theorem dX7_init_50 : decode cX7_init 50 = .ok (.aload_n 0, 1) := by decide +kernel
theorem dX7_init_51 : decode cX7_init 51 = .ok (.bipush 10, 2) := by decide +kernel
theorem dX7_init_53 : decode cX7_init 53 = .ok (.newarray .int, 2) := by decide +kernel
theorem dX7_init_55 : decode cX7_init 55 = .ok (.putfield 29, 3) := by decide +kernel
theorem dX7_init_58 : decode cX7_init 58 = .ok (.aload_n 0, 1) := by decide +kernel
theorem dX7_init_59 : decode cX7_init 59 = .ok (.bipush 10, 2) := by decide +kernel
theorem dX7_init_61 : decode cX7_init 61 = .ok (.newarray .int, 2) := by decide +kernel
theorem dX7_init_63 : decode cX7_init 63 = .ok (.putfield 32, 3) := by decide +kernel
theorem dX7_init_66 : decode cX7_init 66 = .ok (.aload_n 0, 1) := by decide +kernel
theorem dX7_init_67 : decode cX7_init 67 = .ok (.bipush 10, 2) := by decide +kernel
theorem dX7_init_69 : decode cX7_init 69 = .ok (.newarray .int, 2) := by decide +kernel
theorem dX7_init_71 : decode cX7_init 71 = .ok (.putfield 35, 3) := by decide +kernel
theorem dX7_init_74 : decode cX7_init 74 = .ok (.aload_n 0, 1) := by decide +kernel
theorem dX7_init_75 : decode cX7_init 75 = .ok (.bipush 10, 2) := by decide +kernel
theorem dX7_init_77 : decode cX7_init 77 = .ok (.newarray .int, 2) := by decide +kernel
theorem dX7_init_79 : decode cX7_init 79 = .ok (.putfield 38, 3) := by decide +kernel
theorem dX7_init_82 : decode cX7_init 82 = .ok (.aload_n 0, 1) := by decide +kernel
theorem dX7_init_83 : decode cX7_init 83 = .ok (.bipush 10, 2) := by decide +kernel
theorem dX7_init_85 : decode cX7_init 85 = .ok (.newarray .int, 2) := by decide +kernel
theorem dX7_init_87 : decode cX7_init 87 = .ok (.putfield 41, 3) := by decide +kernel
theorem dX7_init_90 : decode cX7_init 90 = .ok (.aload_n 0, 1) := by decide +kernel
theorem dX7_init_91 : decode cX7_init 91 = .ok (.bipush 10, 2) := by decide +kernel
theorem dX7_init_93 : decode cX7_init 93 = .ok (.newarray .int, 2) := by decide +kernel
theorem dX7_init_95 : decode cX7_init 95 = .ok (.putfield 44, 3) := by decide +kernel
theorem dX7_init_98 : decode cX7_init 98 = .ok (.aload_n 0, 1) := by decide +kernel
theorem dX7_init_99 : decode cX7_init 99 = .ok (.bipush 10, 2) := by decide +kernel
theorem dX7_init_101 : decode cX7_init 101 = .ok (.newarray .int, 2) := by decide +kernel
theorem dX7_init_103 : decode cX7_init 103 = .ok (.putfield 47, 3) := by decide +kernel
theorem dX7_init_106 : decode cX7_init 106 = .ok (.aload_n 0, 1) := by decide +kernel
theorem dX7_init_107 : decode cX7_init 107 = .ok (.bipush 10, 2) := by decide +kernel
theorem dX7_init_109 : decode cX7_init 109 = .ok (.newarray .int, 2) := by decide +kernel
theorem dX7_init_111 : decode cX7_init 111 = .ok (.putfield 50, 3) := by decide +kernel
theorem dX7_init_114 : decode cX7_init 114 = .ok (.aload_n 0, 1) := by decide +kernel
theorem dX7_init_115 : decode cX7_init 115 = .ok (.bipush 10, 2) := by decide +kernel
theorem dX7_init_117 : decode cX7_init 117 = .ok (.newarray .int, 2) := by decide +kernel
theorem dX7_init_119 : decode cX7_init 119 = .ok (.putfield 53, 3) := by decide +kernel
theorem dX7_init_122 : decode cX7_init 122 = .ok (.aload_n 0, 1) := by decide +kernel
theorem dX7_init_123 : decode cX7_init 123 = .ok (.bipush 10, 2) := by decide +kernel
theorem dX7_init_125 : decode cX7_init 125 = .ok (.newarray .int, 2) := by decide +kernel
theorem dX7_init_127 : decode cX7_init 127 = .ok (.putfield 56, 3) := by decide +kernel
theorem dX7_init_130 : decode cX7_init 130 = .ok (.aload_n 0, 1) := by decide +kernel
theorem dX7_init_131 : decode cX7_init 131 = .ok (.bipush 10, 2) := by decide +kernel
theorem dX7_init_133 : decode cX7_init 133 = .ok (.newarray .int, 2) := by decide +kernel
theorem dX7_init_135 : decode cX7_init 135 = .ok (.putfield 59, 3) := by decide +kernel
theorem dX7_init_138 : decode cX7_init 138 = .ok (.aload_n 0, 1) := by decide +kernel
theorem dX7_init_139 : decode cX7_init 139 = .ok (.bipush 10, 2) := by decide +kernel
theorem dX7_init_141 : decode cX7_init 141 = .ok (.newarray .int, 2) := by decide +kernel
theorem dX7_init_143 : decode cX7_init 143 = .ok (.putfield 62, 3) := by decide +kernel
theorem dX7_init_146 : decode cX7_init 146 = .ok (.aload_n 0, 1) := by decide +kernel
theorem dX7_init_147 : decode cX7_init 147 = .ok (.iconst 2, 1) := by decide +kernel
theorem dX7_init_148 : decode cX7_init 148 = .ok (.newarray .int, 2) := by decide +kernel
theorem dX7_init_150 : decode cX7_init 150 = .ok (.putfield 65, 3) := by decide +kernel
theorem dX7_init_153 : decode cX7_init 153 = .ok (.aload_n 0, 1) := by decide +kernel
theorem dX7_init_154 : decode cX7_init 154 = .ok (.iconst (-1), 1) := by decide +kernel
theorem dX7_init_155 : decode cX7_init 155 = .ok (.putfield 68, 3) := by decide +kernel
theorem dX7_init_158 : decode cX7_init 158 = .ok (.aload_n 0, 1) := by decide +kernel
theorem dX7_init_159 : decode cX7_init 159 = .ok (.bipush 6, 2) := by decide +kernel
theorem dX7_init_161 : decode cX7_init 161 = .ok (.newarray .int, 2) := by decide +kernel
theorem dX7_init_163 : decode cX7_init 163 = .ok (.putfield 71, 3) := by decide +kernel
theorem dX7_init_166 : decode cX7_init 166 = .ok (.aload_n 0, 1) := by decide +kernel
theorem dX7_init_167 : decode cX7_init 167 = .ok (.bipush 6, 2) := by decide +kernel
theorem dX7_init_169 : decode cX7_init 169 = .ok (.newarray .int, 2) := by decide +kernel
theorem dX7_init_171 : decode cX7_init 171 = .ok (.putfield 74, 3) := by decide +kernel
theorem dX7_init_174 : decode cX7_init 174 = .ok (.aload_n 0, 1) := by decide +kernel
theorem dX7_init_175 : decode cX7_init 175 = .ok (.bipush 6, 2) := by decide +kernel
theorem dX7_init_177 : decode cX7_init 177 = .ok (.newarray .int, 2) := by decide +kernel
theorem dX7_init_179 : decode cX7_init 179 = .ok (.putfield 77, 3) := by decide +kernel
theorem dX7_init_182 : decode cX7_init 182 = .ok (.aload_n 0, 1) := by decide +kernel
theorem dX7_init_183 : decode cX7_init 183 = .ok (.bipush 6, 2) := by decide +kernel
theorem dX7_init_185 : decode cX7_init 185 = .ok (.newarray .int, 2) := by decide +kernel
theorem dX7_init_187 : decode cX7_init 187 = .ok (.putfield 80, 3) := by decide +kernel
theorem dX7_init_190 : decode cX7_init 190 = .ok (.aload_n 0, 1) := by decide +kernel
theorem dX7_init_191 : decode cX7_init 191 = .ok (.bipush 70, 2) := by decide +kernel
theorem dX7_init_193 : decode cX7_init 193 = .ok (.newarray .int, 2) := by decide +kernel
theorem dX7_init_195 : decode cX7_init 195 = .ok (.putfield 83, 3) := by decide +kernel
theorem dX7_init_198 : decode cX7_init 198 = .ok (.aload_n 0, 1) := by decide +kernel
theorem dX7_init_199 : decode cX7_init 199 = .ok (.bipush 6, 2) := by decide +kernel
theorem dX7_init_201 : decode cX7_init 201 = .ok (.newarray .int, 2) := by decide +kernel
theorem dX7_init_203 : decode cX7_init 203 = .ok (.putfield 86, 3) := by decide +kernel
theorem dX7_init_206 : decode cX7_init 206 = .ok (.aload_n 0, 1) := by decide +kernel
theorem dX7_init_207 : decode cX7_init 207 = .ok (.iconst 4, 1) := by decide +kernel
theorem dX7_init_208 : decode cX7_init 208 = .ok (.newarray .int, 2) := by decide +kernel
theorem dX7_init_210 : decode cX7_init 210 = .ok (.putfield 89, 3) := by decide +kernel
theorem dX7_init_213 : decode cX7_init 213 = .ok (.aload_n 0, 1) := by decide +kernel
theorem dX7_init_214 : decode cX7_init 214 = .ok (.iconst 4, 1) := by decide +kernel
theorem dX7_init_215 : decode cX7_init 215 = .ok (.newarray .int, 2) := by decide +kernel
theorem dX7_init_217 : decode cX7_init 217 = .ok (.putfield 92, 3) := by decide +kernel
theorem dX7_init_220 : decode cX7_init 220 = .ok (.aload_n 0, 1) := by decide +kernel
theorem dX7_init_221 : decode cX7_init 221 = .ok (.bipush 96, 2) := by decide +kernel
theorem dX7_init_223 : decode cX7_init 223 = .ok (.newarray .int, 2) := by decide +kernel
theorem dX7_init_225 : decode cX7_init 225 = .ok (.putfield 95, 3) := by decide +kernel
theorem dX7_init_228 : decode cX7_init 228 = .ok (.iconst 0, 1) := by decide +kernel
theorem dX7_init_229 : decode cX7_init 229 = .ok (.istore_n 1, 1) := by decide +kernel
theorem dX7_init_230 : decode cX7_init 230 = .ok (.iload_n 1, 1) := by decide +kernel
theorem dX7_init_231 : decode cX7_init 231 = .ok (.iconst 4, 1) := by decide +kernel
theorem dX7_init_232 : decode cX7_init 232 = .ok (.if_icmp .ge 16, 3) := by decide +kernel
theorem dX7_init_235 : decode cX7_init 235 = .ok (.aload_n 0, 1) := by decide +kernel
theorem dX7_init_236 : decode cX7_init 236 = .ok (.getfield 89, 3) := by decide +kernel
theorem dX7_init_239 : decode cX7_init 239 = .ok (.iload_n 1, 1) := by decide +kernel
theorem dX7_init_240 : decode cX7_init 240 = .ok (.iconst (-1), 1) := by decide +kernel
theorem dX7_init_241 : decode cX7_init 241 = .ok (.iastore, 1) := by decide +kernel
theorem dX7_init_242 : decode cX7_init 242 = .ok (.iinc 1 1, 3) := by decide +kernel
theorem dX7_init_245 : decode cX7_init 245 = .ok (.goto (-15), 3) := by decide +kernel
theorem dX7_init_248 : decode cX7_init 248 = .ok (.aload_n 0, 1) := by decide +kernel
theorem dX7_init_249 : decode cX7_init 249 = .ok (.getfield 13, 3) := by decide +kernel
theorem dX7_init_252 : decode cX7_init 252 = .ok (.iconst 0, 1) := by decide +kernel
theorem dX7_init_253 : decode cX7_init 253 = .ok (.iconst 1, 1) := by decide +kernel
theorem dX7_init_254 : decode cX7_init 254 = .ok (.iastore, 1) := by decide +kernel
theorem dX7_init_255 : decode cX7_init 255 = .ok (.aload_n 0, 1) := by decide +kernel
theorem dX7_init_256 : decode cX7_init 256 = .ok (.getfield 13, 3) := by decide +kernel
theorem dX7_init_259 : decode cX7_init 259 = .ok (.iconst 2, 1) := by decide +kernel
theorem dX7_init_260 : decode cX7_init 260 = .ok (.iconst 5, 1) := by decide +kernel
theorem dX7_init_261 : decode cX7_init 261 = .ok (.iastore, 1) := by decide +kernel
theorem dX7_init_262 : decode cX7_init 262 = .ok (.aload_n 0, 1) := by decide +kernel
theorem dX7_init_263 : decode cX7_init 263 = .ok (.getfield 13, 3) := by decide +kernel
theorem dX7_init_266 : decode cX7_init 266 = .ok (.iconst 4, 1) := by decide +kernel
theorem dX7_init_267 : decode cX7_init 267 = .ok (.bipush 99, 2) := by decide +kernel
theorem dX7_init_269 : decode cX7_init 269 = .ok (.iastore, 1) := by decide +kernel
theorem dX7_init_270 : decode cX7_init 270 = .ok (.return_, 1) := by decide +kernel
theorem dX7_in_0 : decode cX7_in 0 = .ok (.lload_n 0, 1) := by decide +kernel
theorem dX7_in_1 : decode cX7_in 1 = .ok (.lload_n 2, 1) := by decide +kernel
theorem dX7_in_2 : decode cX7_in 2 = .ok (.lcmp, 1) := by decide +kernel
theorem dX7_in_3 : decode cX7_in 3 = .ok (.ifCond .lt 14, 3) := by decide +kernel
theorem dX7_in_6 : decode cX7_in 6 = .ok (.lload_n 0, 1) := by decide +kernel
theorem dX7_in_7 : decode cX7_in 7 = .ok (.lload 4, 2) := by decide +kernel
theorem dX7_in_9 : decode cX7_in 9 = .ok (.lcmp, 1) := by decide +kernel
theorem dX7_in_10 : decode cX7_in 10 = .ok (.ifCond .gt 7, 3) := by decide +kernel
theorem dX7_in_13 : decode cX7_in 13 = .ok (.iconst 1, 1) := by decide +kernel
theorem dX7_in_14 : decode cX7_in 14 = .ok (.goto 4, 3) := by decide +kernel
theorem dX7_in_17 : decode cX7_in 17 = .ok (.iconst 0, 1) := by decide +kernel
theorem dX7_in_18 : decode cX7_in 18 = .ok (.ireturn, 1) := by decide +kernel
theorem dX7_least_0 : decode cX7_least 0 = .ok (.iload_n 0, 1) := by decide +kernel
theorem dX7_least_1 : decode cX7_least 1 = .ok (.iload_n 1, 1) := by decide +kernel
theorem dX7_least_2 : decode cX7_least 2 = .ok (.if_icmp .ge 7, 3) := by decide +kernel
theorem dX7_least_5 : decode cX7_least 5 = .ok (.iload_n 0, 1) := by decide +kernel
theorem dX7_least_6 : decode cX7_least 6 = .ok (.goto 4, 3) := by decide +kernel
theorem dX7_least_9 : decode cX7_least 9 = .ok (.iload_n 1, 1) := by decide +kernel
theorem dX7_least_10 : decode cX7_least 10 = .ok (.ireturn, 1) := by decide +kernel
theorem dX7_most_0 : decode cX7_most 0 = .ok (.iload_n 0, 1) := by decide +kernel
theorem dX7_most_1 : decode cX7_most 1 = .ok (.iload_n 1, 1) := by decide +kernel
theorem dX7_most_2 : decode cX7_most 2 = .ok (.if_icmp .le 7, 3) := by decide +kernel
theorem dX7_most_5 : decode cX7_most 5 = .ok (.iload_n 0, 1) := by decide +kernel
theorem dX7_most_6 : decode cX7_most 6 = .ok (.goto 4, 3) := by decide +kernel
theorem dX7_most_9 : decode cX7_most 9 = .ok (.iload_n 1, 1) := by decide +kernel
theorem dX7_most_10 : decode cX7_most 10 = .ok (.ireturn, 1) := by decide +kernel
theorem dX7_has_0 : decode cX7_has 0 = .ok (.iload_n 0, 1) := by decide +kernel
theorem dX7_has_1 : decode cX7_has 1 = .ok (.iload_n 1, 1) := by decide +kernel
theorem dX7_has_2 : decode cX7_has 2 = .ok (.ishr, 1) := by decide +kernel
theorem dX7_has_3 : decode cX7_has 3 = .ok (.iconst 1, 1) := by decide +kernel
theorem dX7_has_4 : decode cX7_has 4 = .ok (.iand, 1) := by decide +kernel
theorem dX7_has_5 : decode cX7_has 5 = .ok (.iconst 1, 1) := by decide +kernel
theorem dX7_has_6 : decode cX7_has 6 = .ok (.if_icmp .ne 7, 3) := by decide +kernel
theorem dX7_has_9 : decode cX7_has 9 = .ok (.iconst 1, 1) := by decide +kernel
theorem dX7_has_10 : decode cX7_has 10 = .ok (.goto 4, 3) := by decide +kernel
theorem dX7_has_13 : decode cX7_has 13 = .ok (.iconst 0, 1) := by decide +kernel
theorem dX7_has_14 : decode cX7_has 14 = .ok (.ireturn, 1) := by decide +kernel
theorem dX7_isPerson_0 : decode cX7_isPerson 0 = .ok (.iload_n 1, 1) := by decide +kernel
theorem dX7_isPerson_1 : decode cX7_isPerson 1 = .ok (.i2l, 1) := by decide +kernel
theorem dX7_isPerson_2 : decode cX7_isPerson 2 = .ok (.lconst 0, 1) := by decide +kernel
theorem dX7_isPerson_3 : decode cX7_isPerson 3 = .ok (.aload_n 0, 1) := by decide +kernel
theorem dX7_isPerson_4 : decode cX7_isPerson 4 = .ok (.getfield 98, 3) := by decide +kernel
theorem dX7_isPerson_7 : decode cX7_isPerson 7 = .ok (.iconst 1, 1) := by decide +kernel
theorem dX7_isPerson_8 : decode cX7_isPerson 8 = .ok (.isub, 1) := by decide +kernel
theorem dX7_isPerson_9 : decode cX7_isPerson 9 = .ok (.i2l, 1) := by decide +kernel
theorem dX7_isPerson_10 : decode cX7_isPerson 10 = .ok (.invokestatic 101, 3) := by decide +kernel
theorem dX7_isPerson_13 : decode cX7_isPerson 13 = .ok (.ireturn, 1) := by decide +kernel
theorem dX7_planks_0 : decode cX7_planks 0 = .ok (.iload_n 1, 1) := by decide +kernel
theorem dX7_planks_1 : decode cX7_planks 1 = .ok (.i2l, 1) := by decide +kernel
theorem dX7_planks_2 : decode cX7_planks 2 = .ok (.lconst 1, 1) := by decide +kernel
theorem dX7_planks_3 : decode cX7_planks 3 = .ok (.ldc2_w 105, 3) := by decide +kernel
theorem dX7_planks_6 : decode cX7_planks 6 = .ok (.invokestatic 101, 3) := by decide +kernel
theorem dX7_planks_9 : decode cX7_planks 9 = .ok (.ifCond .ne 5, 3) := by decide +kernel
theorem dX7_planks_12 : decode cX7_planks 12 = .ok (.iconst (-1), 1) := by decide +kernel
theorem dX7_planks_13 : decode cX7_planks 13 = .ok (.ireturn, 1) := by decide +kernel
theorem dX7_planks_14 : decode cX7_planks 14 = .ok (.aload_n 0, 1) := by decide +kernel
theorem dX7_planks_15 : decode cX7_planks 15 = .ok (.getfield 16, 3) := by decide +kernel
theorem dX7_planks_18 : decode cX7_planks 18 = .ok (.istore_n 2, 1) := by decide +kernel
theorem dX7_planks_19 : decode cX7_planks 19 = .ok (.aload_n 0, 1) := by decide +kernel
theorem dX7_planks_20 : decode cX7_planks 20 = .ok (.iload_n 1, 1) := by decide +kernel
theorem dX7_planks_21 : decode cX7_planks 21 = .ok (.putfield 16, 3) := by decide +kernel
theorem dX7_planks_24 : decode cX7_planks 24 = .ok (.iload_n 2, 1) := by decide +kernel
theorem dX7_planks_25 : decode cX7_planks 25 = .ok (.ireturn, 1) := by decide +kernel
theorem dX7_leastOf_0 : decode cX7_leastOf 0 = .ok (.iload_n 0, 1) := by decide +kernel
theorem dX7_leastOf_1 : decode cX7_leastOf 1 = .ok (.iconst 2, 1) := by decide +kernel
theorem dX7_leastOf_2 : decode cX7_leastOf 2 = .ok (.if_icmp .ne 7, 3) := by decide +kernel
theorem dX7_leastOf_5 : decode cX7_leastOf 5 = .ok (.iconst 1, 1) := by decide +kernel
theorem dX7_leastOf_6 : decode cX7_leastOf 6 = .ok (.goto 4, 3) := by decide +kernel
theorem dX7_leastOf_9 : decode cX7_leastOf 9 = .ok (.iconst 0, 1) := by decide +kernel
theorem dX7_leastOf_10 : decode cX7_leastOf 10 = .ok (.ireturn, 1) := by decide +kernel
theorem dX7_mostOf_0 : decode cX7_mostOf 0 = .ok (.iload_n 0, 1) := by decide +kernel
theorem dX7_mostOf_1 : decode cX7_mostOf 1 = .ok (.ifCond .ne 8, 3) := by decide +kernel
theorem dX7_mostOf_4 : decode cX7_mostOf 4 = .ok (.bipush 9, 2) := by decide +kernel
theorem dX7_mostOf_6 : decode cX7_mostOf 6 = .ok (.goto 45, 3) := by decide +kernel
theorem dX7_mostOf_9 : decode cX7_mostOf 9 = .ok (.iload_n 0, 1) := by decide +kernel
theorem dX7_mostOf_10 : decode cX7_mostOf 10 = .ok (.iconst 1, 1) := by decide +kernel
theorem dX7_mostOf_11 : decode cX7_mostOf 11 = .ok (.if_icmp .ne 7, 3) := by decide +kernel
theorem dX7_mostOf_14 : decode cX7_mostOf 14 = .ok (.iconst 2, 1) := by decide +kernel
theorem dX7_mostOf_15 : decode cX7_mostOf 15 = .ok (.goto 36, 3) := by decide +kernel
theorem dX7_mostOf_18 : decode cX7_mostOf 18 = .ok (.iload_n 0, 1) := by decide +kernel
theorem dX7_mostOf_19 : decode cX7_mostOf 19 = .ok (.iconst 2, 1) := by decide +kernel
theorem dX7_mostOf_20 : decode cX7_mostOf 20 = .ok (.if_icmp .ne 8, 3) := by decide +kernel
theorem dX7_mostOf_23 : decode cX7_mostOf 23 = .ok (.bipush 60, 2) := by decide +kernel
theorem dX7_mostOf_25 : decode cX7_mostOf 25 = .ok (.goto 26, 3) := by decide +kernel
theorem dX7_mostOf_28 : decode cX7_mostOf 28 = .ok (.iload_n 0, 1) := by decide +kernel
theorem dX7_mostOf_29 : decode cX7_mostOf 29 = .ok (.iconst 3, 1) := by decide +kernel
theorem dX7_mostOf_30 : decode cX7_mostOf 30 = .ok (.if_icmp .ne 8, 3) := by decide +kernel
theorem dX7_mostOf_33 : decode cX7_mostOf 33 = .ok (.bipush 50, 2) := by decide +kernel
theorem dX7_mostOf_35 : decode cX7_mostOf 35 = .ok (.goto 16, 3) := by decide +kernel
theorem dX7_mostOf_38 : decode cX7_mostOf 38 = .ok (.iload_n 0, 1) := by decide +kernel
theorem dX7_mostOf_39 : decode cX7_mostOf 39 = .ok (.iconst 4, 1) := by decide +kernel
theorem dX7_mostOf_40 : decode cX7_mostOf 40 = .ok (.if_icmp .ne 8, 3) := by decide +kernel
theorem dX7_mostOf_43 : decode cX7_mostOf 43 = .ok (.bipush 99, 2) := by decide +kernel
theorem dX7_mostOf_45 : decode cX7_mostOf 45 = .ok (.goto 6, 3) := by decide +kernel
theorem dX7_mostOf_48 : decode cX7_mostOf 48 = .ok (.sipush 200, 3) := by decide +kernel
theorem dX7_mostOf_51 : decode cX7_mostOf 51 = .ok (.ireturn, 1) := by decide +kernel
theorem dX7_rule_0 : decode cX7_rule 0 = .ok (.iload_n 1, 1) := by decide +kernel
theorem dX7_rule_1 : decode cX7_rule 1 = .ok (.i2l, 1) := by decide +kernel
theorem dX7_rule_2 : decode cX7_rule 2 = .ok (.lconst 0, 1) := by decide +kernel
theorem dX7_rule_3 : decode cX7_rule 3 = .ok (.ldc2_w 107, 3) := by decide +kernel
theorem dX7_rule_6 : decode cX7_rule 6 = .ok (.invokestatic 101, 3) := by decide +kernel
theorem dX7_rule_9 : decode cX7_rule 9 = .ok (.ifCond .eq 21, 3) := by decide +kernel
theorem dX7_rule_12 : decode cX7_rule 12 = .ok (.iload_n 2, 1) := by decide +kernel
theorem dX7_rule_13 : decode cX7_rule 13 = .ok (.i2l, 1) := by decide +kernel
theorem dX7_rule_14 : decode cX7_rule 14 = .ok (.iload_n 1, 1) := by decide +kernel
theorem dX7_rule_15 : decode cX7_rule 15 = .ok (.invokestatic 109, 3) := by decide +kernel
theorem dX7_rule_18 : decode cX7_rule 18 = .ok (.i2l, 1) := by decide +kernel
theorem dX7_rule_19 : decode cX7_rule 19 = .ok (.iload_n 1, 1) := by decide +kernel
theorem dX7_rule_20 : decode cX7_rule 20 = .ok (.invokestatic 113, 3) := by decide +kernel
theorem dX7_rule_23 : decode cX7_rule 23 = .ok (.i2l, 1) := by decide +kernel
theorem dX7_rule_24 : decode cX7_rule 24 = .ok (.invokestatic 101, 3) := by decide +kernel
theorem dX7_rule_27 : decode cX7_rule 27 = .ok (.ifCond .ne 5, 3) := by decide +kernel
theorem dX7_rule_30 : decode cX7_rule 30 = .ok (.iconst (-1), 1) := by decide +kernel
theorem dX7_rule_31 : decode cX7_rule 31 = .ok (.ireturn, 1) := by decide +kernel
theorem dX7_rule_32 : decode cX7_rule 32 = .ok (.aload_n 0, 1) := by decide +kernel
theorem dX7_rule_33 : decode cX7_rule 33 = .ok (.getfield 13, 3) := by decide +kernel
theorem dX7_rule_36 : decode cX7_rule 36 = .ok (.iload_n 1, 1) := by decide +kernel
theorem dX7_rule_37 : decode cX7_rule 37 = .ok (.iaload, 1) := by decide +kernel
theorem dX7_rule_38 : decode cX7_rule 38 = .ok (.istore_n 3, 1) := by decide +kernel
theorem dX7_rule_39 : decode cX7_rule 39 = .ok (.aload_n 0, 1) := by decide +kernel
theorem dX7_rule_40 : decode cX7_rule 40 = .ok (.getfield 13, 3) := by decide +kernel
theorem dX7_rule_43 : decode cX7_rule 43 = .ok (.iload_n 1, 1) := by decide +kernel
theorem dX7_rule_44 : decode cX7_rule 44 = .ok (.iload_n 2, 1) := by decide +kernel
theorem dX7_rule_45 : decode cX7_rule 45 = .ok (.iastore, 1) := by decide +kernel
theorem dX7_rule_46 : decode cX7_rule 46 = .ok (.iload_n 3, 1) := by decide +kernel
theorem dX7_rule_47 : decode cX7_rule 47 = .ok (.ireturn, 1) := by decide +kernel
theorem dX7_may_0 : decode cX7_may 0 = .ok (.lload_n 0, 1) := by decide +kernel
theorem dX7_may_1 : decode cX7_may 1 = .ok (.lconst 0, 1) := by decide +kernel
theorem dX7_may_2 : decode cX7_may 2 = .ok (.ldc2_w 116, 3) := by decide +kernel
theorem dX7_may_5 : decode cX7_may 5 = .ok (.invokestatic 101, 3) := by decide +kernel
theorem dX7_may_8 : decode cX7_may 8 = .ok (.ifCond .eq 52, 3) := by decide +kernel
theorem dX7_may_11 : decode cX7_may 11 = .ok (.lload_n 2, 1) := by decide +kernel
theorem dX7_may_12 : decode cX7_may 12 = .ok (.lconst 0, 1) := by decide +kernel
theorem dX7_may_13 : decode cX7_may 13 = .ok (.lconst 1, 1) := by decide +kernel
theorem dX7_may_14 : decode cX7_may 14 = .ok (.invokestatic 101, 3) := by decide +kernel
theorem dX7_may_17 : decode cX7_may 17 = .ok (.ifCond .eq 43, 3) := by decide +kernel
theorem dX7_may_20 : decode cX7_may 20 = .ok (.lload 4, 2) := by decide +kernel
theorem dX7_may_22 : decode cX7_may 22 = .ok (.lconst 0, 1) := by decide +kernel
theorem dX7_may_23 : decode cX7_may 23 = .ok (.ldc2_w 118, 3) := by decide +kernel
theorem dX7_may_26 : decode cX7_may 26 = .ok (.invokestatic 101, 3) := by decide +kernel
theorem dX7_may_29 : decode cX7_may 29 = .ok (.ifCond .eq 31, 3) := by decide +kernel
theorem dX7_may_32 : decode cX7_may 32 = .ok (.lload 6, 2) := by decide +kernel
theorem dX7_may_34 : decode cX7_may 34 = .ok (.lconst 1, 1) := by decide +kernel
theorem dX7_may_35 : decode cX7_may 35 = .ok (.ldc2_w 120, 3) := by decide +kernel
theorem dX7_may_38 : decode cX7_may 38 = .ok (.invokestatic 101, 3) := by decide +kernel
theorem dX7_may_41 : decode cX7_may 41 = .ok (.ifCond .eq 19, 3) := by decide +kernel
theorem dX7_may_44 : decode cX7_may 44 = .ok (.lload 8, 2) := by decide +kernel
theorem dX7_may_46 : decode cX7_may 46 = .ok (.lconst 1, 1) := by decide +kernel
theorem dX7_may_47 : decode cX7_may 47 = .ok (.ldc2_w 122, 3) := by decide +kernel
theorem dX7_may_50 : decode cX7_may 50 = .ok (.invokestatic 101, 3) := by decide +kernel
theorem dX7_may_53 : decode cX7_may 53 = .ok (.ifCond .eq 7, 3) := by decide +kernel
theorem dX7_may_56 : decode cX7_may 56 = .ok (.iconst 1, 1) := by decide +kernel
theorem dX7_may_57 : decode cX7_may 57 = .ok (.goto 4, 3) := by decide +kernel
theorem dX7_may_60 : decode cX7_may 60 = .ok (.iconst 0, 1) := by decide +kernel
theorem dX7_may_61 : decode cX7_may 61 = .ok (.ireturn, 1) := by decide +kernel
theorem dX7_add_0 : decode cX7_add 0 = .ok (.bipush 7, 2) := by decide +kernel
theorem dX7_add_2 : decode cX7_add 2 = .ok (.aload_n 0, 1) := by decide +kernel
theorem dX7_add_3 : decode cX7_add 3 = .ok (.getfield 98, 3) := by decide +kernel
theorem dX7_add_6 : decode cX7_add 6 = .ok (.imul, 1) := by decide +kernel
theorem dX7_add_7 : decode cX7_add 7 = .ok (.istore 6, 2) := by decide +kernel
theorem dX7_add_9 : decode cX7_add 9 = .ok (.aload_n 0, 1) := by decide +kernel
theorem dX7_add_10 : decode cX7_add 10 = .ok (.getfield 7, 3) := by decide +kernel
theorem dX7_add_13 : decode cX7_add 13 = .ok (.iload 6, 2) := by decide +kernel
theorem dX7_add_15 : decode cX7_add 15 = .ok (.iload_n 1, 1) := by decide +kernel
theorem dX7_add_16 : decode cX7_add 16 = .ok (.iastore, 1) := by decide +kernel
theorem dX7_add_17 : decode cX7_add 17 = .ok (.aload_n 0, 1) := by decide +kernel
theorem dX7_add_18 : decode cX7_add 18 = .ok (.getfield 7, 3) := by decide +kernel
theorem dX7_add_21 : decode cX7_add 21 = .ok (.iload 6, 2) := by decide +kernel
theorem dX7_add_23 : decode cX7_add 23 = .ok (.iconst 1, 1) := by decide +kernel
theorem dX7_add_24 : decode cX7_add 24 = .ok (.iadd, 1) := by decide +kernel
theorem dX7_add_25 : decode cX7_add 25 = .ok (.iload_n 2, 1) := by decide +kernel
theorem dX7_add_26 : decode cX7_add 26 = .ok (.iastore, 1) := by decide +kernel
theorem dX7_add_27 : decode cX7_add 27 = .ok (.aload_n 0, 1) := by decide +kernel
theorem dX7_add_28 : decode cX7_add 28 = .ok (.getfield 7, 3) := by decide +kernel
theorem dX7_add_31 : decode cX7_add 31 = .ok (.iload 6, 2) := by decide +kernel
theorem dX7_add_33 : decode cX7_add 33 = .ok (.iconst 2, 1) := by decide +kernel
theorem dX7_add_34 : decode cX7_add 34 = .ok (.iadd, 1) := by decide +kernel
theorem dX7_add_35 : decode cX7_add 35 = .ok (.iload_n 3, 1) := by decide +kernel
theorem dX7_add_36 : decode cX7_add 36 = .ok (.iastore, 1) := by decide +kernel
theorem dX7_add_37 : decode cX7_add 37 = .ok (.aload_n 0, 1) := by decide +kernel
theorem dX7_add_38 : decode cX7_add 38 = .ok (.getfield 7, 3) := by decide +kernel
theorem dX7_add_41 : decode cX7_add 41 = .ok (.iload 6, 2) := by decide +kernel
theorem dX7_add_43 : decode cX7_add 43 = .ok (.iconst 3, 1) := by decide +kernel
theorem dX7_add_44 : decode cX7_add 44 = .ok (.iadd, 1) := by decide +kernel
theorem dX7_add_45 : decode cX7_add 45 = .ok (.iload 4, 2) := by decide +kernel
theorem dX7_add_47 : decode cX7_add 47 = .ok (.iastore, 1) := by decide +kernel
theorem dX7_add_48 : decode cX7_add 48 = .ok (.aload_n 0, 1) := by decide +kernel
theorem dX7_add_49 : decode cX7_add 49 = .ok (.getfield 7, 3) := by decide +kernel
theorem dX7_add_52 : decode cX7_add 52 = .ok (.iload 6, 2) := by decide +kernel
theorem dX7_add_54 : decode cX7_add 54 = .ok (.iconst 4, 1) := by decide +kernel
theorem dX7_add_55 : decode cX7_add 55 = .ok (.iadd, 1) := by decide +kernel
theorem dX7_add_56 : decode cX7_add 56 = .ok (.iload 5, 2) := by decide +kernel
theorem dX7_add_58 : decode cX7_add 58 = .ok (.iastore, 1) := by decide +kernel
theorem dX7_add_59 : decode cX7_add 59 = .ok (.aload_n 0, 1) := by decide +kernel
theorem dX7_add_60 : decode cX7_add 60 = .ok (.getfield 7, 3) := by decide +kernel
theorem dX7_add_63 : decode cX7_add 63 = .ok (.iload 6, 2) := by decide +kernel
theorem dX7_add_65 : decode cX7_add 65 = .ok (.iconst 5, 1) := by decide +kernel
theorem dX7_add_66 : decode cX7_add 66 = .ok (.iadd, 1) := by decide +kernel
theorem dX7_add_67 : decode cX7_add 67 = .ok (.iconst 0, 1) := by decide +kernel
theorem dX7_add_68 : decode cX7_add 68 = .ok (.iastore, 1) := by decide +kernel
theorem dX7_add_69 : decode cX7_add 69 = .ok (.aload_n 0, 1) := by decide +kernel
theorem dX7_add_70 : decode cX7_add 70 = .ok (.getfield 7, 3) := by decide +kernel
theorem dX7_add_73 : decode cX7_add 73 = .ok (.iload 6, 2) := by decide +kernel
theorem dX7_add_75 : decode cX7_add 75 = .ok (.bipush 6, 2) := by decide +kernel
theorem dX7_add_77 : decode cX7_add 77 = .ok (.iadd, 1) := by decide +kernel
theorem dX7_add_78 : decode cX7_add 78 = .ok (.bipush (-4), 2) := by decide +kernel
theorem dX7_add_80 : decode cX7_add 80 = .ok (.iastore, 1) := by decide +kernel
theorem dX7_add_81 : decode cX7_add 81 = .ok (.aload_n 0, 1) := by decide +kernel
theorem dX7_add_82 : decode cX7_add 82 = .ok (.dup, 1) := by decide +kernel
theorem dX7_add_83 : decode cX7_add 83 = .ok (.getfield 98, 3) := by decide +kernel
theorem dX7_add_86 : decode cX7_add 86 = .ok (.iconst 1, 1) := by decide +kernel
theorem dX7_add_87 : decode cX7_add 87 = .ok (.iadd, 1) := by decide +kernel
theorem dX7_add_88 : decode cX7_add 88 = .ok (.putfield 98, 3) := by decide +kernel
theorem dX7_add_91 : decode cX7_add 91 = .ok (.return_, 1) := by decide +kernel
theorem dX7_person_0 : decode cX7_person 0 = .ok (.iload_n 1, 1) := by decide +kernel
theorem dX7_person_1 : decode cX7_person 1 = .ok (.i2l, 1) := by decide +kernel
theorem dX7_person_2 : decode cX7_person 2 = .ok (.iload_n 2, 1) := by decide +kernel
theorem dX7_person_3 : decode cX7_person 3 = .ok (.i2l, 1) := by decide +kernel
theorem dX7_person_4 : decode cX7_person 4 = .ok (.iload_n 3, 1) := by decide +kernel
theorem dX7_person_5 : decode cX7_person 5 = .ok (.i2l, 1) := by decide +kernel
theorem dX7_person_6 : decode cX7_person 6 = .ok (.iload 4, 2) := by decide +kernel
theorem dX7_person_8 : decode cX7_person 8 = .ok (.i2l, 1) := by decide +kernel
theorem dX7_person_9 : decode cX7_person 9 = .ok (.iload 5, 2) := by decide +kernel
theorem dX7_person_11 : decode cX7_person 11 = .ok (.i2l, 1) := by decide +kernel
theorem dX7_person_12 : decode cX7_person 12 = .ok (.invokestatic 124, 3) := by decide +kernel
theorem dX7_person_15 : decode cX7_person 15 = .ok (.ifCond .ne 5, 3) := by decide +kernel
theorem dX7_person_18 : decode cX7_person 18 = .ok (.iconst (-1), 1) := by decide +kernel
theorem dX7_person_19 : decode cX7_person 19 = .ok (.ireturn, 1) := by decide +kernel
theorem dX7_person_20 : decode cX7_person 20 = .ok (.aload_n 0, 1) := by decide +kernel
theorem dX7_person_21 : decode cX7_person 21 = .ok (.getfield 98, 3) := by decide +kernel
theorem dX7_person_24 : decode cX7_person 24 = .ok (.bipush 10, 2) := by decide +kernel
theorem dX7_person_26 : decode cX7_person 26 = .ok (.if_icmp .ne 6, 3) := by decide +kernel
theorem dX7_person_29 : decode cX7_person 29 = .ok (.bipush (-3), 2) := by decide +kernel
theorem dX7_person_31 : decode cX7_person 31 = .ok (.ireturn, 1) := by decide +kernel
theorem dX7_person_32 : decode cX7_person 32 = .ok (.aload_n 0, 1) := by decide +kernel
theorem dX7_person_33 : decode cX7_person 33 = .ok (.iload_n 1, 1) := by decide +kernel
theorem dX7_person_34 : decode cX7_person 34 = .ok (.iload_n 2, 1) := by decide +kernel
theorem dX7_person_35 : decode cX7_person 35 = .ok (.iload_n 3, 1) := by decide +kernel
theorem dX7_person_36 : decode cX7_person 36 = .ok (.iload 4, 2) := by decide +kernel
theorem dX7_person_38 : decode cX7_person 38 = .ok (.iload 5, 2) := by decide +kernel
theorem dX7_person_40 : decode cX7_person 40 = .ok (.invokevirtual 128, 3) := by decide +kernel
theorem dX7_person_43 : decode cX7_person 43 = .ok (.aload_n 0, 1) := by decide +kernel
theorem dX7_person_44 : decode cX7_person 44 = .ok (.getfield 98, 3) := by decide +kernel
theorem dX7_person_47 : decode cX7_person 47 = .ok (.iconst 1, 1) := by decide +kernel
theorem dX7_person_48 : decode cX7_person 48 = .ok (.isub, 1) := by decide +kernel
theorem dX7_person_49 : decode cX7_person 49 = .ok (.ireturn, 1) := by decide +kernel
theorem dX7_paceOf_0 : decode cX7_paceOf 0 = .ok (.aload_n 0, 1) := by decide +kernel
theorem dX7_paceOf_1 : decode cX7_paceOf 1 = .ok (.getfield 7, 3) := by decide +kernel
theorem dX7_paceOf_4 : decode cX7_paceOf 4 = .ok (.bipush 7, 2) := by decide +kernel
theorem dX7_paceOf_6 : decode cX7_paceOf 6 = .ok (.iload_n 1, 1) := by decide +kernel
theorem dX7_paceOf_7 : decode cX7_paceOf 7 = .ok (.imul, 1) := by decide +kernel
theorem dX7_paceOf_8 : decode cX7_paceOf 8 = .ok (.iconst 2, 1) := by decide +kernel
theorem dX7_paceOf_9 : decode cX7_paceOf 9 = .ok (.iadd, 1) := by decide +kernel
theorem dX7_paceOf_10 : decode cX7_paceOf 10 = .ok (.iaload, 1) := by decide +kernel
theorem dX7_paceOf_11 : decode cX7_paceOf 11 = .ok (.istore_n 2, 1) := by decide +kernel
theorem dX7_paceOf_12 : decode cX7_paceOf 12 = .ok (.aload_n 0, 1) := by decide +kernel
theorem dX7_paceOf_13 : decode cX7_paceOf 13 = .ok (.getfield 7, 3) := by decide +kernel
theorem dX7_paceOf_16 : decode cX7_paceOf 16 = .ok (.bipush 7, 2) := by decide +kernel
theorem dX7_paceOf_18 : decode cX7_paceOf 18 = .ok (.iload_n 1, 1) := by decide +kernel
theorem dX7_paceOf_19 : decode cX7_paceOf 19 = .ok (.imul, 1) := by decide +kernel
theorem dX7_paceOf_20 : decode cX7_paceOf 20 = .ok (.iconst 3, 1) := by decide +kernel
theorem dX7_paceOf_21 : decode cX7_paceOf 21 = .ok (.iadd, 1) := by decide +kernel
theorem dX7_paceOf_22 : decode cX7_paceOf 22 = .ok (.iaload, 1) := by decide +kernel
theorem dX7_paceOf_23 : decode cX7_paceOf 23 = .ok (.istore_n 3, 1) := by decide +kernel
theorem dX7_paceOf_24 : decode cX7_paceOf 24 = .ok (.iload_n 2, 1) := by decide +kernel
theorem dX7_paceOf_25 : decode cX7_paceOf 25 = .ok (.iconst 1, 1) := by decide +kernel
theorem dX7_paceOf_26 : decode cX7_paceOf 26 = .ok (.if_icmp .eq 8, 3) := by decide +kernel
theorem dX7_paceOf_29 : decode cX7_paceOf 29 = .ok (.iload_n 2, 1) := by decide +kernel
theorem dX7_paceOf_30 : decode cX7_paceOf 30 = .ok (.iconst 3, 1) := by decide +kernel
theorem dX7_paceOf_31 : decode cX7_paceOf 31 = .ok (.if_icmp .ne 9, 3) := by decide +kernel
theorem dX7_paceOf_34 : decode cX7_paceOf 34 = .ok (.iconst 2, 1) := by decide +kernel
theorem dX7_paceOf_35 : decode cX7_paceOf 35 = .ok (.iload_n 3, 1) := by decide +kernel
theorem dX7_paceOf_36 : decode cX7_paceOf 36 = .ok (.imul, 1) := by decide +kernel
theorem dX7_paceOf_37 : decode cX7_paceOf 37 = .ok (.goto 19, 3) := by decide +kernel
theorem dX7_paceOf_40 : decode cX7_paceOf 40 = .ok (.iload_n 2, 1) := by decide +kernel
theorem dX7_paceOf_41 : decode cX7_paceOf 41 = .ok (.iconst 2, 1) := by decide +kernel
theorem dX7_paceOf_42 : decode cX7_paceOf 42 = .ok (.if_icmp .ne 13, 3) := by decide +kernel
theorem dX7_paceOf_45 : decode cX7_paceOf 45 = .ok (.iconst 1, 1) := by decide +kernel
theorem dX7_paceOf_46 : decode cX7_paceOf 46 = .ok (.iload_n 3, 1) := by decide +kernel
theorem dX7_paceOf_47 : decode cX7_paceOf 47 = .ok (.iconst 2, 1) := by decide +kernel
theorem dX7_paceOf_48 : decode cX7_paceOf 48 = .ok (.idiv, 1) := by decide +kernel
theorem dX7_paceOf_49 : decode cX7_paceOf 49 = .ok (.invokestatic 132, 3) := by decide +kernel
theorem dX7_paceOf_52 : decode cX7_paceOf 52 = .ok (.goto 4, 3) := by decide +kernel
theorem dX7_paceOf_55 : decode cX7_paceOf 55 = .ok (.iload_n 3, 1) := by decide +kernel
theorem dX7_paceOf_56 : decode cX7_paceOf 56 = .ok (.ireturn, 1) := by decide +kernel
theorem dX7_told_0 : decode cX7_told 0 = .ok (.aload_n 0, 1) := by decide +kernel
theorem dX7_told_1 : decode cX7_told 1 = .ok (.iload_n 1, 1) := by decide +kernel
theorem dX7_told_2 : decode cX7_told 2 = .ok (.invokevirtual 136, 3) := by decide +kernel
theorem dX7_told_5 : decode cX7_told 5 = .ok (.ifCond .eq 15, 3) := by decide +kernel
theorem dX7_told_8 : decode cX7_told 8 = .ok (.iload_n 2, 1) := by decide +kernel
theorem dX7_told_9 : decode cX7_told 9 = .ok (.i2l, 1) := by decide +kernel
theorem dX7_told_10 : decode cX7_told 10 = .ok (.lconst 0, 1) := by decide +kernel
theorem dX7_told_11 : decode cX7_told 11 = .ok (.ldc2_w 122, 3) := by decide +kernel
theorem dX7_told_14 : decode cX7_told 14 = .ok (.invokestatic 101, 3) := by decide +kernel
theorem dX7_told_17 : decode cX7_told 17 = .ok (.ifCond .ne 7, 3) := by decide +kernel
theorem dX7_told_20 : decode cX7_told 20 = .ok (.iconst (-1), 1) := by decide +kernel
theorem dX7_told_21 : decode cX7_told 21 = .ok (.goto 27, 3) := by decide +kernel
theorem dX7_told_24 : decode cX7_told 24 = .ok (.iload_n 2, 1) := by decide +kernel
theorem dX7_told_25 : decode cX7_told 25 = .ok (.iconst 3, 1) := by decide +kernel
theorem dX7_told_26 : decode cX7_told 26 = .ok (.if_icmp .ne 11, 3) := by decide +kernel
theorem dX7_told_29 : decode cX7_told 29 = .ok (.aload_n 0, 1) := by decide +kernel
theorem dX7_told_30 : decode cX7_told 30 = .ok (.iload_n 1, 1) := by decide +kernel
theorem dX7_told_31 : decode cX7_told 31 = .ok (.invokevirtual 140, 3) := by decide +kernel
theorem dX7_told_34 : decode cX7_told 34 = .ok (.goto 14, 3) := by decide +kernel
theorem dX7_told_37 : decode cX7_told 37 = .ok (.aload_n 0, 1) := by decide +kernel
theorem dX7_told_38 : decode cX7_told 38 = .ok (.getfield 7, 3) := by decide +kernel
theorem dX7_told_41 : decode cX7_told 41 = .ok (.bipush 7, 2) := by decide +kernel
theorem dX7_told_43 : decode cX7_told 43 = .ok (.iload_n 1, 1) := by decide +kernel
theorem dX7_told_44 : decode cX7_told 44 = .ok (.imul, 1) := by decide +kernel
theorem dX7_told_45 : decode cX7_told 45 = .ok (.iload_n 2, 1) := by decide +kernel
theorem dX7_told_46 : decode cX7_told 46 = .ok (.iadd, 1) := by decide +kernel
theorem dX7_told_47 : decode cX7_told 47 = .ok (.iaload, 1) := by decide +kernel
theorem dX7_told_48 : decode cX7_told 48 = .ok (.ireturn, 1) := by decide +kernel
theorem dX7_stay_0 : decode cX7_stay 0 = .ok (.aload_n 0, 1) := by decide +kernel
theorem dX7_stay_1 : decode cX7_stay 1 = .ok (.iload_n 1, 1) := by decide +kernel
theorem dX7_stay_2 : decode cX7_stay 2 = .ok (.invokevirtual 136, 3) := by decide +kernel
theorem dX7_stay_5 : decode cX7_stay 5 = .ok (.ifCond .eq 15, 3) := by decide +kernel
theorem dX7_stay_8 : decode cX7_stay 8 = .ok (.iload_n 2, 1) := by decide +kernel
theorem dX7_stay_9 : decode cX7_stay 9 = .ok (.i2l, 1) := by decide +kernel
theorem dX7_stay_10 : decode cX7_stay 10 = .ok (.lconst 0, 1) := by decide +kernel
theorem dX7_stay_11 : decode cX7_stay 11 = .ok (.ldc2_w 143, 3) := by decide +kernel
theorem dX7_stay_14 : decode cX7_stay 14 = .ok (.invokestatic 101, 3) := by decide +kernel
theorem dX7_stay_17 : decode cX7_stay 17 = .ok (.ifCond .ne 5, 3) := by decide +kernel
theorem dX7_stay_20 : decode cX7_stay 20 = .ok (.iconst (-1), 1) := by decide +kernel
theorem dX7_stay_21 : decode cX7_stay 21 = .ok (.ireturn, 1) := by decide +kernel
theorem dX7_stay_22 : decode cX7_stay 22 = .ok (.aload_n 0, 1) := by decide +kernel
theorem dX7_stay_23 : decode cX7_stay 23 = .ok (.getfield 7, 3) := by decide +kernel
theorem dX7_stay_26 : decode cX7_stay 26 = .ok (.bipush 7, 2) := by decide +kernel
theorem dX7_stay_28 : decode cX7_stay 28 = .ok (.iload_n 1, 1) := by decide +kernel
theorem dX7_stay_29 : decode cX7_stay 29 = .ok (.imul, 1) := by decide +kernel
theorem dX7_stay_30 : decode cX7_stay 30 = .ok (.iconst 5, 1) := by decide +kernel
theorem dX7_stay_31 : decode cX7_stay 31 = .ok (.iadd, 1) := by decide +kernel
theorem dX7_stay_32 : decode cX7_stay 32 = .ok (.iaload, 1) := by decide +kernel
theorem dX7_stay_33 : decode cX7_stay 33 = .ok (.istore_n 3, 1) := by decide +kernel
theorem dX7_stay_34 : decode cX7_stay 34 = .ok (.aload_n 0, 1) := by decide +kernel
theorem dX7_stay_35 : decode cX7_stay 35 = .ok (.getfield 7, 3) := by decide +kernel
theorem dX7_stay_38 : decode cX7_stay 38 = .ok (.bipush 7, 2) := by decide +kernel
theorem dX7_stay_40 : decode cX7_stay 40 = .ok (.iload_n 1, 1) := by decide +kernel
theorem dX7_stay_41 : decode cX7_stay 41 = .ok (.imul, 1) := by decide +kernel
theorem dX7_stay_42 : decode cX7_stay 42 = .ok (.iconst 5, 1) := by decide +kernel
theorem dX7_stay_43 : decode cX7_stay 43 = .ok (.iadd, 1) := by decide +kernel
theorem dX7_stay_44 : decode cX7_stay 44 = .ok (.iload_n 2, 1) := by decide +kernel
theorem dX7_stay_45 : decode cX7_stay 45 = .ok (.iastore, 1) := by decide +kernel
theorem dX7_stay_46 : decode cX7_stay 46 = .ok (.iload_n 3, 1) := by decide +kernel
theorem dX7_stay_47 : decode cX7_stay 47 = .ok (.ireturn, 1) := by decide +kernel
theorem dX7_hold_0 : decode cX7_hold 0 = .ok (.aload_n 0, 1) := by decide +kernel
theorem dX7_hold_1 : decode cX7_hold 1 = .ok (.iload_n 1, 1) := by decide +kernel
theorem dX7_hold_2 : decode cX7_hold 2 = .ok (.invokevirtual 136, 3) := by decide +kernel
theorem dX7_hold_5 : decode cX7_hold 5 = .ok (.ifCond .eq 26, 3) := by decide +kernel
theorem dX7_hold_8 : decode cX7_hold 8 = .ok (.iload_n 2, 1) := by decide +kernel
theorem dX7_hold_9 : decode cX7_hold 9 = .ok (.i2l, 1) := by decide +kernel
theorem dX7_hold_10 : decode cX7_hold 10 = .ok (.ldc2_w 145, 3) := by decide +kernel
theorem dX7_hold_13 : decode cX7_hold 13 = .ok (.aload_n 0, 1) := by decide +kernel
theorem dX7_hold_14 : decode cX7_hold 14 = .ok (.getfield 98, 3) := by decide +kernel
theorem dX7_hold_17 : decode cX7_hold 17 = .ok (.iconst 1, 1) := by decide +kernel
theorem dX7_hold_18 : decode cX7_hold 18 = .ok (.isub, 1) := by decide +kernel
theorem dX7_hold_19 : decode cX7_hold 19 = .ok (.i2l, 1) := by decide +kernel
theorem dX7_hold_20 : decode cX7_hold 20 = .ok (.invokestatic 101, 3) := by decide +kernel
theorem dX7_hold_23 : decode cX7_hold 23 = .ok (.ifCond .eq 8, 3) := by decide +kernel
theorem dX7_hold_26 : decode cX7_hold 26 = .ok (.iload_n 2, 1) := by decide +kernel
theorem dX7_hold_27 : decode cX7_hold 27 = .ok (.iload_n 1, 1) := by decide +kernel
theorem dX7_hold_28 : decode cX7_hold 28 = .ok (.if_icmp .ne 5, 3) := by decide +kernel
theorem dX7_hold_31 : decode cX7_hold 31 = .ok (.iconst (-1), 1) := by decide +kernel
theorem dX7_hold_32 : decode cX7_hold 32 = .ok (.ireturn, 1) := by decide +kernel
theorem dX7_hold_33 : decode cX7_hold 33 = .ok (.aload_n 0, 1) := by decide +kernel
theorem dX7_hold_34 : decode cX7_hold 34 = .ok (.getfield 7, 3) := by decide +kernel
theorem dX7_hold_37 : decode cX7_hold 37 = .ok (.bipush 7, 2) := by decide +kernel
theorem dX7_hold_39 : decode cX7_hold 39 = .ok (.iload_n 1, 1) := by decide +kernel
theorem dX7_hold_40 : decode cX7_hold 40 = .ok (.imul, 1) := by decide +kernel
theorem dX7_hold_41 : decode cX7_hold 41 = .ok (.bipush 6, 2) := by decide +kernel
theorem dX7_hold_43 : decode cX7_hold 43 = .ok (.iadd, 1) := by decide +kernel
theorem dX7_hold_44 : decode cX7_hold 44 = .ok (.iaload, 1) := by decide +kernel
theorem dX7_hold_45 : decode cX7_hold 45 = .ok (.istore_n 3, 1) := by decide +kernel
theorem dX7_hold_46 : decode cX7_hold 46 = .ok (.aload_n 0, 1) := by decide +kernel
theorem dX7_hold_47 : decode cX7_hold 47 = .ok (.getfield 7, 3) := by decide +kernel
theorem dX7_hold_50 : decode cX7_hold 50 = .ok (.bipush 7, 2) := by decide +kernel
theorem dX7_hold_52 : decode cX7_hold 52 = .ok (.iload_n 1, 1) := by decide +kernel
theorem dX7_hold_53 : decode cX7_hold 53 = .ok (.imul, 1) := by decide +kernel
theorem dX7_hold_54 : decode cX7_hold 54 = .ok (.bipush 6, 2) := by decide +kernel
theorem dX7_hold_56 : decode cX7_hold 56 = .ok (.iadd, 1) := by decide +kernel
theorem dX7_hold_57 : decode cX7_hold 57 = .ok (.iload_n 2, 1) := by decide +kernel
theorem dX7_hold_58 : decode cX7_hold 58 = .ok (.ifCond .ge 8, 3) := by decide +kernel
theorem dX7_hold_61 : decode cX7_hold 61 = .ok (.bipush (-4), 2) := by decide +kernel
theorem dX7_hold_63 : decode cX7_hold 63 = .ok (.goto 4, 3) := by decide +kernel
theorem dX7_hold_66 : decode cX7_hold 66 = .ok (.iload_n 2, 1) := by decide +kernel
theorem dX7_hold_67 : decode cX7_hold 67 = .ok (.iastore, 1) := by decide +kernel
theorem dX7_hold_68 : decode cX7_hold 68 = .ok (.iload_n 3, 1) := by decide +kernel
theorem dX7_hold_69 : decode cX7_hold 69 = .ok (.ifCond .ge 7, 3) := by decide +kernel
theorem dX7_hold_72 : decode cX7_hold 72 = .ok (.iconst 0, 1) := by decide +kernel
theorem dX7_hold_73 : decode cX7_hold 73 = .ok (.goto 6, 3) := by decide +kernel
theorem dX7_hold_76 : decode cX7_hold 76 = .ok (.iconst 1, 1) := by decide +kernel
theorem dX7_hold_77 : decode cX7_hold 77 = .ok (.iload_n 3, 1) := by decide +kernel
theorem dX7_hold_78 : decode cX7_hold 78 = .ok (.iadd, 1) := by decide +kernel
theorem dX7_hold_79 : decode cX7_hold 79 = .ok (.ireturn, 1) := by decide +kernel
theorem dX7_clear_0 : decode cX7_clear 0 = .ok (.aload_n 0, 1) := by decide +kernel
theorem dX7_clear_1 : decode cX7_clear 1 = .ok (.getfield 98, 3) := by decide +kernel
theorem dX7_clear_4 : decode cX7_clear 4 = .ok (.istore_n 1, 1) := by decide +kernel
theorem dX7_clear_5 : decode cX7_clear 5 = .ok (.aload_n 0, 1) := by decide +kernel
theorem dX7_clear_6 : decode cX7_clear 6 = .ok (.iconst 0, 1) := by decide +kernel
theorem dX7_clear_7 : decode cX7_clear 7 = .ok (.putfield 98, 3) := by decide +kernel
theorem dX7_clear_10 : decode cX7_clear 10 = .ok (.iload_n 1, 1) := by decide +kernel
theorem dX7_clear_11 : decode cX7_clear 11 = .ok (.ireturn, 1) := by decide +kernel
theorem dX7_count_0 : decode cX7_count 0 = .ok (.iconst 0, 1) := by decide +kernel
theorem dX7_count_1 : decode cX7_count 1 = .ok (.istore_n 2, 1) := by decide +kernel
theorem dX7_count_2 : decode cX7_count 2 = .ok (.iconst 0, 1) := by decide +kernel
theorem dX7_count_3 : decode cX7_count 3 = .ok (.istore_n 3, 1) := by decide +kernel
theorem dX7_count_4 : decode cX7_count 4 = .ok (.iconst 0, 1) := by decide +kernel
theorem dX7_count_5 : decode cX7_count 5 = .ok (.istore 4, 2) := by decide +kernel
theorem dX7_count_7 : decode cX7_count 7 = .ok (.iload 4, 2) := by decide +kernel
theorem dX7_count_9 : decode cX7_count 9 = .ok (.aload_n 0, 1) := by decide +kernel
theorem dX7_count_10 : decode cX7_count 10 = .ok (.getfield 98, 3) := by decide +kernel
theorem dX7_count_13 : decode cX7_count 13 = .ok (.if_icmp .ge 47, 3) := by decide +kernel
theorem dX7_count_16 : decode cX7_count 16 = .ok (.iload_n 2, 1) := by decide +kernel
theorem dX7_count_17 : decode cX7_count 17 = .ok (.aload_n 0, 1) := by decide +kernel
theorem dX7_count_18 : decode cX7_count 18 = .ok (.getfield 7, 3) := by decide +kernel
theorem dX7_count_21 : decode cX7_count 21 = .ok (.bipush 7, 2) := by decide +kernel
theorem dX7_count_23 : decode cX7_count 23 = .ok (.iload 4, 2) := by decide +kernel
theorem dX7_count_25 : decode cX7_count 25 = .ok (.imul, 1) := by decide +kernel
theorem dX7_count_26 : decode cX7_count 26 = .ok (.iconst 4, 1) := by decide +kernel
theorem dX7_count_27 : decode cX7_count 27 = .ok (.iadd, 1) := by decide +kernel
theorem dX7_count_28 : decode cX7_count 28 = .ok (.iaload, 1) := by decide +kernel
theorem dX7_count_29 : decode cX7_count 29 = .ok (.iadd, 1) := by decide +kernel
theorem dX7_count_30 : decode cX7_count 30 = .ok (.istore_n 2, 1) := by decide +kernel
theorem dX7_count_31 : decode cX7_count 31 = .ok (.iload_n 3, 1) := by decide +kernel
theorem dX7_count_32 : decode cX7_count 32 = .ok (.aload_n 0, 1) := by decide +kernel
theorem dX7_count_33 : decode cX7_count 33 = .ok (.getfield 7, 3) := by decide +kernel
theorem dX7_count_36 : decode cX7_count 36 = .ok (.bipush 7, 2) := by decide +kernel
theorem dX7_count_38 : decode cX7_count 38 = .ok (.iload 4, 2) := by decide +kernel
theorem dX7_count_40 : decode cX7_count 40 = .ok (.imul, 1) := by decide +kernel
theorem dX7_count_41 : decode cX7_count 41 = .ok (.iconst 1, 1) := by decide +kernel
theorem dX7_count_42 : decode cX7_count 42 = .ok (.iadd, 1) := by decide +kernel
theorem dX7_count_43 : decode cX7_count 43 = .ok (.iaload, 1) := by decide +kernel
theorem dX7_count_44 : decode cX7_count 44 = .ok (.ifCond .ne 7, 3) := by decide +kernel
theorem dX7_count_47 : decode cX7_count 47 = .ok (.iconst 1, 1) := by decide +kernel
theorem dX7_count_48 : decode cX7_count 48 = .ok (.goto 4, 3) := by decide +kernel
theorem dX7_count_51 : decode cX7_count 51 = .ok (.iconst 0, 1) := by decide +kernel
theorem dX7_count_52 : decode cX7_count 52 = .ok (.iadd, 1) := by decide +kernel
theorem dX7_count_53 : decode cX7_count 53 = .ok (.istore_n 3, 1) := by decide +kernel
theorem dX7_count_54 : decode cX7_count 54 = .ok (.iinc 4 1, 3) := by decide +kernel
theorem dX7_count_57 : decode cX7_count 57 = .ok (.goto (-50), 3) := by decide +kernel
theorem dX7_count_60 : decode cX7_count 60 = .ok (.iload_n 1, 1) := by decide +kernel
theorem dX7_count_61 : decode cX7_count 61 = .ok (.ifCond .ne 10, 3) := by decide +kernel
theorem dX7_count_64 : decode cX7_count 64 = .ok (.aload_n 0, 1) := by decide +kernel
theorem dX7_count_65 : decode cX7_count 65 = .ok (.getfield 98, 3) := by decide +kernel
theorem dX7_count_68 : decode cX7_count 68 = .ok (.goto 22, 3) := by decide +kernel
theorem dX7_count_71 : decode cX7_count 71 = .ok (.iload_n 1, 1) := by decide +kernel
theorem dX7_count_72 : decode cX7_count 72 = .ok (.iconst 1, 1) := by decide +kernel
theorem dX7_count_73 : decode cX7_count 73 = .ok (.if_icmp .ne 7, 3) := by decide +kernel
theorem dX7_count_76 : decode cX7_count 76 = .ok (.iload_n 2, 1) := by decide +kernel
theorem dX7_count_77 : decode cX7_count 77 = .ok (.goto 13, 3) := by decide +kernel
theorem dX7_count_80 : decode cX7_count 80 = .ok (.iload_n 1, 1) := by decide +kernel
theorem dX7_count_81 : decode cX7_count 81 = .ok (.iconst 2, 1) := by decide +kernel
theorem dX7_count_82 : decode cX7_count 82 = .ok (.if_icmp .ne 7, 3) := by decide +kernel
theorem dX7_count_85 : decode cX7_count 85 = .ok (.iload_n 3, 1) := by decide +kernel
theorem dX7_count_86 : decode cX7_count 86 = .ok (.goto 4, 3) := by decide +kernel
theorem dX7_count_89 : decode cX7_count 89 = .ok (.iconst (-1), 1) := by decide +kernel
theorem dX7_count_90 : decode cX7_count 90 = .ok (.ireturn, 1) := by decide +kernel
theorem dX7_type_0 : decode cX7_type 0 = .ok (.iload_n 3, 1) := by decide +kernel
theorem dX7_type_1 : decode cX7_type 1 = .ok (.i2l, 1) := by decide +kernel
theorem dX7_type_2 : decode cX7_type 2 = .ok (.lconst 1, 1) := by decide +kernel
theorem dX7_type_3 : decode cX7_type 3 = .ok (.ldc2_w 147, 3) := by decide +kernel
theorem dX7_type_6 : decode cX7_type 6 = .ok (.invokestatic 101, 3) := by decide +kernel
theorem dX7_type_9 : decode cX7_type 9 = .ok (.ifCond .ne 5, 3) := by decide +kernel
theorem dX7_type_12 : decode cX7_type 12 = .ok (.iconst (-1), 1) := by decide +kernel
theorem dX7_type_13 : decode cX7_type 13 = .ok (.ireturn, 1) := by decide +kernel
theorem dX7_type_14 : decode cX7_type 14 = .ok (.iload_n 3, 1) := by decide +kernel
theorem dX7_type_15 : decode cX7_type 15 = .ok (.iconst 1, 1) := by decide +kernel
theorem dX7_type_16 : decode cX7_type 16 = .ok (.isub, 1) := by decide +kernel
theorem dX7_type_17 : decode cX7_type 17 = .ok (.istore 4, 2) := by decide +kernel
theorem dX7_type_19 : decode cX7_type 19 = .ok (.iload 4, 2) := by decide +kernel
theorem dX7_type_21 : decode cX7_type 21 = .ok (.ifCond .lt 34, 3) := by decide +kernel
theorem dX7_type_24 : decode cX7_type 24 = .ok (.lload_n 1, 1) := by decide +kernel
theorem dX7_type_25 : decode cX7_type 25 = .ok (.bipush 8, 2) := by decide +kernel
theorem dX7_type_27 : decode cX7_type 27 = .ok (.iload 4, 2) := by decide +kernel
theorem dX7_type_29 : decode cX7_type 29 = .ok (.imul, 1) := by decide +kernel
theorem dX7_type_30 : decode cX7_type 30 = .ok (.lshr, 1) := by decide +kernel
theorem dX7_type_31 : decode cX7_type 31 = .ok (.ldc2_w 149, 3) := by decide +kernel
theorem dX7_type_34 : decode cX7_type 34 = .ok (.land, 1) := by decide +kernel
theorem dX7_type_35 : decode cX7_type 35 = .ok (.ldc2_w 151, 3) := by decide +kernel
theorem dX7_type_38 : decode cX7_type 38 = .ok (.ldc2_w 153, 3) := by decide +kernel
theorem dX7_type_41 : decode cX7_type 41 = .ok (.invokestatic 101, 3) := by decide +kernel
theorem dX7_type_44 : decode cX7_type 44 = .ok (.ifCond .ne 5, 3) := by decide +kernel
theorem dX7_type_47 : decode cX7_type 47 = .ok (.iconst (-1), 1) := by decide +kernel
theorem dX7_type_48 : decode cX7_type 48 = .ok (.ireturn, 1) := by decide +kernel
theorem dX7_type_49 : decode cX7_type 49 = .ok (.iinc 4 (-1), 3) := by decide +kernel
theorem dX7_type_52 : decode cX7_type 52 = .ok (.goto (-33), 3) := by decide +kernel
theorem dX7_type_55 : decode cX7_type 55 = .ok (.aload_n 0, 1) := by decide +kernel
theorem dX7_type_56 : decode cX7_type 56 = .ok (.getfield 155, 3) := by decide +kernel
theorem dX7_type_59 : decode cX7_type 59 = .ok (.iload_n 3, 1) := by decide +kernel
theorem dX7_type_60 : decode cX7_type 60 = .ok (.iadd, 1) := by decide +kernel
theorem dX7_type_61 : decode cX7_type 61 = .ok (.bipush 80, 2) := by decide +kernel
theorem dX7_type_63 : decode cX7_type 63 = .ok (.if_icmp .le 6, 3) := by decide +kernel
theorem dX7_type_66 : decode cX7_type 66 = .ok (.bipush (-3), 2) := by decide +kernel
theorem dX7_type_68 : decode cX7_type 68 = .ok (.ireturn, 1) := by decide +kernel
theorem dX7_type_69 : decode cX7_type 69 = .ok (.iload_n 3, 1) := by decide +kernel
theorem dX7_type_70 : decode cX7_type 70 = .ok (.iconst 1, 1) := by decide +kernel
theorem dX7_type_71 : decode cX7_type 71 = .ok (.isub, 1) := by decide +kernel
theorem dX7_type_72 : decode cX7_type 72 = .ok (.istore 4, 2) := by decide +kernel
theorem dX7_type_74 : decode cX7_type 74 = .ok (.iload 4, 2) := by decide +kernel
theorem dX7_type_76 : decode cX7_type 76 = .ok (.ifCond .lt 40, 3) := by decide +kernel
theorem dX7_type_79 : decode cX7_type 79 = .ok (.aload_n 0, 1) := by decide +kernel
theorem dX7_type_80 : decode cX7_type 80 = .ok (.getfield 20, 3) := by decide +kernel
theorem dX7_type_83 : decode cX7_type 83 = .ok (.aload_n 0, 1) := by decide +kernel
theorem dX7_type_84 : decode cX7_type 84 = .ok (.getfield 155, 3) := by decide +kernel
theorem dX7_type_87 : decode cX7_type 87 = .ok (.lload_n 1, 1) := by decide +kernel
theorem dX7_type_88 : decode cX7_type 88 = .ok (.bipush 8, 2) := by decide +kernel
theorem dX7_type_90 : decode cX7_type 90 = .ok (.iload 4, 2) := by decide +kernel
theorem dX7_type_92 : decode cX7_type 92 = .ok (.imul, 1) := by decide +kernel
theorem dX7_type_93 : decode cX7_type 93 = .ok (.lshr, 1) := by decide +kernel
theorem dX7_type_94 : decode cX7_type 94 = .ok (.ldc2_w 149, 3) := by decide +kernel
theorem dX7_type_97 : decode cX7_type 97 = .ok (.land, 1) := by decide +kernel
theorem dX7_type_98 : decode cX7_type 98 = .ok (.l2i, 1) := by decide +kernel
theorem dX7_type_99 : decode cX7_type 99 = .ok (.iastore, 1) := by decide +kernel
theorem dX7_type_100 : decode cX7_type 100 = .ok (.aload_n 0, 1) := by decide +kernel
theorem dX7_type_101 : decode cX7_type 101 = .ok (.dup, 1) := by decide +kernel
theorem dX7_type_102 : decode cX7_type 102 = .ok (.getfield 155, 3) := by decide +kernel
theorem dX7_type_105 : decode cX7_type 105 = .ok (.iconst 1, 1) := by decide +kernel
theorem dX7_type_106 : decode cX7_type 106 = .ok (.iadd, 1) := by decide +kernel
theorem dX7_type_107 : decode cX7_type 107 = .ok (.putfield 155, 3) := by decide +kernel
theorem dX7_type_110 : decode cX7_type 110 = .ok (.iinc 4 (-1), 3) := by decide +kernel
theorem dX7_type_113 : decode cX7_type 113 = .ok (.goto (-39), 3) := by decide +kernel
theorem dX7_type_116 : decode cX7_type 116 = .ok (.aload_n 0, 1) := by decide +kernel
theorem dX7_type_117 : decode cX7_type 117 = .ok (.getfield 155, 3) := by decide +kernel
theorem dX7_type_120 : decode cX7_type 120 = .ok (.ireturn, 1) := by decide +kernel
theorem dX7_nextByte_0 : decode cX7_nextByte 0 = .ok (.aload_n 0, 1) := by decide +kernel
theorem dX7_nextByte_1 : decode cX7_nextByte 1 = .ok (.getfield 158, 3) := by decide +kernel
theorem dX7_nextByte_4 : decode cX7_nextByte 4 = .ok (.aload_n 0, 1) := by decide +kernel
theorem dX7_nextByte_5 : decode cX7_nextByte 5 = .ok (.getfield 155, 3) := by decide +kernel
theorem dX7_nextByte_8 : decode cX7_nextByte 8 = .ok (.if_icmp .ge 30, 3) := by decide +kernel
theorem dX7_nextByte_11 : decode cX7_nextByte 11 = .ok (.aload_n 0, 1) := by decide +kernel
theorem dX7_nextByte_12 : decode cX7_nextByte 12 = .ok (.getfield 20, 3) := by decide +kernel
theorem dX7_nextByte_15 : decode cX7_nextByte 15 = .ok (.aload_n 0, 1) := by decide +kernel
theorem dX7_nextByte_16 : decode cX7_nextByte 16 = .ok (.getfield 158, 3) := by decide +kernel
theorem dX7_nextByte_19 : decode cX7_nextByte 19 = .ok (.iaload, 1) := by decide +kernel
theorem dX7_nextByte_20 : decode cX7_nextByte 20 = .ok (.bipush 32, 2) := by decide +kernel
theorem dX7_nextByte_22 : decode cX7_nextByte 22 = .ok (.if_icmp .ne 16, 3) := by decide +kernel
theorem dX7_nextByte_25 : decode cX7_nextByte 25 = .ok (.aload_n 0, 1) := by decide +kernel
theorem dX7_nextByte_26 : decode cX7_nextByte 26 = .ok (.dup, 1) := by decide +kernel
theorem dX7_nextByte_27 : decode cX7_nextByte 27 = .ok (.getfield 158, 3) := by decide +kernel
theorem dX7_nextByte_30 : decode cX7_nextByte 30 = .ok (.iconst 1, 1) := by decide +kernel
theorem dX7_nextByte_31 : decode cX7_nextByte 31 = .ok (.iadd, 1) := by decide +kernel
theorem dX7_nextByte_32 : decode cX7_nextByte 32 = .ok (.putfield 158, 3) := by decide +kernel
theorem dX7_nextByte_35 : decode cX7_nextByte 35 = .ok (.goto (-35), 3) := by decide +kernel
theorem dX7_nextByte_38 : decode cX7_nextByte 38 = .ok (.aload_n 0, 1) := by decide +kernel
theorem dX7_nextByte_39 : decode cX7_nextByte 39 = .ok (.getfield 158, 3) := by decide +kernel
theorem dX7_nextByte_42 : decode cX7_nextByte 42 = .ok (.aload_n 0, 1) := by decide +kernel
theorem dX7_nextByte_43 : decode cX7_nextByte 43 = .ok (.getfield 155, 3) := by decide +kernel
theorem dX7_nextByte_46 : decode cX7_nextByte 46 = .ok (.if_icmp .ge 15, 3) := by decide +kernel
theorem dX7_nextByte_49 : decode cX7_nextByte 49 = .ok (.aload_n 0, 1) := by decide +kernel
theorem dX7_nextByte_50 : decode cX7_nextByte 50 = .ok (.getfield 20, 3) := by decide +kernel
theorem dX7_nextByte_53 : decode cX7_nextByte 53 = .ok (.aload_n 0, 1) := by decide +kernel
theorem dX7_nextByte_54 : decode cX7_nextByte 54 = .ok (.getfield 158, 3) := by decide +kernel
theorem dX7_nextByte_57 : decode cX7_nextByte 57 = .ok (.iaload, 1) := by decide +kernel
theorem dX7_nextByte_58 : decode cX7_nextByte 58 = .ok (.goto 4, 3) := by decide +kernel
theorem dX7_nextByte_61 : decode cX7_nextByte 61 = .ok (.iconst (-1), 1) := by decide +kernel
theorem dX7_nextByte_62 : decode cX7_nextByte 62 = .ok (.ireturn, 1) := by decide +kernel
theorem dX7_readNumber_0 : decode cX7_readNumber 0 = .ok (.aload_n 0, 1) := by decide +kernel
theorem dX7_readNumber_1 : decode cX7_readNumber 1 = .ok (.invokevirtual 161, 3) := by decide +kernel
theorem dX7_readNumber_4 : decode cX7_readNumber 4 = .ok (.pop, 1) := by decide +kernel
theorem dX7_readNumber_5 : decode cX7_readNumber 5 = .ok (.aload_n 0, 1) := by decide +kernel
theorem dX7_readNumber_6 : decode cX7_readNumber 6 = .ok (.getfield 158, 3) := by decide +kernel
theorem dX7_readNumber_9 : decode cX7_readNumber 9 = .ok (.istore_n 3, 1) := by decide +kernel
theorem dX7_readNumber_10 : decode cX7_readNumber 10 = .ok (.iconst 0, 1) := by decide +kernel
theorem dX7_readNumber_11 : decode cX7_readNumber 11 = .ok (.istore 4, 2) := by decide +kernel
theorem dX7_readNumber_13 : decode cX7_readNumber 13 = .ok (.aload_n 0, 1) := by decide +kernel
theorem dX7_readNumber_14 : decode cX7_readNumber 14 = .ok (.getfield 158, 3) := by decide +kernel
theorem dX7_readNumber_17 : decode cX7_readNumber 17 = .ok (.aload_n 0, 1) := by decide +kernel
theorem dX7_readNumber_18 : decode cX7_readNumber 18 = .ok (.getfield 155, 3) := by decide +kernel
theorem dX7_readNumber_21 : decode cX7_readNumber 21 = .ok (.if_icmp .ge 71, 3) := by decide +kernel
theorem dX7_readNumber_24 : decode cX7_readNumber 24 = .ok (.aload_n 0, 1) := by decide +kernel
theorem dX7_readNumber_25 : decode cX7_readNumber 25 = .ok (.getfield 20, 3) := by decide +kernel
theorem dX7_readNumber_28 : decode cX7_readNumber 28 = .ok (.aload_n 0, 1) := by decide +kernel
theorem dX7_readNumber_29 : decode cX7_readNumber 29 = .ok (.getfield 158, 3) := by decide +kernel
theorem dX7_readNumber_32 : decode cX7_readNumber 32 = .ok (.iaload, 1) := by decide +kernel
theorem dX7_readNumber_33 : decode cX7_readNumber 33 = .ok (.i2l, 1) := by decide +kernel
theorem dX7_readNumber_34 : decode cX7_readNumber 34 = .ok (.ldc2_w 165, 3) := by decide +kernel
theorem dX7_readNumber_37 : decode cX7_readNumber 37 = .ok (.ldc2_w 167, 3) := by decide +kernel
theorem dX7_readNumber_40 : decode cX7_readNumber 40 = .ok (.invokestatic 101, 3) := by decide +kernel
theorem dX7_readNumber_43 : decode cX7_readNumber 43 = .ok (.ifCond .eq 49, 3) := by decide +kernel
theorem dX7_readNumber_46 : decode cX7_readNumber 46 = .ok (.iload 4, 2) := by decide +kernel
theorem dX7_readNumber_48 : decode cX7_readNumber 48 = .ok (.sipush 999, 3) := by decide +kernel
theorem dX7_readNumber_51 : decode cX7_readNumber 51 = .ok (.if_icmp .le 8, 3) := by decide +kernel
theorem dX7_readNumber_54 : decode cX7_readNumber 54 = .ok (.iload 4, 2) := by decide +kernel
theorem dX7_readNumber_56 : decode cX7_readNumber 56 = .ok (.goto 21, 3) := by decide +kernel
theorem dX7_readNumber_59 : decode cX7_readNumber 59 = .ok (.bipush 10, 2) := by decide +kernel
theorem dX7_readNumber_61 : decode cX7_readNumber 61 = .ok (.iload 4, 2) := by decide +kernel
theorem dX7_readNumber_63 : decode cX7_readNumber 63 = .ok (.imul, 1) := by decide +kernel
theorem dX7_readNumber_64 : decode cX7_readNumber 64 = .ok (.aload_n 0, 1) := by decide +kernel
theorem dX7_readNumber_65 : decode cX7_readNumber 65 = .ok (.getfield 20, 3) := by decide +kernel
theorem dX7_readNumber_68 : decode cX7_readNumber 68 = .ok (.aload_n 0, 1) := by decide +kernel
theorem dX7_readNumber_69 : decode cX7_readNumber 69 = .ok (.getfield 158, 3) := by decide +kernel
theorem dX7_readNumber_72 : decode cX7_readNumber 72 = .ok (.iaload, 1) := by decide +kernel
theorem dX7_readNumber_73 : decode cX7_readNumber 73 = .ok (.iadd, 1) := by decide +kernel
theorem dX7_readNumber_74 : decode cX7_readNumber 74 = .ok (.bipush 48, 2) := by decide +kernel
theorem dX7_readNumber_76 : decode cX7_readNumber 76 = .ok (.isub, 1) := by decide +kernel
theorem dX7_readNumber_77 : decode cX7_readNumber 77 = .ok (.istore 4, 2) := by decide +kernel
theorem dX7_readNumber_79 : decode cX7_readNumber 79 = .ok (.aload_n 0, 1) := by decide +kernel
theorem dX7_readNumber_80 : decode cX7_readNumber 80 = .ok (.dup, 1) := by decide +kernel
theorem dX7_readNumber_81 : decode cX7_readNumber 81 = .ok (.getfield 158, 3) := by decide +kernel
theorem dX7_readNumber_84 : decode cX7_readNumber 84 = .ok (.iconst 1, 1) := by decide +kernel
theorem dX7_readNumber_85 : decode cX7_readNumber 85 = .ok (.iadd, 1) := by decide +kernel
theorem dX7_readNumber_86 : decode cX7_readNumber 86 = .ok (.putfield 158, 3) := by decide +kernel
theorem dX7_readNumber_89 : decode cX7_readNumber 89 = .ok (.goto (-76), 3) := by decide +kernel
theorem dX7_readNumber_92 : decode cX7_readNumber 92 = .ok (.aload_n 0, 1) := by decide +kernel
theorem dX7_readNumber_93 : decode cX7_readNumber 93 = .ok (.getfield 158, 3) := by decide +kernel
theorem dX7_readNumber_96 : decode cX7_readNumber 96 = .ok (.iload_n 3, 1) := by decide +kernel
theorem dX7_readNumber_97 : decode cX7_readNumber 97 = .ok (.if_icmp .ne 5, 3) := by decide +kernel
theorem dX7_readNumber_100 : decode cX7_readNumber 100 = .ok (.iconst (-1), 1) := by decide +kernel
theorem dX7_readNumber_101 : decode cX7_readNumber 101 = .ok (.ireturn, 1) := by decide +kernel
theorem dX7_readNumber_102 : decode cX7_readNumber 102 = .ok (.iload 4, 2) := by decide +kernel
theorem dX7_readNumber_104 : decode cX7_readNumber 104 = .ok (.i2l, 1) := by decide +kernel
theorem dX7_readNumber_105 : decode cX7_readNumber 105 = .ok (.iload_n 1, 1) := by decide +kernel
theorem dX7_readNumber_106 : decode cX7_readNumber 106 = .ok (.i2l, 1) := by decide +kernel
theorem dX7_readNumber_107 : decode cX7_readNumber 107 = .ok (.iload_n 2, 1) := by decide +kernel
theorem dX7_readNumber_108 : decode cX7_readNumber 108 = .ok (.i2l, 1) := by decide +kernel
theorem dX7_readNumber_109 : decode cX7_readNumber 109 = .ok (.invokestatic 101, 3) := by decide +kernel
theorem dX7_readNumber_112 : decode cX7_readNumber 112 = .ok (.ifCond .ne 10, 3) := by decide +kernel
theorem dX7_readNumber_115 : decode cX7_readNumber 115 = .ok (.aload_n 0, 1) := by decide +kernel
theorem dX7_readNumber_116 : decode cX7_readNumber 116 = .ok (.iload_n 3, 1) := by decide +kernel
theorem dX7_readNumber_117 : decode cX7_readNumber 117 = .ok (.putfield 158, 3) := by decide +kernel
theorem dX7_readNumber_120 : decode cX7_readNumber 120 = .ok (.iconst (-1), 1) := by decide +kernel
theorem dX7_readNumber_121 : decode cX7_readNumber 121 = .ok (.ireturn, 1) := by decide +kernel
theorem dX7_readNumber_122 : decode cX7_readNumber 122 = .ok (.iload 4, 2) := by decide +kernel
theorem dX7_readNumber_124 : decode cX7_readNumber 124 = .ok (.ireturn, 1) := by decide +kernel
theorem dX7_letterOf_0 : decode cX7_letterOf 0 = .ok (.iload_n 0, 1) := by decide +kernel
theorem dX7_letterOf_1 : decode cX7_letterOf 1 = .ok (.ifCond .ne 8, 3) := by decide +kernel
theorem dX7_letterOf_4 : decode cX7_letterOf 4 = .ok (.bipush 103, 2) := by decide +kernel
theorem dX7_letterOf_6 : decode cX7_letterOf 6 = .ok (.goto 45, 3) := by decide +kernel
theorem dX7_letterOf_9 : decode cX7_letterOf 9 = .ok (.iload_n 0, 1) := by decide +kernel
theorem dX7_letterOf_10 : decode cX7_letterOf 10 = .ok (.iconst 1, 1) := by decide +kernel
theorem dX7_letterOf_11 : decode cX7_letterOf 11 = .ok (.if_icmp .ne 8, 3) := by decide +kernel
theorem dX7_letterOf_14 : decode cX7_letterOf 14 = .ok (.bipush 99, 2) := by decide +kernel
theorem dX7_letterOf_16 : decode cX7_letterOf 16 = .ok (.goto 35, 3) := by decide +kernel
theorem dX7_letterOf_19 : decode cX7_letterOf 19 = .ok (.iload_n 0, 1) := by decide +kernel
theorem dX7_letterOf_20 : decode cX7_letterOf 20 = .ok (.iconst 2, 1) := by decide +kernel
theorem dX7_letterOf_21 : decode cX7_letterOf 21 = .ok (.if_icmp .ne 8, 3) := by decide +kernel
theorem dX7_letterOf_24 : decode cX7_letterOf 24 = .ok (.bipush 119, 2) := by decide +kernel
theorem dX7_letterOf_26 : decode cX7_letterOf 26 = .ok (.goto 25, 3) := by decide +kernel
theorem dX7_letterOf_29 : decode cX7_letterOf 29 = .ok (.iload_n 0, 1) := by decide +kernel
theorem dX7_letterOf_30 : decode cX7_letterOf 30 = .ok (.iconst 3, 1) := by decide +kernel
theorem dX7_letterOf_31 : decode cX7_letterOf 31 = .ok (.if_icmp .ne 8, 3) := by decide +kernel
theorem dX7_letterOf_34 : decode cX7_letterOf 34 = .ok (.bipush 110, 2) := by decide +kernel
theorem dX7_letterOf_36 : decode cX7_letterOf 36 = .ok (.goto 15, 3) := by decide +kernel
theorem dX7_letterOf_39 : decode cX7_letterOf 39 = .ok (.iload_n 0, 1) := by decide +kernel
theorem dX7_letterOf_40 : decode cX7_letterOf 40 = .ok (.iconst 4, 1) := by decide +kernel
theorem dX7_letterOf_41 : decode cX7_letterOf 41 = .ok (.if_icmp .ne 8, 3) := by decide +kernel
theorem dX7_letterOf_44 : decode cX7_letterOf 44 = .ok (.bipush 114, 2) := by decide +kernel
theorem dX7_letterOf_46 : decode cX7_letterOf 46 = .ok (.goto 5, 3) := by decide +kernel
theorem dX7_letterOf_49 : decode cX7_letterOf 49 = .ok (.bipush 102, 2) := by decide +kernel
theorem dX7_letterOf_51 : decode cX7_letterOf 51 = .ok (.ireturn, 1) := by decide +kernel
theorem dX7_readLaws_0 : decode cX7_readLaws 0 = .ok (.aload_n 0, 1) := by decide +kernel
theorem dX7_readLaws_1 : decode cX7_readLaws 1 = .ok (.iconst 0, 1) := by decide +kernel
theorem dX7_readLaws_2 : decode cX7_readLaws 2 = .ok (.putfield 158, 3) := by decide +kernel
theorem dX7_readLaws_5 : decode cX7_readLaws 5 = .ok (.aload_n 0, 1) := by decide +kernel
theorem dX7_readLaws_6 : decode cX7_readLaws 6 = .ok (.iconst 0, 1) := by decide +kernel
theorem dX7_readLaws_7 : decode cX7_readLaws 7 = .ok (.putfield 169, 3) := by decide +kernel
theorem dX7_readLaws_10 : decode cX7_readLaws 10 = .ok (.iconst 0, 1) := by decide +kernel
theorem dX7_readLaws_11 : decode cX7_readLaws 11 = .ok (.istore_n 1, 1) := by decide +kernel
theorem dX7_readLaws_12 : decode cX7_readLaws 12 = .ok (.iload_n 1, 1) := by decide +kernel
theorem dX7_readLaws_13 : decode cX7_readLaws 13 = .ok (.bipush 6, 2) := by decide +kernel
theorem dX7_readLaws_15 : decode cX7_readLaws 15 = .ok (.if_icmp .ge 76, 3) := by decide +kernel
theorem dX7_readLaws_18 : decode cX7_readLaws 18 = .ok (.aload_n 0, 1) := by decide +kernel
theorem dX7_readLaws_19 : decode cX7_readLaws 19 = .ok (.getfield 23, 3) := by decide +kernel
theorem dX7_readLaws_22 : decode cX7_readLaws 22 = .ok (.iload_n 1, 1) := by decide +kernel
theorem dX7_readLaws_23 : decode cX7_readLaws 23 = .ok (.iconst (-1), 1) := by decide +kernel
theorem dX7_readLaws_24 : decode cX7_readLaws 24 = .ok (.iastore, 1) := by decide +kernel
theorem dX7_readLaws_25 : decode cX7_readLaws 25 = .ok (.aload_n 0, 1) := by decide +kernel
theorem dX7_readLaws_26 : decode cX7_readLaws 26 = .ok (.invokevirtual 161, 3) := by decide +kernel
theorem dX7_readLaws_29 : decode cX7_readLaws 29 = .ok (.iload_n 1, 1) := by decide +kernel
theorem dX7_readLaws_30 : decode cX7_readLaws 30 = .ok (.invokestatic 172, 3) := by decide +kernel
theorem dX7_readLaws_33 : decode cX7_readLaws 33 = .ok (.if_icmp .ne 52, 3) := by decide +kernel
theorem dX7_readLaws_36 : decode cX7_readLaws 36 = .ok (.aload_n 0, 1) := by decide +kernel
theorem dX7_readLaws_37 : decode cX7_readLaws 37 = .ok (.dup, 1) := by decide +kernel
theorem dX7_readLaws_38 : decode cX7_readLaws 38 = .ok (.getfield 158, 3) := by decide +kernel
theorem dX7_readLaws_41 : decode cX7_readLaws 41 = .ok (.iconst 1, 1) := by decide +kernel
theorem dX7_readLaws_42 : decode cX7_readLaws 42 = .ok (.iadd, 1) := by decide +kernel
theorem dX7_readLaws_43 : decode cX7_readLaws 43 = .ok (.putfield 158, 3) := by decide +kernel
theorem dX7_readLaws_46 : decode cX7_readLaws 46 = .ok (.aload_n 0, 1) := by decide +kernel
theorem dX7_readLaws_47 : decode cX7_readLaws 47 = .ok (.getfield 23, 3) := by decide +kernel
theorem dX7_readLaws_50 : decode cX7_readLaws 50 = .ok (.iload_n 1, 1) := by decide +kernel
theorem dX7_readLaws_51 : decode cX7_readLaws 51 = .ok (.aload_n 0, 1) := by decide +kernel
theorem dX7_readLaws_52 : decode cX7_readLaws 52 = .ok (.iload_n 1, 1) := by decide +kernel
theorem dX7_readLaws_53 : decode cX7_readLaws 53 = .ok (.invokestatic 109, 3) := by decide +kernel
theorem dX7_readLaws_56 : decode cX7_readLaws 56 = .ok (.iload_n 1, 1) := by decide +kernel
theorem dX7_readLaws_57 : decode cX7_readLaws 57 = .ok (.invokestatic 113, 3) := by decide +kernel
theorem dX7_readLaws_60 : decode cX7_readLaws 60 = .ok (.invokevirtual 175, 3) := by decide +kernel
theorem dX7_readLaws_63 : decode cX7_readLaws 63 = .ok (.iastore, 1) := by decide +kernel
theorem dX7_readLaws_64 : decode cX7_readLaws 64 = .ok (.aload_n 0, 1) := by decide +kernel
theorem dX7_readLaws_65 : decode cX7_readLaws 65 = .ok (.getfield 23, 3) := by decide +kernel
theorem dX7_readLaws_68 : decode cX7_readLaws 68 = .ok (.iload_n 1, 1) := by decide +kernel
theorem dX7_readLaws_69 : decode cX7_readLaws 69 = .ok (.iaload, 1) := by decide +kernel
theorem dX7_readLaws_70 : decode cX7_readLaws 70 = .ok (.ifCond .ge 5, 3) := by decide +kernel
theorem dX7_readLaws_73 : decode cX7_readLaws 73 = .ok (.iconst 0, 1) := by decide +kernel
theorem dX7_readLaws_74 : decode cX7_readLaws 74 = .ok (.ireturn, 1) := by decide +kernel
theorem dX7_readLaws_75 : decode cX7_readLaws 75 = .ok (.aload_n 0, 1) := by decide +kernel
theorem dX7_readLaws_76 : decode cX7_readLaws 76 = .ok (.dup, 1) := by decide +kernel
theorem dX7_readLaws_77 : decode cX7_readLaws 77 = .ok (.getfield 169, 3) := by decide +kernel
theorem dX7_readLaws_80 : decode cX7_readLaws 80 = .ok (.iconst 1, 1) := by decide +kernel
theorem dX7_readLaws_81 : decode cX7_readLaws 81 = .ok (.iadd, 1) := by decide +kernel
theorem dX7_readLaws_82 : decode cX7_readLaws 82 = .ok (.putfield 169, 3) := by decide +kernel
theorem dX7_readLaws_85 : decode cX7_readLaws 85 = .ok (.iinc 1 1, 3) := by decide +kernel
theorem dX7_readLaws_88 : decode cX7_readLaws 88 = .ok (.goto (-76), 3) := by decide +kernel
theorem dX7_readLaws_91 : decode cX7_readLaws 91 = .ok (.aload_n 0, 1) := by decide +kernel
theorem dX7_readLaws_92 : decode cX7_readLaws 92 = .ok (.getfield 169, 3) := by decide +kernel
theorem dX7_readLaws_95 : decode cX7_readLaws 95 = .ok (.ifCond .le 14, 3) := by decide +kernel
theorem dX7_readLaws_98 : decode cX7_readLaws 98 = .ok (.aload_n 0, 1) := by decide +kernel
theorem dX7_readLaws_99 : decode cX7_readLaws 99 = .ok (.invokevirtual 161, 3) := by decide +kernel
theorem dX7_readLaws_102 : decode cX7_readLaws 102 = .ok (.ifCond .ge 7, 3) := by decide +kernel
theorem dX7_readLaws_105 : decode cX7_readLaws 105 = .ok (.iconst 1, 1) := by decide +kernel
theorem dX7_readLaws_106 : decode cX7_readLaws 106 = .ok (.goto 4, 3) := by decide +kernel
theorem dX7_readLaws_109 : decode cX7_readLaws 109 = .ok (.iconst 0, 1) := by decide +kernel
theorem dX7_readLaws_110 : decode cX7_readLaws 110 = .ok (.ireturn, 1) := by decide +kernel
theorem dX7_laws_0 : decode cX7_laws 0 = .ok (.aload_n 0, 1) := by decide +kernel
theorem dX7_laws_1 : decode cX7_laws 1 = .ok (.invokevirtual 178, 3) := by decide +kernel
theorem dX7_laws_4 : decode cX7_laws 4 = .ok (.istore_n 1, 1) := by decide +kernel
theorem dX7_laws_5 : decode cX7_laws 5 = .ok (.iload_n 1, 1) := by decide +kernel
theorem dX7_laws_6 : decode cX7_laws 6 = .ok (.ifCond .ne 8, 3) := by decide +kernel
theorem dX7_laws_9 : decode cX7_laws 9 = .ok (.aload_n 0, 1) := by decide +kernel
theorem dX7_laws_10 : decode cX7_laws 10 = .ok (.invokevirtual 161, 3) := by decide +kernel
theorem dX7_laws_13 : decode cX7_laws 13 = .ok (.pop, 1) := by decide +kernel
theorem dX7_laws_14 : decode cX7_laws 14 = .ok (.aload_n 0, 1) := by decide +kernel
theorem dX7_laws_15 : decode cX7_laws 15 = .ok (.iconst 0, 1) := by decide +kernel
theorem dX7_laws_16 : decode cX7_laws 16 = .ok (.putfield 155, 3) := by decide +kernel
theorem dX7_laws_19 : decode cX7_laws 19 = .ok (.iload_n 1, 1) := by decide +kernel
theorem dX7_laws_20 : decode cX7_laws 20 = .ok (.ifCond .ne 11, 3) := by decide +kernel
theorem dX7_laws_23 : decode cX7_laws 23 = .ok (.bipush (-20), 2) := by decide +kernel
theorem dX7_laws_25 : decode cX7_laws 25 = .ok (.aload_n 0, 1) := by decide +kernel
theorem dX7_laws_26 : decode cX7_laws 26 = .ok (.getfield 158, 3) := by decide +kernel
theorem dX7_laws_29 : decode cX7_laws 29 = .ok (.isub, 1) := by decide +kernel
theorem dX7_laws_30 : decode cX7_laws 30 = .ok (.ireturn, 1) := by decide +kernel
theorem dX7_laws_31 : decode cX7_laws 31 = .ok (.iconst 0, 1) := by decide +kernel
theorem dX7_laws_32 : decode cX7_laws 32 = .ok (.istore_n 2, 1) := by decide +kernel
theorem dX7_laws_33 : decode cX7_laws 33 = .ok (.iload_n 2, 1) := by decide +kernel
theorem dX7_laws_34 : decode cX7_laws 34 = .ok (.bipush 6, 2) := by decide +kernel
theorem dX7_laws_36 : decode cX7_laws 36 = .ok (.if_icmp .ge 39, 3) := by decide +kernel
theorem dX7_laws_39 : decode cX7_laws 39 = .ok (.aload_n 0, 1) := by decide +kernel
theorem dX7_laws_40 : decode cX7_laws 40 = .ok (.getfield 13, 3) := by decide +kernel
theorem dX7_laws_43 : decode cX7_laws 43 = .ok (.iload_n 2, 1) := by decide +kernel
theorem dX7_laws_44 : decode cX7_laws 44 = .ok (.aload_n 0, 1) := by decide +kernel
theorem dX7_laws_45 : decode cX7_laws 45 = .ok (.getfield 23, 3) := by decide +kernel
theorem dX7_laws_48 : decode cX7_laws 48 = .ok (.iload_n 2, 1) := by decide +kernel
theorem dX7_laws_49 : decode cX7_laws 49 = .ok (.iaload, 1) := by decide +kernel
theorem dX7_laws_50 : decode cX7_laws 50 = .ok (.ifCond .ge 12, 3) := by decide +kernel
theorem dX7_laws_53 : decode cX7_laws 53 = .ok (.aload_n 0, 1) := by decide +kernel
theorem dX7_laws_54 : decode cX7_laws 54 = .ok (.getfield 13, 3) := by decide +kernel
theorem dX7_laws_57 : decode cX7_laws 57 = .ok (.iload_n 2, 1) := by decide +kernel
theorem dX7_laws_58 : decode cX7_laws 58 = .ok (.iaload, 1) := by decide +kernel
theorem dX7_laws_59 : decode cX7_laws 59 = .ok (.goto 9, 3) := by decide +kernel
theorem dX7_laws_62 : decode cX7_laws 62 = .ok (.aload_n 0, 1) := by decide +kernel
theorem dX7_laws_63 : decode cX7_laws 63 = .ok (.getfield 23, 3) := by decide +kernel
theorem dX7_laws_66 : decode cX7_laws 66 = .ok (.iload_n 2, 1) := by decide +kernel
theorem dX7_laws_67 : decode cX7_laws 67 = .ok (.iaload, 1) := by decide +kernel
theorem dX7_laws_68 : decode cX7_laws 68 = .ok (.iastore, 1) := by decide +kernel
theorem dX7_laws_69 : decode cX7_laws 69 = .ok (.iinc 2 1, 3) := by decide +kernel
theorem dX7_laws_72 : decode cX7_laws 72 = .ok (.goto (-39), 3) := by decide +kernel
theorem dX7_laws_75 : decode cX7_laws 75 = .ok (.aload_n 0, 1) := by decide +kernel
theorem dX7_laws_76 : decode cX7_laws 76 = .ok (.getfield 169, 3) := by decide +kernel
theorem dX7_laws_79 : decode cX7_laws 79 = .ok (.ireturn, 1) := by decide +kernel
theorem dX7_readPerson_0 : decode cX7_readPerson 0 = .ok (.aload_n 0, 1) := by decide +kernel
theorem dX7_readPerson_1 : decode cX7_readPerson 1 = .ok (.getfield 23, 3) := by decide +kernel
theorem dX7_readPerson_4 : decode cX7_readPerson 4 = .ok (.iload_n 1, 1) := by decide +kernel
theorem dX7_readPerson_5 : decode cX7_readPerson 5 = .ok (.aload_n 0, 1) := by decide +kernel
theorem dX7_readPerson_6 : decode cX7_readPerson 6 = .ok (.iconst 0, 1) := by decide +kernel
theorem dX7_readPerson_7 : decode cX7_readPerson 7 = .ok (.sipush 499, 3) := by decide +kernel
theorem dX7_readPerson_10 : decode cX7_readPerson 10 = .ok (.invokevirtual 175, 3) := by decide +kernel
theorem dX7_readPerson_13 : decode cX7_readPerson 13 = .ok (.iastore, 1) := by decide +kernel
theorem dX7_readPerson_14 : decode cX7_readPerson 14 = .ok (.aload_n 0, 1) := by decide +kernel
theorem dX7_readPerson_15 : decode cX7_readPerson 15 = .ok (.getfield 23, 3) := by decide +kernel
theorem dX7_readPerson_18 : decode cX7_readPerson 18 = .ok (.iload_n 1, 1) := by decide +kernel
theorem dX7_readPerson_19 : decode cX7_readPerson 19 = .ok (.iaload, 1) := by decide +kernel
theorem dX7_readPerson_20 : decode cX7_readPerson 20 = .ok (.ifCond .ge 5, 3) := by decide +kernel
theorem dX7_readPerson_23 : decode cX7_readPerson 23 = .ok (.iconst 0, 1) := by decide +kernel
theorem dX7_readPerson_24 : decode cX7_readPerson 24 = .ok (.ireturn, 1) := by decide +kernel
theorem dX7_readPerson_25 : decode cX7_readPerson 25 = .ok (.aload_n 0, 1) := by decide +kernel
theorem dX7_readPerson_26 : decode cX7_readPerson 26 = .ok (.invokevirtual 161, 3) := by decide +kernel
theorem dX7_readPerson_29 : decode cX7_readPerson 29 = .ok (.istore_n 2, 1) := by decide +kernel
theorem dX7_readPerson_30 : decode cX7_readPerson 30 = .ok (.iload_n 2, 1) := by decide +kernel
theorem dX7_readPerson_31 : decode cX7_readPerson 31 = .ok (.bipush 110, 2) := by decide +kernel
theorem dX7_readPerson_33 : decode cX7_readPerson 33 = .ok (.if_icmp .eq 11, 3) := by decide +kernel
theorem dX7_readPerson_36 : decode cX7_readPerson 36 = .ok (.iload_n 2, 1) := by decide +kernel
theorem dX7_readPerson_37 : decode cX7_readPerson 37 = .ok (.bipush 115, 2) := by decide +kernel
theorem dX7_readPerson_39 : decode cX7_readPerson 39 = .ok (.if_icmp .eq 5, 3) := by decide +kernel
theorem dX7_readPerson_42 : decode cX7_readPerson 42 = .ok (.iconst 0, 1) := by decide +kernel
theorem dX7_readPerson_43 : decode cX7_readPerson 43 = .ok (.ireturn, 1) := by decide +kernel
theorem dX7_readPerson_44 : decode cX7_readPerson 44 = .ok (.aload_n 0, 1) := by decide +kernel
theorem dX7_readPerson_45 : decode cX7_readPerson 45 = .ok (.getfield 23, 3) := by decide +kernel
theorem dX7_readPerson_48 : decode cX7_readPerson 48 = .ok (.iload_n 1, 1) := by decide +kernel
theorem dX7_readPerson_49 : decode cX7_readPerson 49 = .ok (.iconst 1, 1) := by decide +kernel
theorem dX7_readPerson_50 : decode cX7_readPerson 50 = .ok (.iadd, 1) := by decide +kernel
theorem dX7_readPerson_51 : decode cX7_readPerson 51 = .ok (.iload_n 2, 1) := by decide +kernel
theorem dX7_readPerson_52 : decode cX7_readPerson 52 = .ok (.bipush 110, 2) := by decide +kernel
theorem dX7_readPerson_54 : decode cX7_readPerson 54 = .ok (.if_icmp .ne 7, 3) := by decide +kernel
theorem dX7_readPerson_57 : decode cX7_readPerson 57 = .ok (.iconst 0, 1) := by decide +kernel
theorem dX7_readPerson_58 : decode cX7_readPerson 58 = .ok (.goto 4, 3) := by decide +kernel
theorem dX7_readPerson_61 : decode cX7_readPerson 61 = .ok (.iconst 1, 1) := by decide +kernel
theorem dX7_readPerson_62 : decode cX7_readPerson 62 = .ok (.iastore, 1) := by decide +kernel
theorem dX7_readPerson_63 : decode cX7_readPerson 63 = .ok (.aload_n 0, 1) := by decide +kernel
theorem dX7_readPerson_64 : decode cX7_readPerson 64 = .ok (.dup, 1) := by decide +kernel
theorem dX7_readPerson_65 : decode cX7_readPerson 65 = .ok (.getfield 158, 3) := by decide +kernel
theorem dX7_readPerson_68 : decode cX7_readPerson 68 = .ok (.iconst 1, 1) := by decide +kernel
theorem dX7_readPerson_69 : decode cX7_readPerson 69 = .ok (.iadd, 1) := by decide +kernel
theorem dX7_readPerson_70 : decode cX7_readPerson 70 = .ok (.putfield 158, 3) := by decide +kernel
theorem dX7_readPerson_73 : decode cX7_readPerson 73 = .ok (.aload_n 0, 1) := by decide +kernel
theorem dX7_readPerson_74 : decode cX7_readPerson 74 = .ok (.invokevirtual 161, 3) := by decide +kernel
theorem dX7_readPerson_77 : decode cX7_readPerson 77 = .ok (.istore_n 2, 1) := by decide +kernel
theorem dX7_readPerson_78 : decode cX7_readPerson 78 = .ok (.iload_n 2, 1) := by decide +kernel
theorem dX7_readPerson_79 : decode cX7_readPerson 79 = .ok (.bipush 119, 2) := by decide +kernel
theorem dX7_readPerson_81 : decode cX7_readPerson 81 = .ok (.if_icmp .eq 23, 3) := by decide +kernel
theorem dX7_readPerson_84 : decode cX7_readPerson 84 = .ok (.iload_n 2, 1) := by decide +kernel
theorem dX7_readPerson_85 : decode cX7_readPerson 85 = .ok (.bipush 114, 2) := by decide +kernel
theorem dX7_readPerson_87 : decode cX7_readPerson 87 = .ok (.if_icmp .eq 17, 3) := by decide +kernel
theorem dX7_readPerson_90 : decode cX7_readPerson 90 = .ok (.iload_n 2, 1) := by decide +kernel
theorem dX7_readPerson_91 : decode cX7_readPerson 91 = .ok (.bipush 108, 2) := by decide +kernel
theorem dX7_readPerson_93 : decode cX7_readPerson 93 = .ok (.if_icmp .eq 11, 3) := by decide +kernel
theorem dX7_readPerson_96 : decode cX7_readPerson 96 = .ok (.iload_n 2, 1) := by decide +kernel
theorem dX7_readPerson_97 : decode cX7_readPerson 97 = .ok (.bipush 115, 2) := by decide +kernel
theorem dX7_readPerson_99 : decode cX7_readPerson 99 = .ok (.if_icmp .eq 5, 3) := by decide +kernel
theorem dX7_readPerson_102 : decode cX7_readPerson 102 = .ok (.iconst 0, 1) := by decide +kernel
theorem dX7_readPerson_103 : decode cX7_readPerson 103 = .ok (.ireturn, 1) := by decide +kernel
theorem dX7_readPerson_104 : decode cX7_readPerson 104 = .ok (.aload_n 0, 1) := by decide +kernel
theorem dX7_readPerson_105 : decode cX7_readPerson 105 = .ok (.getfield 23, 3) := by decide +kernel
theorem dX7_readPerson_108 : decode cX7_readPerson 108 = .ok (.iload_n 1, 1) := by decide +kernel
theorem dX7_readPerson_109 : decode cX7_readPerson 109 = .ok (.iconst 2, 1) := by decide +kernel
theorem dX7_readPerson_110 : decode cX7_readPerson 110 = .ok (.iadd, 1) := by decide +kernel
theorem dX7_readPerson_111 : decode cX7_readPerson 111 = .ok (.iload_n 2, 1) := by decide +kernel
theorem dX7_readPerson_112 : decode cX7_readPerson 112 = .ok (.bipush 119, 2) := by decide +kernel
theorem dX7_readPerson_114 : decode cX7_readPerson 114 = .ok (.if_icmp .ne 7, 3) := by decide +kernel
theorem dX7_readPerson_117 : decode cX7_readPerson 117 = .ok (.iconst 0, 1) := by decide +kernel
theorem dX7_readPerson_118 : decode cX7_readPerson 118 = .ok (.goto 24, 3) := by decide +kernel
theorem dX7_readPerson_121 : decode cX7_readPerson 121 = .ok (.iload_n 2, 1) := by decide +kernel
theorem dX7_readPerson_122 : decode cX7_readPerson 122 = .ok (.bipush 114, 2) := by decide +kernel
theorem dX7_readPerson_124 : decode cX7_readPerson 124 = .ok (.if_icmp .ne 7, 3) := by decide +kernel
theorem dX7_readPerson_127 : decode cX7_readPerson 127 = .ok (.iconst 1, 1) := by decide +kernel
theorem dX7_readPerson_128 : decode cX7_readPerson 128 = .ok (.goto 14, 3) := by decide +kernel
theorem dX7_readPerson_131 : decode cX7_readPerson 131 = .ok (.iload_n 2, 1) := by decide +kernel
theorem dX7_readPerson_132 : decode cX7_readPerson 132 = .ok (.bipush 108, 2) := by decide +kernel
theorem dX7_readPerson_134 : decode cX7_readPerson 134 = .ok (.if_icmp .ne 7, 3) := by decide +kernel
theorem dX7_readPerson_137 : decode cX7_readPerson 137 = .ok (.iconst 2, 1) := by decide +kernel
theorem dX7_readPerson_138 : decode cX7_readPerson 138 = .ok (.goto 4, 3) := by decide +kernel
theorem dX7_readPerson_141 : decode cX7_readPerson 141 = .ok (.iconst 3, 1) := by decide +kernel
theorem dX7_readPerson_142 : decode cX7_readPerson 142 = .ok (.iastore, 1) := by decide +kernel
theorem dX7_readPerson_143 : decode cX7_readPerson 143 = .ok (.aload_n 0, 1) := by decide +kernel
theorem dX7_readPerson_144 : decode cX7_readPerson 144 = .ok (.dup, 1) := by decide +kernel
theorem dX7_readPerson_145 : decode cX7_readPerson 145 = .ok (.getfield 158, 3) := by decide +kernel
theorem dX7_readPerson_148 : decode cX7_readPerson 148 = .ok (.iconst 1, 1) := by decide +kernel
theorem dX7_readPerson_149 : decode cX7_readPerson 149 = .ok (.iadd, 1) := by decide +kernel
theorem dX7_readPerson_150 : decode cX7_readPerson 150 = .ok (.putfield 158, 3) := by decide +kernel
theorem dX7_readPerson_153 : decode cX7_readPerson 153 = .ok (.aload_n 0, 1) := by decide +kernel
theorem dX7_readPerson_154 : decode cX7_readPerson 154 = .ok (.getfield 23, 3) := by decide +kernel
theorem dX7_readPerson_157 : decode cX7_readPerson 157 = .ok (.iload_n 1, 1) := by decide +kernel
theorem dX7_readPerson_158 : decode cX7_readPerson 158 = .ok (.iconst 3, 1) := by decide +kernel
theorem dX7_readPerson_159 : decode cX7_readPerson 159 = .ok (.iadd, 1) := by decide +kernel
theorem dX7_readPerson_160 : decode cX7_readPerson 160 = .ok (.aload_n 0, 1) := by decide +kernel
theorem dX7_readPerson_161 : decode cX7_readPerson 161 = .ok (.iconst 1, 1) := by decide +kernel
theorem dX7_readPerson_162 : decode cX7_readPerson 162 = .ok (.bipush 20, 2) := by decide +kernel
theorem dX7_readPerson_164 : decode cX7_readPerson 164 = .ok (.invokevirtual 175, 3) := by decide +kernel
theorem dX7_readPerson_167 : decode cX7_readPerson 167 = .ok (.iastore, 1) := by decide +kernel
theorem dX7_readPerson_168 : decode cX7_readPerson 168 = .ok (.aload_n 0, 1) := by decide +kernel
theorem dX7_readPerson_169 : decode cX7_readPerson 169 = .ok (.getfield 23, 3) := by decide +kernel
theorem dX7_readPerson_172 : decode cX7_readPerson 172 = .ok (.iload_n 1, 1) := by decide +kernel
theorem dX7_readPerson_173 : decode cX7_readPerson 173 = .ok (.iconst 3, 1) := by decide +kernel
theorem dX7_readPerson_174 : decode cX7_readPerson 174 = .ok (.iadd, 1) := by decide +kernel
theorem dX7_readPerson_175 : decode cX7_readPerson 175 = .ok (.iaload, 1) := by decide +kernel
theorem dX7_readPerson_176 : decode cX7_readPerson 176 = .ok (.ifCond .ge 5, 3) := by decide +kernel
theorem dX7_readPerson_179 : decode cX7_readPerson 179 = .ok (.iconst 0, 1) := by decide +kernel
theorem dX7_readPerson_180 : decode cX7_readPerson 180 = .ok (.ireturn, 1) := by decide +kernel
theorem dX7_readPerson_181 : decode cX7_readPerson 181 = .ok (.aload_n 0, 1) := by decide +kernel
theorem dX7_readPerson_182 : decode cX7_readPerson 182 = .ok (.getfield 23, 3) := by decide +kernel
theorem dX7_readPerson_185 : decode cX7_readPerson 185 = .ok (.iload_n 1, 1) := by decide +kernel
theorem dX7_readPerson_186 : decode cX7_readPerson 186 = .ok (.iconst 4, 1) := by decide +kernel
theorem dX7_readPerson_187 : decode cX7_readPerson 187 = .ok (.iadd, 1) := by decide +kernel
theorem dX7_readPerson_188 : decode cX7_readPerson 188 = .ok (.iconst 1, 1) := by decide +kernel
theorem dX7_readPerson_189 : decode cX7_readPerson 189 = .ok (.iastore, 1) := by decide +kernel
theorem dX7_readPerson_190 : decode cX7_readPerson 190 = .ok (.aload_n 0, 1) := by decide +kernel
theorem dX7_readPerson_191 : decode cX7_readPerson 191 = .ok (.invokevirtual 161, 3) := by decide +kernel
theorem dX7_readPerson_194 : decode cX7_readPerson 194 = .ok (.bipush 116, 2) := by decide +kernel
theorem dX7_readPerson_196 : decode cX7_readPerson 196 = .ok (.if_icmp .ne 59, 3) := by decide +kernel
theorem dX7_readPerson_199 : decode cX7_readPerson 199 = .ok (.aload_n 0, 1) := by decide +kernel
theorem dX7_readPerson_200 : decode cX7_readPerson 200 = .ok (.dup, 1) := by decide +kernel
theorem dX7_readPerson_201 : decode cX7_readPerson 201 = .ok (.getfield 158, 3) := by decide +kernel
theorem dX7_readPerson_204 : decode cX7_readPerson 204 = .ok (.iconst 1, 1) := by decide +kernel
theorem dX7_readPerson_205 : decode cX7_readPerson 205 = .ok (.iadd, 1) := by decide +kernel
theorem dX7_readPerson_206 : decode cX7_readPerson 206 = .ok (.putfield 158, 3) := by decide +kernel
theorem dX7_readPerson_209 : decode cX7_readPerson 209 = .ok (.aload_n 0, 1) := by decide +kernel
theorem dX7_readPerson_210 : decode cX7_readPerson 210 = .ok (.getfield 23, 3) := by decide +kernel
theorem dX7_readPerson_213 : decode cX7_readPerson 213 = .ok (.iload_n 1, 1) := by decide +kernel
theorem dX7_readPerson_214 : decode cX7_readPerson 214 = .ok (.iconst 4, 1) := by decide +kernel
theorem dX7_readPerson_215 : decode cX7_readPerson 215 = .ok (.iadd, 1) := by decide +kernel
theorem dX7_readPerson_216 : decode cX7_readPerson 216 = .ok (.aload_n 0, 1) := by decide +kernel
theorem dX7_readPerson_217 : decode cX7_readPerson 217 = .ok (.invokevirtual 161, 3) := by decide +kernel
theorem dX7_readPerson_220 : decode cX7_readPerson 220 = .ok (.bipush 48, 2) := by decide +kernel
theorem dX7_readPerson_222 : decode cX7_readPerson 222 = .ok (.isub, 1) := by decide +kernel
theorem dX7_readPerson_223 : decode cX7_readPerson 223 = .ok (.iastore, 1) := by decide +kernel
theorem dX7_readPerson_224 : decode cX7_readPerson 224 = .ok (.aload_n 0, 1) := by decide +kernel
theorem dX7_readPerson_225 : decode cX7_readPerson 225 = .ok (.getfield 23, 3) := by decide +kernel
theorem dX7_readPerson_228 : decode cX7_readPerson 228 = .ok (.iload_n 1, 1) := by decide +kernel
theorem dX7_readPerson_229 : decode cX7_readPerson 229 = .ok (.iconst 4, 1) := by decide +kernel
theorem dX7_readPerson_230 : decode cX7_readPerson 230 = .ok (.iadd, 1) := by decide +kernel
theorem dX7_readPerson_231 : decode cX7_readPerson 231 = .ok (.iaload, 1) := by decide +kernel
theorem dX7_readPerson_232 : decode cX7_readPerson 232 = .ok (.i2l, 1) := by decide +kernel
theorem dX7_readPerson_233 : decode cX7_readPerson 233 = .ok (.lconst 1, 1) := by decide +kernel
theorem dX7_readPerson_234 : decode cX7_readPerson 234 = .ok (.ldc2_w 122, 3) := by decide +kernel
theorem dX7_readPerson_237 : decode cX7_readPerson 237 = .ok (.invokestatic 101, 3) := by decide +kernel
theorem dX7_readPerson_240 : decode cX7_readPerson 240 = .ok (.ifCond .ne 5, 3) := by decide +kernel
theorem dX7_readPerson_243 : decode cX7_readPerson 243 = .ok (.iconst 0, 1) := by decide +kernel
theorem dX7_readPerson_244 : decode cX7_readPerson 244 = .ok (.ireturn, 1) := by decide +kernel
theorem dX7_readPerson_245 : decode cX7_readPerson 245 = .ok (.aload_n 0, 1) := by decide +kernel
theorem dX7_readPerson_246 : decode cX7_readPerson 246 = .ok (.dup, 1) := by decide +kernel
theorem dX7_readPerson_247 : decode cX7_readPerson 247 = .ok (.getfield 158, 3) := by decide +kernel
theorem dX7_readPerson_250 : decode cX7_readPerson 250 = .ok (.iconst 1, 1) := by decide +kernel
theorem dX7_readPerson_251 : decode cX7_readPerson 251 = .ok (.iadd, 1) := by decide +kernel
theorem dX7_readPerson_252 : decode cX7_readPerson 252 = .ok (.putfield 158, 3) := by decide +kernel
theorem dX7_readPerson_255 : decode cX7_readPerson 255 = .ok (.iconst 1, 1) := by decide +kernel
theorem dX7_readPerson_256 : decode cX7_readPerson 256 = .ok (.ireturn, 1) := by decide +kernel
theorem dX7_readPeople_0 : decode cX7_readPeople 0 = .ok (.aload_n 0, 1) := by decide +kernel
theorem dX7_readPeople_1 : decode cX7_readPeople 1 = .ok (.iconst 0, 1) := by decide +kernel
theorem dX7_readPeople_2 : decode cX7_readPeople 2 = .ok (.putfield 158, 3) := by decide +kernel
theorem dX7_readPeople_5 : decode cX7_readPeople 5 = .ok (.iconst 0, 1) := by decide +kernel
theorem dX7_readPeople_6 : decode cX7_readPeople 6 = .ok (.istore_n 1, 1) := by decide +kernel
theorem dX7_readPeople_7 : decode cX7_readPeople 7 = .ok (.iload_n 1, 1) := by decide +kernel
theorem dX7_readPeople_8 : decode cX7_readPeople 8 = .ok (.bipush 6, 2) := by decide +kernel
theorem dX7_readPeople_10 : decode cX7_readPeople 10 = .ok (.if_icmp .ge 62, 3) := by decide +kernel
theorem dX7_readPeople_13 : decode cX7_readPeople 13 = .ok (.aload_n 0, 1) := by decide +kernel
theorem dX7_readPeople_14 : decode cX7_readPeople 14 = .ok (.iconst 5, 1) := by decide +kernel
theorem dX7_readPeople_15 : decode cX7_readPeople 15 = .ok (.iload_n 1, 1) := by decide +kernel
theorem dX7_readPeople_16 : decode cX7_readPeople 16 = .ok (.imul, 1) := by decide +kernel
theorem dX7_readPeople_17 : decode cX7_readPeople 17 = .ok (.invokevirtual 182, 3) := by decide +kernel
theorem dX7_readPeople_20 : decode cX7_readPeople 20 = .ok (.ifCond .ne 5, 3) := by decide +kernel
theorem dX7_readPeople_23 : decode cX7_readPeople 23 = .ok (.iconst 0, 1) := by decide +kernel
theorem dX7_readPeople_24 : decode cX7_readPeople 24 = .ok (.ireturn, 1) := by decide +kernel
theorem dX7_readPeople_25 : decode cX7_readPeople 25 = .ok (.aload_n 0, 1) := by decide +kernel
theorem dX7_readPeople_26 : decode cX7_readPeople 26 = .ok (.iload_n 1, 1) := by decide +kernel
theorem dX7_readPeople_27 : decode cX7_readPeople 27 = .ok (.iconst 1, 1) := by decide +kernel
theorem dX7_readPeople_28 : decode cX7_readPeople 28 = .ok (.iadd, 1) := by decide +kernel
theorem dX7_readPeople_29 : decode cX7_readPeople 29 = .ok (.putfield 169, 3) := by decide +kernel
theorem dX7_readPeople_32 : decode cX7_readPeople 32 = .ok (.aload_n 0, 1) := by decide +kernel
theorem dX7_readPeople_33 : decode cX7_readPeople 33 = .ok (.invokevirtual 161, 3) := by decide +kernel
theorem dX7_readPeople_36 : decode cX7_readPeople 36 = .ok (.istore_n 2, 1) := by decide +kernel
theorem dX7_readPeople_37 : decode cX7_readPeople 37 = .ok (.iload_n 2, 1) := by decide +kernel
theorem dX7_readPeople_38 : decode cX7_readPeople 38 = .ok (.ifCond .ge 5, 3) := by decide +kernel
theorem dX7_readPeople_41 : decode cX7_readPeople 41 = .ok (.iconst 1, 1) := by decide +kernel
theorem dX7_readPeople_42 : decode cX7_readPeople 42 = .ok (.ireturn, 1) := by decide +kernel
theorem dX7_readPeople_43 : decode cX7_readPeople 43 = .ok (.iload_n 2, 1) := by decide +kernel
theorem dX7_readPeople_44 : decode cX7_readPeople 44 = .ok (.bipush 59, 2) := by decide +kernel
theorem dX7_readPeople_46 : decode cX7_readPeople 46 = .ok (.if_icmp .ne 8, 3) := by decide +kernel
theorem dX7_readPeople_49 : decode cX7_readPeople 49 = .ok (.iload_n 1, 1) := by decide +kernel
theorem dX7_readPeople_50 : decode cX7_readPeople 50 = .ok (.iconst 5, 1) := by decide +kernel
theorem dX7_readPeople_51 : decode cX7_readPeople 51 = .ok (.if_icmp .ne 5, 3) := by decide +kernel
theorem dX7_readPeople_54 : decode cX7_readPeople 54 = .ok (.iconst 0, 1) := by decide +kernel
theorem dX7_readPeople_55 : decode cX7_readPeople 55 = .ok (.ireturn, 1) := by decide +kernel
theorem dX7_readPeople_56 : decode cX7_readPeople 56 = .ok (.aload_n 0, 1) := by decide +kernel
theorem dX7_readPeople_57 : decode cX7_readPeople 57 = .ok (.dup, 1) := by decide +kernel
theorem dX7_readPeople_58 : decode cX7_readPeople 58 = .ok (.getfield 158, 3) := by decide +kernel
theorem dX7_readPeople_61 : decode cX7_readPeople 61 = .ok (.iconst 1, 1) := by decide +kernel
theorem dX7_readPeople_62 : decode cX7_readPeople 62 = .ok (.iadd, 1) := by decide +kernel
theorem dX7_readPeople_63 : decode cX7_readPeople 63 = .ok (.putfield 158, 3) := by decide +kernel
theorem dX7_readPeople_66 : decode cX7_readPeople 66 = .ok (.iinc 1 1, 3) := by decide +kernel
theorem dX7_readPeople_69 : decode cX7_readPeople 69 = .ok (.goto (-62), 3) := by decide +kernel
theorem dX7_readPeople_72 : decode cX7_readPeople 72 = .ok (.iconst 0, 1) := by decide +kernel
theorem dX7_readPeople_73 : decode cX7_readPeople 73 = .ok (.ireturn, 1) := by decide +kernel
theorem dX7_addRead_0 : decode cX7_addRead 0 = .ok (.iconst 0, 1) := by decide +kernel
theorem dX7_addRead_1 : decode cX7_addRead 1 = .ok (.istore_n 1, 1) := by decide +kernel
theorem dX7_addRead_2 : decode cX7_addRead 2 = .ok (.iload_n 1, 1) := by decide +kernel
theorem dX7_addRead_3 : decode cX7_addRead 3 = .ok (.aload_n 0, 1) := by decide +kernel
theorem dX7_addRead_4 : decode cX7_addRead 4 = .ok (.getfield 169, 3) := by decide +kernel
theorem dX7_addRead_7 : decode cX7_addRead 7 = .ok (.if_icmp .ge 61, 3) := by decide +kernel
theorem dX7_addRead_10 : decode cX7_addRead 10 = .ok (.aload_n 0, 1) := by decide +kernel
theorem dX7_addRead_11 : decode cX7_addRead 11 = .ok (.aload_n 0, 1) := by decide +kernel
theorem dX7_addRead_12 : decode cX7_addRead 12 = .ok (.getfield 23, 3) := by decide +kernel
theorem dX7_addRead_15 : decode cX7_addRead 15 = .ok (.iconst 5, 1) := by decide +kernel
theorem dX7_addRead_16 : decode cX7_addRead 16 = .ok (.iload_n 1, 1) := by decide +kernel
theorem dX7_addRead_17 : decode cX7_addRead 17 = .ok (.imul, 1) := by decide +kernel
theorem dX7_addRead_18 : decode cX7_addRead 18 = .ok (.iaload, 1) := by decide +kernel
theorem dX7_addRead_19 : decode cX7_addRead 19 = .ok (.aload_n 0, 1) := by decide +kernel
theorem dX7_addRead_20 : decode cX7_addRead 20 = .ok (.getfield 23, 3) := by decide +kernel
theorem dX7_addRead_23 : decode cX7_addRead 23 = .ok (.iconst 5, 1) := by decide +kernel
theorem dX7_addRead_24 : decode cX7_addRead 24 = .ok (.iload_n 1, 1) := by decide +kernel
theorem dX7_addRead_25 : decode cX7_addRead 25 = .ok (.imul, 1) := by decide +kernel
theorem dX7_addRead_26 : decode cX7_addRead 26 = .ok (.iconst 1, 1) := by decide +kernel
theorem dX7_addRead_27 : decode cX7_addRead 27 = .ok (.iadd, 1) := by decide +kernel
theorem dX7_addRead_28 : decode cX7_addRead 28 = .ok (.iaload, 1) := by decide +kernel
theorem dX7_addRead_29 : decode cX7_addRead 29 = .ok (.aload_n 0, 1) := by decide +kernel
theorem dX7_addRead_30 : decode cX7_addRead 30 = .ok (.getfield 23, 3) := by decide +kernel
theorem dX7_addRead_33 : decode cX7_addRead 33 = .ok (.iconst 5, 1) := by decide +kernel
theorem dX7_addRead_34 : decode cX7_addRead 34 = .ok (.iload_n 1, 1) := by decide +kernel
theorem dX7_addRead_35 : decode cX7_addRead 35 = .ok (.imul, 1) := by decide +kernel
theorem dX7_addRead_36 : decode cX7_addRead 36 = .ok (.iconst 2, 1) := by decide +kernel
theorem dX7_addRead_37 : decode cX7_addRead 37 = .ok (.iadd, 1) := by decide +kernel
theorem dX7_addRead_38 : decode cX7_addRead 38 = .ok (.iaload, 1) := by decide +kernel
theorem dX7_addRead_39 : decode cX7_addRead 39 = .ok (.aload_n 0, 1) := by decide +kernel
theorem dX7_addRead_40 : decode cX7_addRead 40 = .ok (.getfield 23, 3) := by decide +kernel
theorem dX7_addRead_43 : decode cX7_addRead 43 = .ok (.iconst 5, 1) := by decide +kernel
theorem dX7_addRead_44 : decode cX7_addRead 44 = .ok (.iload_n 1, 1) := by decide +kernel
theorem dX7_addRead_45 : decode cX7_addRead 45 = .ok (.imul, 1) := by decide +kernel
theorem dX7_addRead_46 : decode cX7_addRead 46 = .ok (.iconst 3, 1) := by decide +kernel
theorem dX7_addRead_47 : decode cX7_addRead 47 = .ok (.iadd, 1) := by decide +kernel
theorem dX7_addRead_48 : decode cX7_addRead 48 = .ok (.iaload, 1) := by decide +kernel
theorem dX7_addRead_49 : decode cX7_addRead 49 = .ok (.aload_n 0, 1) := by decide +kernel
theorem dX7_addRead_50 : decode cX7_addRead 50 = .ok (.getfield 23, 3) := by decide +kernel
theorem dX7_addRead_53 : decode cX7_addRead 53 = .ok (.iconst 5, 1) := by decide +kernel
theorem dX7_addRead_54 : decode cX7_addRead 54 = .ok (.iload_n 1, 1) := by decide +kernel
theorem dX7_addRead_55 : decode cX7_addRead 55 = .ok (.imul, 1) := by decide +kernel
theorem dX7_addRead_56 : decode cX7_addRead 56 = .ok (.iconst 4, 1) := by decide +kernel
theorem dX7_addRead_57 : decode cX7_addRead 57 = .ok (.iadd, 1) := by decide +kernel
theorem dX7_addRead_58 : decode cX7_addRead 58 = .ok (.iaload, 1) := by decide +kernel
theorem dX7_addRead_59 : decode cX7_addRead 59 = .ok (.invokevirtual 128, 3) := by decide +kernel
theorem dX7_addRead_62 : decode cX7_addRead 62 = .ok (.iinc 1 1, 3) := by decide +kernel
theorem dX7_addRead_65 : decode cX7_addRead 65 = .ok (.goto (-63), 3) := by decide +kernel
theorem dX7_addRead_68 : decode cX7_addRead 68 = .ok (.return_, 1) := by decide +kernel
theorem dX7_people_0 : decode cX7_people 0 = .ok (.aload_n 0, 1) := by decide +kernel
theorem dX7_people_1 : decode cX7_people 1 = .ok (.invokevirtual 185, 3) := by decide +kernel
theorem dX7_people_4 : decode cX7_people 4 = .ok (.istore_n 1, 1) := by decide +kernel
theorem dX7_people_5 : decode cX7_people 5 = .ok (.iload_n 1, 1) := by decide +kernel
theorem dX7_people_6 : decode cX7_people 6 = .ok (.ifCond .ne 8, 3) := by decide +kernel
theorem dX7_people_9 : decode cX7_people 9 = .ok (.aload_n 0, 1) := by decide +kernel
theorem dX7_people_10 : decode cX7_people 10 = .ok (.invokevirtual 161, 3) := by decide +kernel
theorem dX7_people_13 : decode cX7_people 13 = .ok (.pop, 1) := by decide +kernel
theorem dX7_people_14 : decode cX7_people 14 = .ok (.aload_n 0, 1) := by decide +kernel
theorem dX7_people_15 : decode cX7_people 15 = .ok (.iconst 0, 1) := by decide +kernel
theorem dX7_people_16 : decode cX7_people 16 = .ok (.putfield 155, 3) := by decide +kernel
theorem dX7_people_19 : decode cX7_people 19 = .ok (.iload_n 1, 1) := by decide +kernel
theorem dX7_people_20 : decode cX7_people 20 = .ok (.ifCond .ne 11, 3) := by decide +kernel
theorem dX7_people_23 : decode cX7_people 23 = .ok (.bipush (-20), 2) := by decide +kernel
theorem dX7_people_25 : decode cX7_people 25 = .ok (.aload_n 0, 1) := by decide +kernel
theorem dX7_people_26 : decode cX7_people 26 = .ok (.getfield 158, 3) := by decide +kernel
theorem dX7_people_29 : decode cX7_people 29 = .ok (.isub, 1) := by decide +kernel
theorem dX7_people_30 : decode cX7_people 30 = .ok (.ireturn, 1) := by decide +kernel
theorem dX7_people_31 : decode cX7_people 31 = .ok (.aload_n 0, 1) := by decide +kernel
theorem dX7_people_32 : decode cX7_people 32 = .ok (.getfield 98, 3) := by decide +kernel
theorem dX7_people_35 : decode cX7_people 35 = .ok (.aload_n 0, 1) := by decide +kernel
theorem dX7_people_36 : decode cX7_people 36 = .ok (.getfield 169, 3) := by decide +kernel
theorem dX7_people_39 : decode cX7_people 39 = .ok (.iadd, 1) := by decide +kernel
theorem dX7_people_40 : decode cX7_people 40 = .ok (.bipush 10, 2) := by decide +kernel
theorem dX7_people_42 : decode cX7_people 42 = .ok (.if_icmp .le 6, 3) := by decide +kernel
theorem dX7_people_45 : decode cX7_people 45 = .ok (.bipush (-3), 2) := by decide +kernel
theorem dX7_people_47 : decode cX7_people 47 = .ok (.ireturn, 1) := by decide +kernel
theorem dX7_people_48 : decode cX7_people 48 = .ok (.aload_n 0, 1) := by decide +kernel
theorem dX7_people_49 : decode cX7_people 49 = .ok (.invokevirtual 188, 3) := by decide +kernel
theorem dX7_people_52 : decode cX7_people 52 = .ok (.aload_n 0, 1) := by decide +kernel
theorem dX7_people_53 : decode cX7_people 53 = .ok (.getfield 169, 3) := by decide +kernel
theorem dX7_people_56 : decode cX7_people 56 = .ok (.ireturn, 1) := by decide +kernel
theorem dX7_begin_0 : decode cX7_begin 0 = .ok (.aload_n 0, 1) := by decide +kernel
theorem dX7_begin_1 : decode cX7_begin 1 = .ok (.aload_n 0, 1) := by decide +kernel
theorem dX7_begin_2 : decode cX7_begin 2 = .ok (.getfield 16, 3) := by decide +kernel
theorem dX7_begin_5 : decode cX7_begin 5 = .ok (.putfield 191, 3) := by decide +kernel
theorem dX7_begin_8 : decode cX7_begin 8 = .ok (.aload_n 0, 1) := by decide +kernel
theorem dX7_begin_9 : decode cX7_begin 9 = .ok (.aload_n 0, 1) := by decide +kernel
theorem dX7_begin_10 : decode cX7_begin 10 = .ok (.getfield 13, 3) := by decide +kernel
theorem dX7_begin_13 : decode cX7_begin 13 = .ok (.iconst 4, 1) := by decide +kernel
theorem dX7_begin_14 : decode cX7_begin 14 = .ok (.iaload, 1) := by decide +kernel
theorem dX7_begin_15 : decode cX7_begin 15 = .ok (.putfield 194, 3) := by decide +kernel
theorem dX7_begin_18 : decode cX7_begin 18 = .ok (.aload_n 0, 1) := by decide +kernel
theorem dX7_begin_19 : decode cX7_begin 19 = .ok (.iconst 0, 1) := by decide +kernel
theorem dX7_begin_20 : decode cX7_begin 20 = .ok (.putfield 197, 3) := by decide +kernel
theorem dX7_begin_23 : decode cX7_begin 23 = .ok (.aload_n 0, 1) := by decide +kernel
theorem dX7_begin_24 : decode cX7_begin 24 = .ok (.aload_n 0, 1) := by decide +kernel
theorem dX7_begin_25 : decode cX7_begin 25 = .ok (.getfield 13, 3) := by decide +kernel
theorem dX7_begin_28 : decode cX7_begin 28 = .ok (.iconst 1, 1) := by decide +kernel
theorem dX7_begin_29 : decode cX7_begin 29 = .ok (.iaload, 1) := by decide +kernel
theorem dX7_begin_30 : decode cX7_begin 30 = .ok (.putfield 200, 3) := by decide +kernel
theorem dX7_begin_33 : decode cX7_begin 33 = .ok (.aload_n 0, 1) := by decide +kernel
theorem dX7_begin_34 : decode cX7_begin 34 = .ok (.iconst (-1), 1) := by decide +kernel
theorem dX7_begin_35 : decode cX7_begin 35 = .ok (.putfield 68, 3) := by decide +kernel
theorem dX7_begin_38 : decode cX7_begin 38 = .ok (.aload_n 0, 1) := by decide +kernel
theorem dX7_begin_39 : decode cX7_begin 39 = .ok (.getfield 65, 3) := by decide +kernel
theorem dX7_begin_42 : decode cX7_begin 42 = .ok (.iconst 0, 1) := by decide +kernel
theorem dX7_begin_43 : decode cX7_begin 43 = .ok (.sipush (-1000), 3) := by decide +kernel
theorem dX7_begin_46 : decode cX7_begin 46 = .ok (.iastore, 1) := by decide +kernel
theorem dX7_begin_47 : decode cX7_begin 47 = .ok (.aload_n 0, 1) := by decide +kernel
theorem dX7_begin_48 : decode cX7_begin 48 = .ok (.getfield 65, 3) := by decide +kernel
theorem dX7_begin_51 : decode cX7_begin 51 = .ok (.iconst 1, 1) := by decide +kernel
theorem dX7_begin_52 : decode cX7_begin 52 = .ok (.sipush (-1000), 3) := by decide +kernel
theorem dX7_begin_55 : decode cX7_begin 55 = .ok (.iastore, 1) := by decide +kernel
theorem dX7_begin_56 : decode cX7_begin 56 = .ok (.iconst 0, 1) := by decide +kernel
theorem dX7_begin_57 : decode cX7_begin 57 = .ok (.istore_n 1, 1) := by decide +kernel
theorem dX7_begin_58 : decode cX7_begin 58 = .ok (.iload_n 1, 1) := by decide +kernel
theorem dX7_begin_59 : decode cX7_begin 59 = .ok (.aload_n 0, 1) := by decide +kernel
theorem dX7_begin_60 : decode cX7_begin 60 = .ok (.getfield 98, 3) := by decide +kernel
theorem dX7_begin_63 : decode cX7_begin 63 = .ok (.if_icmp .ge 101, 3) := by decide +kernel
theorem dX7_begin_66 : decode cX7_begin 66 = .ok (.aload_n 0, 1) := by decide +kernel
theorem dX7_begin_67 : decode cX7_begin 67 = .ok (.getfield 26, 3) := by decide +kernel
theorem dX7_begin_70 : decode cX7_begin 70 = .ok (.iload_n 1, 1) := by decide +kernel
theorem dX7_begin_71 : decode cX7_begin 71 = .ok (.iconst 0, 1) := by decide +kernel
theorem dX7_begin_72 : decode cX7_begin 72 = .ok (.iastore, 1) := by decide +kernel
theorem dX7_begin_73 : decode cX7_begin 73 = .ok (.aload_n 0, 1) := by decide +kernel
theorem dX7_begin_74 : decode cX7_begin 74 = .ok (.getfield 29, 3) := by decide +kernel
theorem dX7_begin_77 : decode cX7_begin 77 = .ok (.iload_n 1, 1) := by decide +kernel
theorem dX7_begin_78 : decode cX7_begin 78 = .ok (.aload_n 0, 1) := by decide +kernel
theorem dX7_begin_79 : decode cX7_begin 79 = .ok (.getfield 7, 3) := by decide +kernel
theorem dX7_begin_82 : decode cX7_begin 82 = .ok (.bipush 7, 2) := by decide +kernel
theorem dX7_begin_84 : decode cX7_begin 84 = .ok (.iload_n 1, 1) := by decide +kernel
theorem dX7_begin_85 : decode cX7_begin 85 = .ok (.imul, 1) := by decide +kernel
theorem dX7_begin_86 : decode cX7_begin 86 = .ok (.iconst 1, 1) := by decide +kernel
theorem dX7_begin_87 : decode cX7_begin 87 = .ok (.iadd, 1) := by decide +kernel
theorem dX7_begin_88 : decode cX7_begin 88 = .ok (.iaload, 1) := by decide +kernel
theorem dX7_begin_89 : decode cX7_begin 89 = .ok (.iastore, 1) := by decide +kernel
theorem dX7_begin_90 : decode cX7_begin 90 = .ok (.aload_n 0, 1) := by decide +kernel
theorem dX7_begin_91 : decode cX7_begin 91 = .ok (.getfield 32, 3) := by decide +kernel
theorem dX7_begin_94 : decode cX7_begin 94 = .ok (.iload_n 1, 1) := by decide +kernel
theorem dX7_begin_95 : decode cX7_begin 95 = .ok (.iconst 0, 1) := by decide +kernel
theorem dX7_begin_96 : decode cX7_begin 96 = .ok (.iastore, 1) := by decide +kernel
theorem dX7_begin_97 : decode cX7_begin 97 = .ok (.aload_n 0, 1) := by decide +kernel
theorem dX7_begin_98 : decode cX7_begin 98 = .ok (.getfield 35, 3) := by decide +kernel
theorem dX7_begin_101 : decode cX7_begin 101 = .ok (.iload_n 1, 1) := by decide +kernel
theorem dX7_begin_102 : decode cX7_begin 102 = .ok (.iconst 0, 1) := by decide +kernel
theorem dX7_begin_103 : decode cX7_begin 103 = .ok (.iastore, 1) := by decide +kernel
theorem dX7_begin_104 : decode cX7_begin 104 = .ok (.aload_n 0, 1) := by decide +kernel
theorem dX7_begin_105 : decode cX7_begin 105 = .ok (.getfield 38, 3) := by decide +kernel
theorem dX7_begin_108 : decode cX7_begin 108 = .ok (.iload_n 1, 1) := by decide +kernel
theorem dX7_begin_109 : decode cX7_begin 109 = .ok (.iconst 0, 1) := by decide +kernel
theorem dX7_begin_110 : decode cX7_begin 110 = .ok (.iastore, 1) := by decide +kernel
theorem dX7_begin_111 : decode cX7_begin 111 = .ok (.aload_n 0, 1) := by decide +kernel
theorem dX7_begin_112 : decode cX7_begin 112 = .ok (.getfield 47, 3) := by decide +kernel
theorem dX7_begin_115 : decode cX7_begin 115 = .ok (.iload_n 1, 1) := by decide +kernel
theorem dX7_begin_116 : decode cX7_begin 116 = .ok (.iconst 0, 1) := by decide +kernel
theorem dX7_begin_117 : decode cX7_begin 117 = .ok (.iastore, 1) := by decide +kernel
theorem dX7_begin_118 : decode cX7_begin 118 = .ok (.aload_n 0, 1) := by decide +kernel
theorem dX7_begin_119 : decode cX7_begin 119 = .ok (.getfield 50, 3) := by decide +kernel
theorem dX7_begin_122 : decode cX7_begin 122 = .ok (.iload_n 1, 1) := by decide +kernel
theorem dX7_begin_123 : decode cX7_begin 123 = .ok (.iconst 0, 1) := by decide +kernel
theorem dX7_begin_124 : decode cX7_begin 124 = .ok (.iastore, 1) := by decide +kernel
theorem dX7_begin_125 : decode cX7_begin 125 = .ok (.aload_n 0, 1) := by decide +kernel
theorem dX7_begin_126 : decode cX7_begin 126 = .ok (.getfield 53, 3) := by decide +kernel
theorem dX7_begin_129 : decode cX7_begin 129 = .ok (.iload_n 1, 1) := by decide +kernel
theorem dX7_begin_130 : decode cX7_begin 130 = .ok (.iconst 0, 1) := by decide +kernel
theorem dX7_begin_131 : decode cX7_begin 131 = .ok (.iastore, 1) := by decide +kernel
theorem dX7_begin_132 : decode cX7_begin 132 = .ok (.aload_n 0, 1) := by decide +kernel
theorem dX7_begin_133 : decode cX7_begin 133 = .ok (.getfield 56, 3) := by decide +kernel
theorem dX7_begin_136 : decode cX7_begin 136 = .ok (.iload_n 1, 1) := by decide +kernel
theorem dX7_begin_137 : decode cX7_begin 137 = .ok (.bipush (-4), 2) := by decide +kernel
theorem dX7_begin_139 : decode cX7_begin 139 = .ok (.iastore, 1) := by decide +kernel
theorem dX7_begin_140 : decode cX7_begin 140 = .ok (.aload_n 0, 1) := by decide +kernel
theorem dX7_begin_141 : decode cX7_begin 141 = .ok (.getfield 59, 3) := by decide +kernel
theorem dX7_begin_144 : decode cX7_begin 144 = .ok (.iload_n 1, 1) := by decide +kernel
theorem dX7_begin_145 : decode cX7_begin 145 = .ok (.aload_n 0, 1) := by decide +kernel
theorem dX7_begin_146 : decode cX7_begin 146 = .ok (.getfield 7, 3) := by decide +kernel
theorem dX7_begin_149 : decode cX7_begin 149 = .ok (.bipush 7, 2) := by decide +kernel
theorem dX7_begin_151 : decode cX7_begin 151 = .ok (.iload_n 1, 1) := by decide +kernel
theorem dX7_begin_152 : decode cX7_begin 152 = .ok (.imul, 1) := by decide +kernel
theorem dX7_begin_153 : decode cX7_begin 153 = .ok (.bipush 6, 2) := by decide +kernel
theorem dX7_begin_155 : decode cX7_begin 155 = .ok (.iadd, 1) := by decide +kernel
theorem dX7_begin_156 : decode cX7_begin 156 = .ok (.iaload, 1) := by decide +kernel
theorem dX7_begin_157 : decode cX7_begin 157 = .ok (.iastore, 1) := by decide +kernel
theorem dX7_begin_158 : decode cX7_begin 158 = .ok (.iinc 1 1, 3) := by decide +kernel
theorem dX7_begin_161 : decode cX7_begin 161 = .ok (.goto (-103), 3) := by decide +kernel
theorem dX7_begin_164 : decode cX7_begin 164 = .ok (.return_, 1) := by decide +kernel
theorem dX7_comeOver_0 : decode cX7_comeOver 0 = .ok (.aload_n 0, 1) := by decide +kernel
theorem dX7_comeOver_1 : decode cX7_comeOver 1 = .ok (.getfield 38, 3) := by decide +kernel
theorem dX7_comeOver_4 : decode cX7_comeOver 4 = .ok (.iload_n 1, 1) := by decide +kernel
theorem dX7_comeOver_5 : decode cX7_comeOver 5 = .ok (.dup2, 1) := by decide +kernel
theorem dX7_comeOver_6 : decode cX7_comeOver 6 = .ok (.iaload, 1) := by decide +kernel
theorem dX7_comeOver_7 : decode cX7_comeOver 7 = .ok (.iconst 1, 1) := by decide +kernel
theorem dX7_comeOver_8 : decode cX7_comeOver 8 = .ok (.iadd, 1) := by decide +kernel
theorem dX7_comeOver_9 : decode cX7_comeOver 9 = .ok (.iastore, 1) := by decide +kernel
theorem dX7_comeOver_10 : decode cX7_comeOver 10 = .ok (.aload_n 0, 1) := by decide +kernel
theorem dX7_comeOver_11 : decode cX7_comeOver 11 = .ok (.getfield 29, 3) := by decide +kernel
theorem dX7_comeOver_14 : decode cX7_comeOver 14 = .ok (.iload_n 1, 1) := by decide +kernel
theorem dX7_comeOver_15 : decode cX7_comeOver 15 = .ok (.iconst 1, 1) := by decide +kernel
theorem dX7_comeOver_16 : decode cX7_comeOver 16 = .ok (.aload_n 0, 1) := by decide +kernel
theorem dX7_comeOver_17 : decode cX7_comeOver 17 = .ok (.getfield 29, 3) := by decide +kernel
theorem dX7_comeOver_20 : decode cX7_comeOver 20 = .ok (.iload_n 1, 1) := by decide +kernel
theorem dX7_comeOver_21 : decode cX7_comeOver 21 = .ok (.iaload, 1) := by decide +kernel
theorem dX7_comeOver_22 : decode cX7_comeOver 22 = .ok (.isub, 1) := by decide +kernel
theorem dX7_comeOver_23 : decode cX7_comeOver 23 = .ok (.iastore, 1) := by decide +kernel
theorem dX7_comeOver_24 : decode cX7_comeOver 24 = .ok (.aload_n 0, 1) := by decide +kernel
theorem dX7_comeOver_25 : decode cX7_comeOver 25 = .ok (.getfield 41, 3) := by decide +kernel
theorem dX7_comeOver_28 : decode cX7_comeOver 28 = .ok (.iload_n 1, 1) := by decide +kernel
theorem dX7_comeOver_29 : decode cX7_comeOver 29 = .ok (.iload_n 2, 1) := by decide +kernel
theorem dX7_comeOver_30 : decode cX7_comeOver 30 = .ok (.iastore, 1) := by decide +kernel
theorem dX7_comeOver_31 : decode cX7_comeOver 31 = .ok (.aload_n 0, 1) := by decide +kernel
theorem dX7_comeOver_32 : decode cX7_comeOver 32 = .ok (.getfield 26, 3) := by decide +kernel
theorem dX7_comeOver_35 : decode cX7_comeOver 35 = .ok (.iload_n 1, 1) := by decide +kernel
theorem dX7_comeOver_36 : decode cX7_comeOver 36 = .ok (.aload_n 0, 1) := by decide +kernel
theorem dX7_comeOver_37 : decode cX7_comeOver 37 = .ok (.getfield 38, 3) := by decide +kernel
theorem dX7_comeOver_40 : decode cX7_comeOver 40 = .ok (.iload_n 1, 1) := by decide +kernel
theorem dX7_comeOver_41 : decode cX7_comeOver 41 = .ok (.iaload, 1) := by decide +kernel
theorem dX7_comeOver_42 : decode cX7_comeOver 42 = .ok (.aload_n 0, 1) := by decide +kernel
theorem dX7_comeOver_43 : decode cX7_comeOver 43 = .ok (.getfield 7, 3) := by decide +kernel
theorem dX7_comeOver_46 : decode cX7_comeOver 46 = .ok (.bipush 7, 2) := by decide +kernel
theorem dX7_comeOver_48 : decode cX7_comeOver 48 = .ok (.iload_n 1, 1) := by decide +kernel
theorem dX7_comeOver_49 : decode cX7_comeOver 49 = .ok (.imul, 1) := by decide +kernel
theorem dX7_comeOver_50 : decode cX7_comeOver 50 = .ok (.iconst 4, 1) := by decide +kernel
theorem dX7_comeOver_51 : decode cX7_comeOver 51 = .ok (.iadd, 1) := by decide +kernel
theorem dX7_comeOver_52 : decode cX7_comeOver 52 = .ok (.iaload, 1) := by decide +kernel
theorem dX7_comeOver_53 : decode cX7_comeOver 53 = .ok (.if_icmp .ne 7, 3) := by decide +kernel
theorem dX7_comeOver_56 : decode cX7_comeOver 56 = .ok (.iconst 4, 1) := by decide +kernel
theorem dX7_comeOver_57 : decode cX7_comeOver 57 = .ok (.goto 4, 3) := by decide +kernel
theorem dX7_comeOver_60 : decode cX7_comeOver 60 = .ok (.iconst 1, 1) := by decide +kernel
theorem dX7_comeOver_61 : decode cX7_comeOver 61 = .ok (.iastore, 1) := by decide +kernel
theorem dX7_comeOver_62 : decode cX7_comeOver 62 = .ok (.aload_n 0, 1) := by decide +kernel
theorem dX7_comeOver_63 : decode cX7_comeOver 63 = .ok (.getfield 56, 3) := by decide +kernel
theorem dX7_comeOver_66 : decode cX7_comeOver 66 = .ok (.iload_n 1, 1) := by decide +kernel
theorem dX7_comeOver_67 : decode cX7_comeOver 67 = .ok (.aload_n 0, 1) := by decide +kernel
theorem dX7_comeOver_68 : decode cX7_comeOver 68 = .ok (.getfield 26, 3) := by decide +kernel
theorem dX7_comeOver_71 : decode cX7_comeOver 71 = .ok (.iload_n 1, 1) := by decide +kernel
theorem dX7_comeOver_72 : decode cX7_comeOver 72 = .ok (.iaload, 1) := by decide +kernel
theorem dX7_comeOver_73 : decode cX7_comeOver 73 = .ok (.iconst 4, 1) := by decide +kernel
theorem dX7_comeOver_74 : decode cX7_comeOver 74 = .ok (.if_icmp .ne 7, 3) := by decide +kernel
theorem dX7_comeOver_77 : decode cX7_comeOver 77 = .ok (.iload_n 2, 1) := by decide +kernel
theorem dX7_comeOver_78 : decode cX7_comeOver 78 = .ok (.goto 5, 3) := by decide +kernel
theorem dX7_comeOver_81 : decode cX7_comeOver 81 = .ok (.bipush (-4), 2) := by decide +kernel
theorem dX7_comeOver_83 : decode cX7_comeOver 83 = .ok (.iastore, 1) := by decide +kernel
theorem dX7_comeOver_84 : decode cX7_comeOver 84 = .ok (.return_, 1) := by decide +kernel
theorem dX7_goOn_0 : decode cX7_goOn 0 = .ok (.iconst 0, 1) := by decide +kernel
theorem dX7_goOn_1 : decode cX7_goOn 1 = .ok (.istore_n 1, 1) := by decide +kernel
theorem dX7_goOn_2 : decode cX7_goOn 2 = .ok (.iload_n 1, 1) := by decide +kernel
theorem dX7_goOn_3 : decode cX7_goOn 3 = .ok (.aload_n 0, 1) := by decide +kernel
theorem dX7_goOn_4 : decode cX7_goOn 4 = .ok (.getfield 98, 3) := by decide +kernel
theorem dX7_goOn_7 : decode cX7_goOn 7 = .ok (.if_icmp .ge 67, 3) := by decide +kernel
theorem dX7_goOn_10 : decode cX7_goOn 10 = .ok (.aload_n 0, 1) := by decide +kernel
theorem dX7_goOn_11 : decode cX7_goOn 11 = .ok (.getfield 26, 3) := by decide +kernel
theorem dX7_goOn_14 : decode cX7_goOn 14 = .ok (.iload_n 1, 1) := by decide +kernel
theorem dX7_goOn_15 : decode cX7_goOn 15 = .ok (.iaload, 1) := by decide +kernel
theorem dX7_goOn_16 : decode cX7_goOn 16 = .ok (.iconst 2, 1) := by decide +kernel
theorem dX7_goOn_17 : decode cX7_goOn 17 = .ok (.if_icmp .ne 51, 3) := by decide +kernel
theorem dX7_goOn_20 : decode cX7_goOn 20 = .ok (.aload_n 0, 1) := by decide +kernel
theorem dX7_goOn_21 : decode cX7_goOn 21 = .ok (.getfield 35, 3) := by decide +kernel
theorem dX7_goOn_24 : decode cX7_goOn 24 = .ok (.iload_n 1, 1) := by decide +kernel
theorem dX7_goOn_25 : decode cX7_goOn 25 = .ok (.iaload, 1) := by decide +kernel
theorem dX7_goOn_26 : decode cX7_goOn 26 = .ok (.ifCond .ne 42, 3) := by decide +kernel
theorem dX7_goOn_29 : decode cX7_goOn 29 = .ok (.aload_n 0, 1) := by decide +kernel
theorem dX7_goOn_30 : decode cX7_goOn 30 = .ok (.getfield 32, 3) := by decide +kernel
theorem dX7_goOn_33 : decode cX7_goOn 33 = .ok (.iload_n 1, 1) := by decide +kernel
theorem dX7_goOn_34 : decode cX7_goOn 34 = .ok (.dup2, 1) := by decide +kernel
theorem dX7_goOn_35 : decode cX7_goOn 35 = .ok (.iaload, 1) := by decide +kernel
theorem dX7_goOn_36 : decode cX7_goOn 36 = .ok (.aload_n 0, 1) := by decide +kernel
theorem dX7_goOn_37 : decode cX7_goOn 37 = .ok (.getfield 44, 3) := by decide +kernel
theorem dX7_goOn_40 : decode cX7_goOn 40 = .ok (.iload_n 1, 1) := by decide +kernel
theorem dX7_goOn_41 : decode cX7_goOn 41 = .ok (.iaload, 1) := by decide +kernel
theorem dX7_goOn_42 : decode cX7_goOn 42 = .ok (.iadd, 1) := by decide +kernel
theorem dX7_goOn_43 : decode cX7_goOn 43 = .ok (.iastore, 1) := by decide +kernel
theorem dX7_goOn_44 : decode cX7_goOn 44 = .ok (.aload_n 0, 1) := by decide +kernel
theorem dX7_goOn_45 : decode cX7_goOn 45 = .ok (.getfield 35, 3) := by decide +kernel
theorem dX7_goOn_48 : decode cX7_goOn 48 = .ok (.iload_n 1, 1) := by decide +kernel
theorem dX7_goOn_49 : decode cX7_goOn 49 = .ok (.aload_n 0, 1) := by decide +kernel
theorem dX7_goOn_50 : decode cX7_goOn 50 = .ok (.getfield 32, 3) := by decide +kernel
theorem dX7_goOn_53 : decode cX7_goOn 53 = .ok (.iload_n 1, 1) := by decide +kernel
theorem dX7_goOn_54 : decode cX7_goOn 54 = .ok (.iaload, 1) := by decide +kernel
theorem dX7_goOn_55 : decode cX7_goOn 55 = .ok (.aload_n 0, 1) := by decide +kernel
theorem dX7_goOn_56 : decode cX7_goOn 56 = .ok (.getfield 191, 3) := by decide +kernel
theorem dX7_goOn_59 : decode cX7_goOn 59 = .ok (.if_icmp .lt 7, 3) := by decide +kernel
theorem dX7_goOn_62 : decode cX7_goOn 62 = .ok (.iconst 1, 1) := by decide +kernel
theorem dX7_goOn_63 : decode cX7_goOn 63 = .ok (.goto 4, 3) := by decide +kernel
theorem dX7_goOn_66 : decode cX7_goOn 66 = .ok (.iconst 0, 1) := by decide +kernel
theorem dX7_goOn_67 : decode cX7_goOn 67 = .ok (.iastore, 1) := by decide +kernel
theorem dX7_goOn_68 : decode cX7_goOn 68 = .ok (.iinc 1 1, 3) := by decide +kernel
theorem dX7_goOn_71 : decode cX7_goOn 71 = .ok (.goto (-69), 3) := by decide +kernel
theorem dX7_goOn_74 : decode cX7_goOn 74 = .ok (.return_, 1) := by decide +kernel
theorem dX7_mustWait_0 : decode cX7_mustWait 0 = .ok (.aload_n 0, 1) := by decide +kernel
theorem dX7_mustWait_1 : decode cX7_mustWait 1 = .ok (.getfield 59, 3) := by decide +kernel
theorem dX7_mustWait_4 : decode cX7_mustWait 4 = .ok (.iload_n 1, 1) := by decide +kernel
theorem dX7_mustWait_5 : decode cX7_mustWait 5 = .ok (.iaload, 1) := by decide +kernel
theorem dX7_mustWait_6 : decode cX7_mustWait 6 = .ok (.istore_n 2, 1) := by decide +kernel
theorem dX7_mustWait_7 : decode cX7_mustWait 7 = .ok (.iload_n 2, 1) := by decide +kernel
theorem dX7_mustWait_8 : decode cX7_mustWait 8 = .ok (.ifCond .lt 41, 3) := by decide +kernel
theorem dX7_mustWait_11 : decode cX7_mustWait 11 = .ok (.aload_n 0, 1) := by decide +kernel
theorem dX7_mustWait_12 : decode cX7_mustWait 12 = .ok (.getfield 26, 3) := by decide +kernel
theorem dX7_mustWait_15 : decode cX7_mustWait 15 = .ok (.iload_n 2, 1) := by decide +kernel
theorem dX7_mustWait_16 : decode cX7_mustWait 16 = .ok (.iaload, 1) := by decide +kernel
theorem dX7_mustWait_17 : decode cX7_mustWait 17 = .ok (.iconst 2, 1) := by decide +kernel
theorem dX7_mustWait_18 : decode cX7_mustWait 18 = .ok (.if_icmp .ne 31, 3) := by decide +kernel
theorem dX7_mustWait_21 : decode cX7_mustWait 21 = .ok (.aload_n 0, 1) := by decide +kernel
theorem dX7_mustWait_22 : decode cX7_mustWait 22 = .ok (.getfield 29, 3) := by decide +kernel
theorem dX7_mustWait_25 : decode cX7_mustWait 25 = .ok (.iload_n 2, 1) := by decide +kernel
theorem dX7_mustWait_26 : decode cX7_mustWait 26 = .ok (.iaload, 1) := by decide +kernel
theorem dX7_mustWait_27 : decode cX7_mustWait 27 = .ok (.aload_n 0, 1) := by decide +kernel
theorem dX7_mustWait_28 : decode cX7_mustWait 28 = .ok (.getfield 29, 3) := by decide +kernel
theorem dX7_mustWait_31 : decode cX7_mustWait 31 = .ok (.iload_n 1, 1) := by decide +kernel
theorem dX7_mustWait_32 : decode cX7_mustWait 32 = .ok (.iaload, 1) := by decide +kernel
theorem dX7_mustWait_33 : decode cX7_mustWait 33 = .ok (.if_icmp .ne 16, 3) := by decide +kernel
theorem dX7_mustWait_36 : decode cX7_mustWait 36 = .ok (.aload_n 0, 1) := by decide +kernel
theorem dX7_mustWait_37 : decode cX7_mustWait 37 = .ok (.getfield 35, 3) := by decide +kernel
theorem dX7_mustWait_40 : decode cX7_mustWait 40 = .ok (.iload_n 2, 1) := by decide +kernel
theorem dX7_mustWait_41 : decode cX7_mustWait 41 = .ok (.iaload, 1) := by decide +kernel
theorem dX7_mustWait_42 : decode cX7_mustWait 42 = .ok (.ifCond .ne 7, 3) := by decide +kernel
theorem dX7_mustWait_45 : decode cX7_mustWait 45 = .ok (.iconst 1, 1) := by decide +kernel
theorem dX7_mustWait_46 : decode cX7_mustWait 46 = .ok (.goto 4, 3) := by decide +kernel
theorem dX7_mustWait_49 : decode cX7_mustWait 49 = .ok (.iconst 0, 1) := by decide +kernel
theorem dX7_mustWait_50 : decode cX7_mustWait 50 = .ok (.ireturn, 1) := by decide +kernel
theorem dX7_countsAt_0 : decode cX7_countsAt 0 = .ok (.iload_n 3, 1) := by decide +kernel
theorem dX7_countsAt_1 : decode cX7_countsAt 1 = .ok (.ifCond .ne 7, 3) := by decide +kernel
theorem dX7_countsAt_4 : decode cX7_countsAt 4 = .ok (.iconst 0, 1) := by decide +kernel
theorem dX7_countsAt_5 : decode cX7_countsAt 5 = .ok (.goto 16, 3) := by decide +kernel
theorem dX7_countsAt_8 : decode cX7_countsAt 8 = .ok (.aload_n 0, 1) := by decide +kernel
theorem dX7_countsAt_9 : decode cX7_countsAt 9 = .ok (.getfield 200, 3) := by decide +kernel
theorem dX7_countsAt_12 : decode cX7_countsAt 12 = .ok (.iconst 1, 1) := by decide +kernel
theorem dX7_countsAt_13 : decode cX7_countsAt 13 = .ok (.if_icmp .ne 7, 3) := by decide +kernel
theorem dX7_countsAt_16 : decode cX7_countsAt 16 = .ok (.iload_n 3, 1) := by decide +kernel
theorem dX7_countsAt_17 : decode cX7_countsAt 17 = .ok (.goto 4, 3) := by decide +kernel
theorem dX7_countsAt_20 : decode cX7_countsAt 20 = .ok (.iconst 1, 1) := by decide +kernel
theorem dX7_countsAt_21 : decode cX7_countsAt 21 = .ok (.istore 5, 2) := by decide +kernel
theorem dX7_countsAt_23 : decode cX7_countsAt 23 = .ok (.aload_n 0, 1) := by decide +kernel
theorem dX7_countsAt_24 : decode cX7_countsAt 24 = .ok (.getfield 200, 3) := by decide +kernel
theorem dX7_countsAt_27 : decode cX7_countsAt 27 = .ok (.iconst 2, 1) := by decide +kernel
theorem dX7_countsAt_28 : decode cX7_countsAt 28 = .ok (.if_icmp .ne 53, 3) := by decide +kernel
theorem dX7_countsAt_31 : decode cX7_countsAt 31 = .ok (.iload_n 3, 1) := by decide +kernel
theorem dX7_countsAt_32 : decode cX7_countsAt 32 = .ok (.ifCond .le 49, 3) := by decide +kernel
theorem dX7_countsAt_35 : decode cX7_countsAt 35 = .ok (.iload_n 2, 1) := by decide +kernel
theorem dX7_countsAt_36 : decode cX7_countsAt 36 = .ok (.aload_n 0, 1) := by decide +kernel
theorem dX7_countsAt_37 : decode cX7_countsAt 37 = .ok (.getfield 65, 3) := by decide +kernel
theorem dX7_countsAt_40 : decode cX7_countsAt 40 = .ok (.iload_n 1, 1) := by decide +kernel
theorem dX7_countsAt_41 : decode cX7_countsAt 41 = .ok (.iaload, 1) := by decide +kernel
theorem dX7_countsAt_42 : decode cX7_countsAt 42 = .ok (.isub, 1) := by decide +kernel
theorem dX7_countsAt_43 : decode cX7_countsAt 43 = .ok (.aload_n 0, 1) := by decide +kernel
theorem dX7_countsAt_44 : decode cX7_countsAt 44 = .ok (.getfield 13, 3) := by decide +kernel
theorem dX7_countsAt_47 : decode cX7_countsAt 47 = .ok (.iconst 2, 1) := by decide +kernel
theorem dX7_countsAt_48 : decode cX7_countsAt 48 = .ok (.iaload, 1) := by decide +kernel
theorem dX7_countsAt_49 : decode cX7_countsAt 49 = .ok (.if_icmp .le 7, 3) := by decide +kernel
theorem dX7_countsAt_52 : decode cX7_countsAt 52 = .ok (.iconst 1, 1) := by decide +kernel
theorem dX7_countsAt_53 : decode cX7_countsAt 53 = .ok (.goto 4, 3) := by decide +kernel
theorem dX7_countsAt_56 : decode cX7_countsAt 56 = .ok (.iconst 0, 1) := by decide +kernel
theorem dX7_countsAt_57 : decode cX7_countsAt 57 = .ok (.istore 5, 2) := by decide +kernel
theorem dX7_countsAt_59 : decode cX7_countsAt 59 = .ok (.aload_n 0, 1) := by decide +kernel
theorem dX7_countsAt_60 : decode cX7_countsAt 60 = .ok (.getfield 65, 3) := by decide +kernel
theorem dX7_countsAt_63 : decode cX7_countsAt 63 = .ok (.iload_n 1, 1) := by decide +kernel
theorem dX7_countsAt_64 : decode cX7_countsAt 64 = .ok (.iload 5, 2) := by decide +kernel
theorem dX7_countsAt_66 : decode cX7_countsAt 66 = .ok (.iconst 1, 1) := by decide +kernel
theorem dX7_countsAt_67 : decode cX7_countsAt 67 = .ok (.if_icmp .ne 7, 3) := by decide +kernel
theorem dX7_countsAt_70 : decode cX7_countsAt 70 = .ok (.iload_n 2, 1) := by decide +kernel
theorem dX7_countsAt_71 : decode cX7_countsAt 71 = .ok (.goto 9, 3) := by decide +kernel
theorem dX7_countsAt_74 : decode cX7_countsAt 74 = .ok (.aload_n 0, 1) := by decide +kernel
theorem dX7_countsAt_75 : decode cX7_countsAt 75 = .ok (.getfield 65, 3) := by decide +kernel
theorem dX7_countsAt_78 : decode cX7_countsAt 78 = .ok (.iload_n 1, 1) := by decide +kernel
theorem dX7_countsAt_79 : decode cX7_countsAt 79 = .ok (.iaload, 1) := by decide +kernel
theorem dX7_countsAt_80 : decode cX7_countsAt 80 = .ok (.iastore, 1) := by decide +kernel
theorem dX7_countsAt_81 : decode cX7_countsAt 81 = .ok (.iload 5, 2) := by decide +kernel
theorem dX7_countsAt_83 : decode cX7_countsAt 83 = .ok (.iload 4, 2) := by decide +kernel
theorem dX7_countsAt_85 : decode cX7_countsAt 85 = .ok (.iadd, 1) := by decide +kernel
theorem dX7_countsAt_86 : decode cX7_countsAt 86 = .ok (.ireturn, 1) := by decide +kernel
theorem dX7_grow_0 : decode cX7_grow 0 = .ok (.aload_n 0, 1) := by decide +kernel
theorem dX7_grow_1 : decode cX7_grow 1 = .ok (.dup, 1) := by decide +kernel
theorem dX7_grow_2 : decode cX7_grow 2 = .ok (.getfield 197, 3) := by decide +kernel
theorem dX7_grow_5 : decode cX7_grow 5 = .ok (.iload_n 1, 1) := by decide +kernel
theorem dX7_grow_6 : decode cX7_grow 6 = .ok (.iadd, 1) := by decide +kernel
theorem dX7_grow_7 : decode cX7_grow 7 = .ok (.putfield 197, 3) := by decide +kernel
theorem dX7_grow_10 : decode cX7_grow 10 = .ok (.aload_n 0, 1) := by decide +kernel
theorem dX7_grow_11 : decode cX7_grow 11 = .ok (.sipush 400, 3) := by decide +kernel
theorem dX7_grow_14 : decode cX7_grow 14 = .ok (.aload_n 0, 1) := by decide +kernel
theorem dX7_grow_15 : decode cX7_grow 15 = .ok (.getfield 191, 3) := by decide +kernel
theorem dX7_grow_18 : decode cX7_grow 18 = .ok (.aload_n 0, 1) := by decide +kernel
theorem dX7_grow_19 : decode cX7_grow 19 = .ok (.getfield 13, 3) := by decide +kernel
theorem dX7_grow_22 : decode cX7_grow 22 = .ok (.iconst 0, 1) := by decide +kernel
theorem dX7_grow_23 : decode cX7_grow 23 = .ok (.iaload, 1) := by decide +kernel
theorem dX7_grow_24 : decode cX7_grow 24 = .ok (.iload_n 1, 1) := by decide +kernel
theorem dX7_grow_25 : decode cX7_grow 25 = .ok (.imul, 1) := by decide +kernel
theorem dX7_grow_26 : decode cX7_grow 26 = .ok (.iadd, 1) := by decide +kernel
theorem dX7_grow_27 : decode cX7_grow 27 = .ok (.invokestatic 203, 3) := by decide +kernel
theorem dX7_grow_30 : decode cX7_grow 30 = .ok (.putfield 191, 3) := by decide +kernel
theorem dX7_grow_33 : decode cX7_grow 33 = .ok (.return_, 1) := by decide +kernel
theorem dX7_stepOff_0 : decode cX7_stepOff 0 = .ok (.iconst 0, 1) := by decide +kernel
theorem dX7_stepOff_1 : decode cX7_stepOff 1 = .ok (.istore_n 2, 1) := by decide +kernel
theorem dX7_stepOff_2 : decode cX7_stepOff 2 = .ok (.iload_n 2, 1) := by decide +kernel
theorem dX7_stepOff_3 : decode cX7_stepOff 3 = .ok (.aload_n 0, 1) := by decide +kernel
theorem dX7_stepOff_4 : decode cX7_stepOff 4 = .ok (.getfield 98, 3) := by decide +kernel
theorem dX7_stepOff_7 : decode cX7_stepOff 7 = .ok (.if_icmp .ge 85, 3) := by decide +kernel
theorem dX7_stepOff_10 : decode cX7_stepOff 10 = .ok (.aload_n 0, 1) := by decide +kernel
theorem dX7_stepOff_11 : decode cX7_stepOff 11 = .ok (.getfield 26, 3) := by decide +kernel
theorem dX7_stepOff_14 : decode cX7_stepOff 14 = .ok (.iload_n 2, 1) := by decide +kernel
theorem dX7_stepOff_15 : decode cX7_stepOff 15 = .ok (.iaload, 1) := by decide +kernel
theorem dX7_stepOff_16 : decode cX7_stepOff 16 = .ok (.iconst 2, 1) := by decide +kernel
theorem dX7_stepOff_17 : decode cX7_stepOff 17 = .ok (.if_icmp .ne 17, 3) := by decide +kernel
theorem dX7_stepOff_20 : decode cX7_stepOff 20 = .ok (.aload_n 0, 1) := by decide +kernel
theorem dX7_stepOff_21 : decode cX7_stepOff 21 = .ok (.getfield 35, 3) := by decide +kernel
theorem dX7_stepOff_24 : decode cX7_stepOff 24 = .ok (.iload_n 2, 1) := by decide +kernel
theorem dX7_stepOff_25 : decode cX7_stepOff 25 = .ok (.iaload, 1) := by decide +kernel
theorem dX7_stepOff_26 : decode cX7_stepOff 26 = .ok (.iconst 1, 1) := by decide +kernel
theorem dX7_stepOff_27 : decode cX7_stepOff 27 = .ok (.if_icmp .ne 7, 3) := by decide +kernel
theorem dX7_stepOff_30 : decode cX7_stepOff 30 = .ok (.iconst 1, 1) := by decide +kernel
theorem dX7_stepOff_31 : decode cX7_stepOff 31 = .ok (.goto 4, 3) := by decide +kernel
theorem dX7_stepOff_34 : decode cX7_stepOff 34 = .ok (.iconst 0, 1) := by decide +kernel
theorem dX7_stepOff_35 : decode cX7_stepOff 35 = .ok (.istore_n 3, 1) := by decide +kernel
theorem dX7_stepOff_36 : decode cX7_stepOff 36 = .ok (.aload_n 0, 1) := by decide +kernel
theorem dX7_stepOff_37 : decode cX7_stepOff 37 = .ok (.getfield 62, 3) := by decide +kernel
theorem dX7_stepOff_40 : decode cX7_stepOff 40 = .ok (.iload_n 2, 1) := by decide +kernel
theorem dX7_stepOff_41 : decode cX7_stepOff 41 = .ok (.iload_n 3, 1) := by decide +kernel
theorem dX7_stepOff_42 : decode cX7_stepOff 42 = .ok (.ifCond .eq 15, 3) := by decide +kernel
theorem dX7_stepOff_45 : decode cX7_stepOff 45 = .ok (.aload_n 0, 1) := by decide +kernel
theorem dX7_stepOff_46 : decode cX7_stepOff 46 = .ok (.iload_n 2, 1) := by decide +kernel
theorem dX7_stepOff_47 : decode cX7_stepOff 47 = .ok (.invokevirtual 206, 3) := by decide +kernel
theorem dX7_stepOff_50 : decode cX7_stepOff 50 = .ok (.ifCond .ne 7, 3) := by decide +kernel
theorem dX7_stepOff_53 : decode cX7_stepOff 53 = .ok (.iconst 1, 1) := by decide +kernel
theorem dX7_stepOff_54 : decode cX7_stepOff 54 = .ok (.goto 4, 3) := by decide +kernel
theorem dX7_stepOff_57 : decode cX7_stepOff 57 = .ok (.iconst 0, 1) := by decide +kernel
theorem dX7_stepOff_58 : decode cX7_stepOff 58 = .ok (.iastore, 1) := by decide +kernel
theorem dX7_stepOff_59 : decode cX7_stepOff 59 = .ok (.aload_n 0, 1) := by decide +kernel
theorem dX7_stepOff_60 : decode cX7_stepOff 60 = .ok (.getfield 50, 3) := by decide +kernel
theorem dX7_stepOff_63 : decode cX7_stepOff 63 = .ok (.iload_n 2, 1) := by decide +kernel
theorem dX7_stepOff_64 : decode cX7_stepOff 64 = .ok (.dup2, 1) := by decide +kernel
theorem dX7_stepOff_65 : decode cX7_stepOff 65 = .ok (.iaload, 1) := by decide +kernel
theorem dX7_stepOff_66 : decode cX7_stepOff 66 = .ok (.iload_n 3, 1) := by decide +kernel
theorem dX7_stepOff_67 : decode cX7_stepOff 67 = .ok (.ifCond .eq 16, 3) := by decide +kernel
theorem dX7_stepOff_70 : decode cX7_stepOff 70 = .ok (.aload_n 0, 1) := by decide +kernel
theorem dX7_stepOff_71 : decode cX7_stepOff 71 = .ok (.getfield 62, 3) := by decide +kernel
theorem dX7_stepOff_74 : decode cX7_stepOff 74 = .ok (.iload_n 2, 1) := by decide +kernel
theorem dX7_stepOff_75 : decode cX7_stepOff 75 = .ok (.iaload, 1) := by decide +kernel
theorem dX7_stepOff_76 : decode cX7_stepOff 76 = .ok (.ifCond .ne 7, 3) := by decide +kernel
theorem dX7_stepOff_79 : decode cX7_stepOff 79 = .ok (.iconst 1, 1) := by decide +kernel
theorem dX7_stepOff_80 : decode cX7_stepOff 80 = .ok (.goto 4, 3) := by decide +kernel
theorem dX7_stepOff_83 : decode cX7_stepOff 83 = .ok (.iconst 0, 1) := by decide +kernel
theorem dX7_stepOff_84 : decode cX7_stepOff 84 = .ok (.iadd, 1) := by decide +kernel
theorem dX7_stepOff_85 : decode cX7_stepOff 85 = .ok (.iastore, 1) := by decide +kernel
theorem dX7_stepOff_86 : decode cX7_stepOff 86 = .ok (.iinc 2 1, 3) := by decide +kernel
theorem dX7_stepOff_89 : decode cX7_stepOff 89 = .ok (.goto (-87), 3) := by decide +kernel
theorem dX7_stepOff_92 : decode cX7_stepOff 92 = .ok (.iconst 0, 1) := by decide +kernel
theorem dX7_stepOff_93 : decode cX7_stepOff 93 = .ok (.istore_n 2, 1) := by decide +kernel
theorem dX7_stepOff_94 : decode cX7_stepOff 94 = .ok (.iconst 0, 1) := by decide +kernel
theorem dX7_stepOff_95 : decode cX7_stepOff 95 = .ok (.istore_n 3, 1) := by decide +kernel
theorem dX7_stepOff_96 : decode cX7_stepOff 96 = .ok (.iload_n 3, 1) := by decide +kernel
theorem dX7_stepOff_97 : decode cX7_stepOff 97 = .ok (.iconst 2, 1) := by decide +kernel
theorem dX7_stepOff_98 : decode cX7_stepOff 98 = .ok (.if_icmp .ge 137, 3) := by decide +kernel
theorem dX7_stepOff_101 : decode cX7_stepOff 101 = .ok (.iconst 0, 1) := by decide +kernel
theorem dX7_stepOff_102 : decode cX7_stepOff 102 = .ok (.istore 4, 2) := by decide +kernel
theorem dX7_stepOff_104 : decode cX7_stepOff 104 = .ok (.iconst 0, 1) := by decide +kernel
theorem dX7_stepOff_105 : decode cX7_stepOff 105 = .ok (.istore 5, 2) := by decide +kernel
theorem dX7_stepOff_107 : decode cX7_stepOff 107 = .ok (.iconst 0, 1) := by decide +kernel
theorem dX7_stepOff_108 : decode cX7_stepOff 108 = .ok (.istore 6, 2) := by decide +kernel
theorem dX7_stepOff_110 : decode cX7_stepOff 110 = .ok (.iload 6, 2) := by decide +kernel
theorem dX7_stepOff_112 : decode cX7_stepOff 112 = .ok (.aload_n 0, 1) := by decide +kernel
theorem dX7_stepOff_113 : decode cX7_stepOff 113 = .ok (.getfield 98, 3) := by decide +kernel
theorem dX7_stepOff_116 : decode cX7_stepOff 116 = .ok (.if_icmp .ge 100, 3) := by decide +kernel
theorem dX7_stepOff_119 : decode cX7_stepOff 119 = .ok (.aload_n 0, 1) := by decide +kernel
theorem dX7_stepOff_120 : decode cX7_stepOff 120 = .ok (.getfield 62, 3) := by decide +kernel
theorem dX7_stepOff_123 : decode cX7_stepOff 123 = .ok (.iload 6, 2) := by decide +kernel
theorem dX7_stepOff_125 : decode cX7_stepOff 125 = .ok (.iaload, 1) := by decide +kernel
theorem dX7_stepOff_126 : decode cX7_stepOff 126 = .ok (.iconst 1, 1) := by decide +kernel
theorem dX7_stepOff_127 : decode cX7_stepOff 127 = .ok (.if_icmp .ne 18, 3) := by decide +kernel
theorem dX7_stepOff_130 : decode cX7_stepOff 130 = .ok (.aload_n 0, 1) := by decide +kernel
theorem dX7_stepOff_131 : decode cX7_stepOff 131 = .ok (.getfield 29, 3) := by decide +kernel
theorem dX7_stepOff_134 : decode cX7_stepOff 134 = .ok (.iload 6, 2) := by decide +kernel
theorem dX7_stepOff_136 : decode cX7_stepOff 136 = .ok (.iaload, 1) := by decide +kernel
theorem dX7_stepOff_137 : decode cX7_stepOff 137 = .ok (.iload_n 3, 1) := by decide +kernel
theorem dX7_stepOff_138 : decode cX7_stepOff 138 = .ok (.if_icmp .eq 7, 3) := by decide +kernel
theorem dX7_stepOff_141 : decode cX7_stepOff 141 = .ok (.iconst 1, 1) := by decide +kernel
theorem dX7_stepOff_142 : decode cX7_stepOff 142 = .ok (.goto 4, 3) := by decide +kernel
theorem dX7_stepOff_145 : decode cX7_stepOff 145 = .ok (.iconst 0, 1) := by decide +kernel
theorem dX7_stepOff_146 : decode cX7_stepOff 146 = .ok (.istore 7, 2) := by decide +kernel
theorem dX7_stepOff_148 : decode cX7_stepOff 148 = .ok (.iload 4, 2) := by decide +kernel
theorem dX7_stepOff_150 : decode cX7_stepOff 150 = .ok (.iload 7, 2) := by decide +kernel
theorem dX7_stepOff_152 : decode cX7_stepOff 152 = .ok (.ifCond .eq 23, 3) := by decide +kernel
theorem dX7_stepOff_155 : decode cX7_stepOff 155 = .ok (.aload_n 0, 1) := by decide +kernel
theorem dX7_stepOff_156 : decode cX7_stepOff 156 = .ok (.getfield 7, 3) := by decide +kernel
theorem dX7_stepOff_159 : decode cX7_stepOff 159 = .ok (.bipush 7, 2) := by decide +kernel
theorem dX7_stepOff_161 : decode cX7_stepOff 161 = .ok (.iload 6, 2) := by decide +kernel
theorem dX7_stepOff_163 : decode cX7_stepOff 163 = .ok (.imul, 1) := by decide +kernel
theorem dX7_stepOff_164 : decode cX7_stepOff 164 = .ok (.iconst 2, 1) := by decide +kernel
theorem dX7_stepOff_165 : decode cX7_stepOff 165 = .ok (.iadd, 1) := by decide +kernel
theorem dX7_stepOff_166 : decode cX7_stepOff 166 = .ok (.iaload, 1) := by decide +kernel
theorem dX7_stepOff_167 : decode cX7_stepOff 167 = .ok (.iconst 3, 1) := by decide +kernel
theorem dX7_stepOff_168 : decode cX7_stepOff 168 = .ok (.if_icmp .eq 7, 3) := by decide +kernel
theorem dX7_stepOff_171 : decode cX7_stepOff 171 = .ok (.iconst 1, 1) := by decide +kernel
theorem dX7_stepOff_172 : decode cX7_stepOff 172 = .ok (.goto 4, 3) := by decide +kernel
theorem dX7_stepOff_175 : decode cX7_stepOff 175 = .ok (.iconst 0, 1) := by decide +kernel
theorem dX7_stepOff_176 : decode cX7_stepOff 176 = .ok (.iadd, 1) := by decide +kernel
theorem dX7_stepOff_177 : decode cX7_stepOff 177 = .ok (.istore 4, 2) := by decide +kernel
theorem dX7_stepOff_179 : decode cX7_stepOff 179 = .ok (.iload 5, 2) := by decide +kernel
theorem dX7_stepOff_181 : decode cX7_stepOff 181 = .ok (.iload 7, 2) := by decide +kernel
theorem dX7_stepOff_183 : decode cX7_stepOff 183 = .ok (.ifCond .eq 23, 3) := by decide +kernel
theorem dX7_stepOff_186 : decode cX7_stepOff 186 = .ok (.aload_n 0, 1) := by decide +kernel
theorem dX7_stepOff_187 : decode cX7_stepOff 187 = .ok (.getfield 7, 3) := by decide +kernel
theorem dX7_stepOff_190 : decode cX7_stepOff 190 = .ok (.bipush 7, 2) := by decide +kernel
theorem dX7_stepOff_192 : decode cX7_stepOff 192 = .ok (.iload 6, 2) := by decide +kernel
theorem dX7_stepOff_194 : decode cX7_stepOff 194 = .ok (.imul, 1) := by decide +kernel
theorem dX7_stepOff_195 : decode cX7_stepOff 195 = .ok (.iconst 2, 1) := by decide +kernel
theorem dX7_stepOff_196 : decode cX7_stepOff 196 = .ok (.iadd, 1) := by decide +kernel
theorem dX7_stepOff_197 : decode cX7_stepOff 197 = .ok (.iaload, 1) := by decide +kernel
theorem dX7_stepOff_198 : decode cX7_stepOff 198 = .ok (.iconst 3, 1) := by decide +kernel
theorem dX7_stepOff_199 : decode cX7_stepOff 199 = .ok (.if_icmp .ne 7, 3) := by decide +kernel
theorem dX7_stepOff_202 : decode cX7_stepOff 202 = .ok (.iconst 1, 1) := by decide +kernel
theorem dX7_stepOff_203 : decode cX7_stepOff 203 = .ok (.goto 4, 3) := by decide +kernel
theorem dX7_stepOff_206 : decode cX7_stepOff 206 = .ok (.iconst 0, 1) := by decide +kernel
theorem dX7_stepOff_207 : decode cX7_stepOff 207 = .ok (.iadd, 1) := by decide +kernel
theorem dX7_stepOff_208 : decode cX7_stepOff 208 = .ok (.istore 5, 2) := by decide +kernel
theorem dX7_stepOff_210 : decode cX7_stepOff 210 = .ok (.iinc 6 1, 3) := by decide +kernel
theorem dX7_stepOff_213 : decode cX7_stepOff 213 = .ok (.goto (-103), 3) := by decide +kernel
theorem dX7_stepOff_216 : decode cX7_stepOff 216 = .ok (.iload_n 2, 1) := by decide +kernel
theorem dX7_stepOff_217 : decode cX7_stepOff 217 = .ok (.aload_n 0, 1) := by decide +kernel
theorem dX7_stepOff_218 : decode cX7_stepOff 218 = .ok (.iload_n 3, 1) := by decide +kernel
theorem dX7_stepOff_219 : decode cX7_stepOff 219 = .ok (.iload_n 1, 1) := by decide +kernel
theorem dX7_stepOff_220 : decode cX7_stepOff 220 = .ok (.iload 4, 2) := by decide +kernel
theorem dX7_stepOff_222 : decode cX7_stepOff 222 = .ok (.iload 5, 2) := by decide +kernel
theorem dX7_stepOff_224 : decode cX7_stepOff 224 = .ok (.invokevirtual 209, 3) := by decide +kernel
theorem dX7_stepOff_227 : decode cX7_stepOff 227 = .ok (.iadd, 1) := by decide +kernel
theorem dX7_stepOff_228 : decode cX7_stepOff 228 = .ok (.istore_n 2, 1) := by decide +kernel
theorem dX7_stepOff_229 : decode cX7_stepOff 229 = .ok (.iinc 3 1, 3) := by decide +kernel
theorem dX7_stepOff_232 : decode cX7_stepOff 232 = .ok (.goto (-136), 3) := by decide +kernel
theorem dX7_stepOff_235 : decode cX7_stepOff 235 = .ok (.iconst 0, 1) := by decide +kernel
theorem dX7_stepOff_236 : decode cX7_stepOff 236 = .ok (.istore_n 3, 1) := by decide +kernel
theorem dX7_stepOff_237 : decode cX7_stepOff 237 = .ok (.iload_n 3, 1) := by decide +kernel
theorem dX7_stepOff_238 : decode cX7_stepOff 238 = .ok (.aload_n 0, 1) := by decide +kernel
theorem dX7_stepOff_239 : decode cX7_stepOff 239 = .ok (.getfield 98, 3) := by decide +kernel
theorem dX7_stepOff_242 : decode cX7_stepOff 242 = .ok (.if_icmp .ge 25, 3) := by decide +kernel
theorem dX7_stepOff_245 : decode cX7_stepOff 245 = .ok (.aload_n 0, 1) := by decide +kernel
theorem dX7_stepOff_246 : decode cX7_stepOff 246 = .ok (.getfield 62, 3) := by decide +kernel
theorem dX7_stepOff_249 : decode cX7_stepOff 249 = .ok (.iload_n 3, 1) := by decide +kernel
theorem dX7_stepOff_250 : decode cX7_stepOff 250 = .ok (.iaload, 1) := by decide +kernel
theorem dX7_stepOff_251 : decode cX7_stepOff 251 = .ok (.iconst 1, 1) := by decide +kernel
theorem dX7_stepOff_252 : decode cX7_stepOff 252 = .ok (.if_icmp .ne 9, 3) := by decide +kernel
theorem dX7_stepOff_255 : decode cX7_stepOff 255 = .ok (.aload_n 0, 1) := by decide +kernel
theorem dX7_stepOff_256 : decode cX7_stepOff 256 = .ok (.iload_n 3, 1) := by decide +kernel
theorem dX7_stepOff_257 : decode cX7_stepOff 257 = .ok (.iload_n 1, 1) := by decide +kernel
theorem dX7_stepOff_258 : decode cX7_stepOff 258 = .ok (.invokevirtual 213, 3) := by decide +kernel
theorem dX7_stepOff_261 : decode cX7_stepOff 261 = .ok (.iinc 3 1, 3) := by decide +kernel
theorem dX7_stepOff_264 : decode cX7_stepOff 264 = .ok (.goto (-27), 3) := by decide +kernel
theorem dX7_stepOff_267 : decode cX7_stepOff 267 = .ok (.aload_n 0, 1) := by decide +kernel
theorem dX7_stepOff_268 : decode cX7_stepOff 268 = .ok (.iload_n 2, 1) := by decide +kernel
theorem dX7_stepOff_269 : decode cX7_stepOff 269 = .ok (.invokevirtual 217, 3) := by decide +kernel
theorem dX7_stepOff_272 : decode cX7_stepOff 272 = .ok (.return_, 1) := by decide +kernel
theorem dX7_start_0 : decode cX7_start 0 = .ok (.aload_n 0, 1) := by decide +kernel
theorem dX7_start_1 : decode cX7_start 1 = .ok (.iload_n 1, 1) := by decide +kernel
theorem dX7_start_2 : decode cX7_start 2 = .ok (.invokevirtual 140, 3) := by decide +kernel
theorem dX7_start_5 : decode cX7_start 5 = .ok (.istore_n 3, 1) := by decide +kernel
theorem dX7_start_6 : decode cX7_start 6 = .ok (.aload_n 0, 1) := by decide +kernel
theorem dX7_start_7 : decode cX7_start 7 = .ok (.getfield 13, 3) := by decide +kernel
theorem dX7_start_10 : decode cX7_start 10 = .ok (.iconst 5, 1) := by decide +kernel
theorem dX7_start_11 : decode cX7_start 11 = .ok (.iaload, 1) := by decide +kernel
theorem dX7_start_12 : decode cX7_start 12 = .ok (.ifCond .le 54, 3) := by decide +kernel
theorem dX7_start_15 : decode cX7_start 15 = .ok (.aload_n 0, 1) := by decide +kernel
theorem dX7_start_16 : decode cX7_start 16 = .ok (.getfield 191, 3) := by decide +kernel
theorem dX7_start_19 : decode cX7_start 19 = .ok (.iload_n 3, 1) := by decide +kernel
theorem dX7_start_20 : decode cX7_start 20 = .ok (.iadd, 1) := by decide +kernel
theorem dX7_start_21 : decode cX7_start 21 = .ok (.iconst 1, 1) := by decide +kernel
theorem dX7_start_22 : decode cX7_start 22 = .ok (.isub, 1) := by decide +kernel
theorem dX7_start_23 : decode cX7_start 23 = .ok (.iload_n 3, 1) := by decide +kernel
theorem dX7_start_24 : decode cX7_start 24 = .ok (.idiv, 1) := by decide +kernel
theorem dX7_start_25 : decode cX7_start 25 = .ok (.aload_n 0, 1) := by decide +kernel
theorem dX7_start_26 : decode cX7_start 26 = .ok (.getfield 13, 3) := by decide +kernel
theorem dX7_start_29 : decode cX7_start 29 = .ok (.iconst 5, 1) := by decide +kernel
theorem dX7_start_30 : decode cX7_start 30 = .ok (.iaload, 1) := by decide +kernel
theorem dX7_start_31 : decode cX7_start 31 = .ok (.if_icmp .le 35, 3) := by decide +kernel
theorem dX7_start_34 : decode cX7_start 34 = .ok (.aload_n 0, 1) := by decide +kernel
theorem dX7_start_35 : decode cX7_start 35 = .ok (.getfield 26, 3) := by decide +kernel
theorem dX7_start_38 : decode cX7_start 38 = .ok (.iload_n 1, 1) := by decide +kernel
theorem dX7_start_39 : decode cX7_start 39 = .ok (.iconst 3, 1) := by decide +kernel
theorem dX7_start_40 : decode cX7_start 40 = .ok (.iastore, 1) := by decide +kernel
theorem dX7_start_41 : decode cX7_start 41 = .ok (.aload_n 0, 1) := by decide +kernel
theorem dX7_start_42 : decode cX7_start 42 = .ok (.getfield 41, 3) := by decide +kernel
theorem dX7_start_45 : decode cX7_start 45 = .ok (.iload_n 1, 1) := by decide +kernel
theorem dX7_start_46 : decode cX7_start 46 = .ok (.iload_n 2, 1) := by decide +kernel
theorem dX7_start_47 : decode cX7_start 47 = .ok (.aload_n 0, 1) := by decide +kernel
theorem dX7_start_48 : decode cX7_start 48 = .ok (.getfield 13, 3) := by decide +kernel
theorem dX7_start_51 : decode cX7_start 51 = .ok (.iconst 5, 1) := by decide +kernel
theorem dX7_start_52 : decode cX7_start 52 = .ok (.iaload, 1) := by decide +kernel
theorem dX7_start_53 : decode cX7_start 53 = .ok (.iadd, 1) := by decide +kernel
theorem dX7_start_54 : decode cX7_start 54 = .ok (.iastore, 1) := by decide +kernel
theorem dX7_start_55 : decode cX7_start 55 = .ok (.aload_n 0, 1) := by decide +kernel
theorem dX7_start_56 : decode cX7_start 56 = .ok (.getfield 47, 3) := by decide +kernel
theorem dX7_start_59 : decode cX7_start 59 = .ok (.iload_n 1, 1) := by decide +kernel
theorem dX7_start_60 : decode cX7_start 60 = .ok (.dup2, 1) := by decide +kernel
theorem dX7_start_61 : decode cX7_start 61 = .ok (.iaload, 1) := by decide +kernel
theorem dX7_start_62 : decode cX7_start 62 = .ok (.iconst 1, 1) := by decide +kernel
theorem dX7_start_63 : decode cX7_start 63 = .ok (.iadd, 1) := by decide +kernel
theorem dX7_start_64 : decode cX7_start 64 = .ok (.iastore, 1) := by decide +kernel
theorem dX7_start_65 : decode cX7_start 65 = .ok (.return_, 1) := by decide +kernel
theorem dX7_start_66 : decode cX7_start 66 = .ok (.aload_n 0, 1) := by decide +kernel
theorem dX7_start_67 : decode cX7_start 67 = .ok (.getfield 68, 3) := by decide +kernel
theorem dX7_start_70 : decode cX7_start 70 = .ok (.ifCond .ge 18, 3) := by decide +kernel
theorem dX7_start_73 : decode cX7_start 73 = .ok (.aload_n 0, 1) := by decide +kernel
theorem dX7_start_74 : decode cX7_start 74 = .ok (.getfield 194, 3) := by decide +kernel
theorem dX7_start_77 : decode cX7_start 77 = .ok (.ifCond .le 7, 3) := by decide +kernel
theorem dX7_start_80 : decode cX7_start 80 = .ok (.iconst 1, 1) := by decide +kernel
theorem dX7_start_81 : decode cX7_start 81 = .ok (.goto 15, 3) := by decide +kernel
theorem dX7_start_84 : decode cX7_start 84 = .ok (.iconst 0, 1) := by decide +kernel
theorem dX7_start_85 : decode cX7_start 85 = .ok (.goto 11, 3) := by decide +kernel
theorem dX7_start_88 : decode cX7_start 88 = .ok (.aload_n 0, 1) := by decide +kernel
theorem dX7_start_89 : decode cX7_start 89 = .ok (.getfield 68, 3) := by decide +kernel
theorem dX7_start_92 : decode cX7_start 92 = .ok (.iload_n 1, 1) := by decide +kernel
theorem dX7_start_93 : decode cX7_start 93 = .ok (.invokestatic 221, 3) := by decide +kernel
theorem dX7_start_96 : decode cX7_start 96 = .ok (.istore 4, 2) := by decide +kernel
theorem dX7_start_98 : decode cX7_start 98 = .ok (.aload_n 0, 1) := by decide +kernel
theorem dX7_start_99 : decode cX7_start 99 = .ok (.dup, 1) := by decide +kernel
theorem dX7_start_100 : decode cX7_start 100 = .ok (.getfield 194, 3) := by decide +kernel
theorem dX7_start_103 : decode cX7_start 103 = .ok (.aload_n 0, 1) := by decide +kernel
theorem dX7_start_104 : decode cX7_start 104 = .ok (.getfield 68, 3) := by decide +kernel
theorem dX7_start_107 : decode cX7_start 107 = .ok (.ifCond .ge 12, 3) := by decide +kernel
theorem dX7_start_110 : decode cX7_start 110 = .ok (.iload 4, 2) := by decide +kernel
theorem dX7_start_112 : decode cX7_start 112 = .ok (.ifCond .eq 7, 3) := by decide +kernel
theorem dX7_start_115 : decode cX7_start 115 = .ok (.iconst 1, 1) := by decide +kernel
theorem dX7_start_116 : decode cX7_start 116 = .ok (.goto 4, 3) := by decide +kernel
theorem dX7_start_119 : decode cX7_start 119 = .ok (.iconst 0, 1) := by decide +kernel
theorem dX7_start_120 : decode cX7_start 120 = .ok (.isub, 1) := by decide +kernel
theorem dX7_start_121 : decode cX7_start 121 = .ok (.putfield 194, 3) := by decide +kernel
theorem dX7_start_124 : decode cX7_start 124 = .ok (.aload_n 0, 1) := by decide +kernel
theorem dX7_start_125 : decode cX7_start 125 = .ok (.getfield 44, 3) := by decide +kernel
theorem dX7_start_128 : decode cX7_start 128 = .ok (.iload_n 1, 1) := by decide +kernel
theorem dX7_start_129 : decode cX7_start 129 = .ok (.iload 4, 2) := by decide +kernel
theorem dX7_start_131 : decode cX7_start 131 = .ok (.ifCond .eq 7, 3) := by decide +kernel
theorem dX7_start_134 : decode cX7_start 134 = .ok (.iload_n 3, 1) := by decide +kernel
theorem dX7_start_135 : decode cX7_start 135 = .ok (.goto 10, 3) := by decide +kernel
theorem dX7_start_138 : decode cX7_start 138 = .ok (.iconst 1, 1) := by decide +kernel
theorem dX7_start_139 : decode cX7_start 139 = .ok (.iload_n 3, 1) := by decide +kernel
theorem dX7_start_140 : decode cX7_start 140 = .ok (.iconst 2, 1) := by decide +kernel
theorem dX7_start_141 : decode cX7_start 141 = .ok (.idiv, 1) := by decide +kernel
theorem dX7_start_142 : decode cX7_start 142 = .ok (.invokestatic 132, 3) := by decide +kernel
theorem dX7_start_145 : decode cX7_start 145 = .ok (.iastore, 1) := by decide +kernel
theorem dX7_start_146 : decode cX7_start 146 = .ok (.aload_n 0, 1) := by decide +kernel
theorem dX7_start_147 : decode cX7_start 147 = .ok (.getfield 53, 3) := by decide +kernel
theorem dX7_start_150 : decode cX7_start 150 = .ok (.iload_n 1, 1) := by decide +kernel
theorem dX7_start_151 : decode cX7_start 151 = .ok (.dup2, 1) := by decide +kernel
theorem dX7_start_152 : decode cX7_start 152 = .ok (.iaload, 1) := by decide +kernel
theorem dX7_start_153 : decode cX7_start 153 = .ok (.iload 4, 2) := by decide +kernel
theorem dX7_start_155 : decode cX7_start 155 = .ok (.ifCond .eq 7, 3) := by decide +kernel
theorem dX7_start_158 : decode cX7_start 158 = .ok (.iconst 0, 1) := by decide +kernel
theorem dX7_start_159 : decode cX7_start 159 = .ok (.goto 4, 3) := by decide +kernel
theorem dX7_start_162 : decode cX7_start 162 = .ok (.iconst 1, 1) := by decide +kernel
theorem dX7_start_163 : decode cX7_start 163 = .ok (.iadd, 1) := by decide +kernel
theorem dX7_start_164 : decode cX7_start 164 = .ok (.iastore, 1) := by decide +kernel
theorem dX7_start_165 : decode cX7_start 165 = .ok (.aload_n 0, 1) := by decide +kernel
theorem dX7_start_166 : decode cX7_start 166 = .ok (.getfield 26, 3) := by decide +kernel
theorem dX7_start_169 : decode cX7_start 169 = .ok (.iload_n 1, 1) := by decide +kernel
theorem dX7_start_170 : decode cX7_start 170 = .ok (.iconst 2, 1) := by decide +kernel
theorem dX7_start_171 : decode cX7_start 171 = .ok (.iastore, 1) := by decide +kernel
theorem dX7_start_172 : decode cX7_start 172 = .ok (.aload_n 0, 1) := by decide +kernel
theorem dX7_start_173 : decode cX7_start 173 = .ok (.getfield 32, 3) := by decide +kernel
theorem dX7_start_176 : decode cX7_start 176 = .ok (.iload_n 1, 1) := by decide +kernel
theorem dX7_start_177 : decode cX7_start 177 = .ok (.iconst 0, 1) := by decide +kernel
theorem dX7_start_178 : decode cX7_start 178 = .ok (.iastore, 1) := by decide +kernel
theorem dX7_start_179 : decode cX7_start 179 = .ok (.aload_n 0, 1) := by decide +kernel
theorem dX7_start_180 : decode cX7_start 180 = .ok (.getfield 35, 3) := by decide +kernel
theorem dX7_start_183 : decode cX7_start 183 = .ok (.iload_n 1, 1) := by decide +kernel
theorem dX7_start_184 : decode cX7_start 184 = .ok (.iconst 0, 1) := by decide +kernel
theorem dX7_start_185 : decode cX7_start 185 = .ok (.iastore, 1) := by decide +kernel
theorem dX7_start_186 : decode cX7_start 186 = .ok (.return_, 1) := by decide +kernel
theorem dX7_startAll_0 : decode cX7_startAll 0 = .ok (.iconst 0, 1) := by decide +kernel
theorem dX7_startAll_1 : decode cX7_startAll 1 = .ok (.istore_n 2, 1) := by decide +kernel
theorem dX7_startAll_2 : decode cX7_startAll 2 = .ok (.iload_n 2, 1) := by decide +kernel
theorem dX7_startAll_3 : decode cX7_startAll 3 = .ok (.aload_n 0, 1) := by decide +kernel
theorem dX7_startAll_4 : decode cX7_startAll 4 = .ok (.getfield 98, 3) := by decide +kernel
theorem dX7_startAll_7 : decode cX7_startAll 7 = .ok (.if_icmp .ge 35, 3) := by decide +kernel
theorem dX7_startAll_10 : decode cX7_startAll 10 = .ok (.aload_n 0, 1) := by decide +kernel
theorem dX7_startAll_11 : decode cX7_startAll 11 = .ok (.getfield 26, 3) := by decide +kernel
theorem dX7_startAll_14 : decode cX7_startAll 14 = .ok (.iload_n 2, 1) := by decide +kernel
theorem dX7_startAll_15 : decode cX7_startAll 15 = .ok (.iaload, 1) := by decide +kernel
theorem dX7_startAll_16 : decode cX7_startAll 16 = .ok (.iconst 3, 1) := by decide +kernel
theorem dX7_startAll_17 : decode cX7_startAll 17 = .ok (.if_icmp .ne 19, 3) := by decide +kernel
theorem dX7_startAll_20 : decode cX7_startAll 20 = .ok (.aload_n 0, 1) := by decide +kernel
theorem dX7_startAll_21 : decode cX7_startAll 21 = .ok (.getfield 41, 3) := by decide +kernel
theorem dX7_startAll_24 : decode cX7_startAll 24 = .ok (.iload_n 2, 1) := by decide +kernel
theorem dX7_startAll_25 : decode cX7_startAll 25 = .ok (.iaload, 1) := by decide +kernel
theorem dX7_startAll_26 : decode cX7_startAll 26 = .ok (.iload_n 1, 1) := by decide +kernel
theorem dX7_startAll_27 : decode cX7_startAll 27 = .ok (.if_icmp .ne 9, 3) := by decide +kernel
theorem dX7_startAll_30 : decode cX7_startAll 30 = .ok (.aload_n 0, 1) := by decide +kernel
theorem dX7_startAll_31 : decode cX7_startAll 31 = .ok (.iload_n 2, 1) := by decide +kernel
theorem dX7_startAll_32 : decode cX7_startAll 32 = .ok (.iload_n 1, 1) := by decide +kernel
theorem dX7_startAll_33 : decode cX7_startAll 33 = .ok (.invokevirtual 213, 3) := by decide +kernel
theorem dX7_startAll_36 : decode cX7_startAll 36 = .ok (.iinc 2 1, 3) := by decide +kernel
theorem dX7_startAll_39 : decode cX7_startAll 39 = .ok (.goto (-37), 3) := by decide +kernel
theorem dX7_startAll_42 : decode cX7_startAll 42 = .ok (.iconst 0, 1) := by decide +kernel
theorem dX7_startAll_43 : decode cX7_startAll 43 = .ok (.istore_n 2, 1) := by decide +kernel
theorem dX7_startAll_44 : decode cX7_startAll 44 = .ok (.iload_n 2, 1) := by decide +kernel
theorem dX7_startAll_45 : decode cX7_startAll 45 = .ok (.aload_n 0, 1) := by decide +kernel
theorem dX7_startAll_46 : decode cX7_startAll 46 = .ok (.getfield 98, 3) := by decide +kernel
theorem dX7_startAll_49 : decode cX7_startAll 49 = .ok (.if_icmp .ge 91, 3) := by decide +kernel
theorem dX7_startAll_52 : decode cX7_startAll 52 = .ok (.aload_n 0, 1) := by decide +kernel
theorem dX7_startAll_53 : decode cX7_startAll 53 = .ok (.getfield 26, 3) := by decide +kernel
theorem dX7_startAll_56 : decode cX7_startAll 56 = .ok (.iload_n 2, 1) := by decide +kernel
theorem dX7_startAll_57 : decode cX7_startAll 57 = .ok (.iaload, 1) := by decide +kernel
theorem dX7_startAll_58 : decode cX7_startAll 58 = .ok (.ifCond .ne 20, 3) := by decide +kernel
theorem dX7_startAll_61 : decode cX7_startAll 61 = .ok (.aload_n 0, 1) := by decide +kernel
theorem dX7_startAll_62 : decode cX7_startAll 62 = .ok (.getfield 7, 3) := by decide +kernel
theorem dX7_startAll_65 : decode cX7_startAll 65 = .ok (.bipush 7, 2) := by decide +kernel
theorem dX7_startAll_67 : decode cX7_startAll 67 = .ok (.iload_n 2, 1) := by decide +kernel
theorem dX7_startAll_68 : decode cX7_startAll 68 = .ok (.imul, 1) := by decide +kernel
theorem dX7_startAll_69 : decode cX7_startAll 69 = .ok (.iaload, 1) := by decide +kernel
theorem dX7_startAll_70 : decode cX7_startAll 70 = .ok (.iload_n 1, 1) := by decide +kernel
theorem dX7_startAll_71 : decode cX7_startAll 71 = .ok (.if_icmp .ne 7, 3) := by decide +kernel
theorem dX7_startAll_74 : decode cX7_startAll 74 = .ok (.iconst 1, 1) := by decide +kernel
theorem dX7_startAll_75 : decode cX7_startAll 75 = .ok (.goto 4, 3) := by decide +kernel
theorem dX7_startAll_78 : decode cX7_startAll 78 = .ok (.iconst 0, 1) := by decide +kernel
theorem dX7_startAll_79 : decode cX7_startAll 79 = .ok (.istore_n 3, 1) := by decide +kernel
theorem dX7_startAll_80 : decode cX7_startAll 80 = .ok (.aload_n 0, 1) := by decide +kernel
theorem dX7_startAll_81 : decode cX7_startAll 81 = .ok (.getfield 26, 3) := by decide +kernel
theorem dX7_startAll_84 : decode cX7_startAll 84 = .ok (.iload_n 2, 1) := by decide +kernel
theorem dX7_startAll_85 : decode cX7_startAll 85 = .ok (.iaload, 1) := by decide +kernel
theorem dX7_startAll_86 : decode cX7_startAll 86 = .ok (.iconst 1, 1) := by decide +kernel
theorem dX7_startAll_87 : decode cX7_startAll 87 = .ok (.if_icmp .ne 29, 3) := by decide +kernel
theorem dX7_startAll_90 : decode cX7_startAll 90 = .ok (.iload_n 1, 1) := by decide +kernel
theorem dX7_startAll_91 : decode cX7_startAll 91 = .ok (.aload_n 0, 1) := by decide +kernel
theorem dX7_startAll_92 : decode cX7_startAll 92 = .ok (.getfield 41, 3) := by decide +kernel
theorem dX7_startAll_95 : decode cX7_startAll 95 = .ok (.iload_n 2, 1) := by decide +kernel
theorem dX7_startAll_96 : decode cX7_startAll 96 = .ok (.iaload, 1) := by decide +kernel
theorem dX7_startAll_97 : decode cX7_startAll 97 = .ok (.isub, 1) := by decide +kernel
theorem dX7_startAll_98 : decode cX7_startAll 98 = .ok (.aload_n 0, 1) := by decide +kernel
theorem dX7_startAll_99 : decode cX7_startAll 99 = .ok (.getfield 7, 3) := by decide +kernel
theorem dX7_startAll_102 : decode cX7_startAll 102 = .ok (.bipush 7, 2) := by decide +kernel
theorem dX7_startAll_104 : decode cX7_startAll 104 = .ok (.iload_n 2, 1) := by decide +kernel
theorem dX7_startAll_105 : decode cX7_startAll 105 = .ok (.imul, 1) := by decide +kernel
theorem dX7_startAll_106 : decode cX7_startAll 106 = .ok (.iconst 5, 1) := by decide +kernel
theorem dX7_startAll_107 : decode cX7_startAll 107 = .ok (.iadd, 1) := by decide +kernel
theorem dX7_startAll_108 : decode cX7_startAll 108 = .ok (.iaload, 1) := by decide +kernel
theorem dX7_startAll_109 : decode cX7_startAll 109 = .ok (.if_icmp .lt 7, 3) := by decide +kernel
theorem dX7_startAll_112 : decode cX7_startAll 112 = .ok (.iconst 1, 1) := by decide +kernel
theorem dX7_startAll_113 : decode cX7_startAll 113 = .ok (.goto 4, 3) := by decide +kernel
theorem dX7_startAll_116 : decode cX7_startAll 116 = .ok (.iconst 0, 1) := by decide +kernel
theorem dX7_startAll_117 : decode cX7_startAll 117 = .ok (.istore 4, 2) := by decide +kernel
theorem dX7_startAll_119 : decode cX7_startAll 119 = .ok (.iload_n 3, 1) := by decide +kernel
theorem dX7_startAll_120 : decode cX7_startAll 120 = .ok (.ifCond .ne 8, 3) := by decide +kernel
theorem dX7_startAll_123 : decode cX7_startAll 123 = .ok (.iload 4, 2) := by decide +kernel
theorem dX7_startAll_125 : decode cX7_startAll 125 = .ok (.ifCond .eq 9, 3) := by decide +kernel
theorem dX7_startAll_128 : decode cX7_startAll 128 = .ok (.aload_n 0, 1) := by decide +kernel
theorem dX7_startAll_129 : decode cX7_startAll 129 = .ok (.iload_n 2, 1) := by decide +kernel
theorem dX7_startAll_130 : decode cX7_startAll 130 = .ok (.iload_n 1, 1) := by decide +kernel
theorem dX7_startAll_131 : decode cX7_startAll 131 = .ok (.invokevirtual 225, 3) := by decide +kernel
theorem dX7_startAll_134 : decode cX7_startAll 134 = .ok (.iinc 2 1, 3) := by decide +kernel
theorem dX7_startAll_137 : decode cX7_startAll 137 = .ok (.goto (-93), 3) := by decide +kernel
theorem dX7_startAll_140 : decode cX7_startAll 140 = .ok (.return_, 1) := by decide +kernel
theorem dX7_goTo_0 : decode cX7_goTo 0 = .ok (.iconst 0, 1) := by decide +kernel
theorem dX7_goTo_1 : decode cX7_goTo 1 = .ok (.istore_n 2, 1) := by decide +kernel
theorem dX7_goTo_2 : decode cX7_goTo 2 = .ok (.iload_n 2, 1) := by decide +kernel
theorem dX7_goTo_3 : decode cX7_goTo 3 = .ok (.iload_n 1, 1) := by decide +kernel
theorem dX7_goTo_4 : decode cX7_goTo 4 = .ok (.if_icmp .gt 54, 3) := by decide +kernel
theorem dX7_goTo_7 : decode cX7_goTo 7 = .ok (.iload_n 2, 1) := by decide +kernel
theorem dX7_goTo_8 : decode cX7_goTo 8 = .ok (.ifCond .le 30, 3) := by decide +kernel
theorem dX7_goTo_11 : decode cX7_goTo 11 = .ok (.iload_n 2, 1) := by decide +kernel
theorem dX7_goTo_12 : decode cX7_goTo 12 = .ok (.sipush 240, 3) := by decide +kernel
theorem dX7_goTo_15 : decode cX7_goTo 15 = .ok (.irem, 1) := by decide +kernel
theorem dX7_goTo_16 : decode cX7_goTo 16 = .ok (.ifCond .ne 22, 3) := by decide +kernel
