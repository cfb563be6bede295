theorem d_Y_init_0 : decode prog_11_method_1_code 0 = .ok (.aload_n 0, 1) := by decide +kernel
theorem d_Y_init_1 : decode prog_11_method_1_code 1 = .ok (.invokespecial 1, 3) := by decide +kernel
theorem d_Y_init_4 : decode prog_11_method_1_code 4 = .ok (.aload_n 0, 1) := by decide +kernel
theorem d_Y_init_5 : decode prog_11_method_1_code 5 = .ok (.bipush 6, 2) := by decide +kernel
theorem d_Y_init_7 : decode prog_11_method_1_code 7 = .ok (.newarray .boolean, 2) := by decide +kernel
theorem d_Y_init_9 : decode prog_11_method_1_code 9 = .ok (.putfield 7, 3) := by decide +kernel
theorem d_Y_init_12 : decode prog_11_method_1_code 12 = .ok (.aload_n 0, 1) := by decide +kernel
theorem d_Y_init_13 : decode prog_11_method_1_code 13 = .ok (.bipush 6, 2) := by decide +kernel
theorem d_Y_init_15 : decode prog_11_method_1_code 15 = .ok (.newarray .int, 2) := by decide +kernel
theorem d_Y_init_17 : decode prog_11_method_1_code 17 = .ok (.putfield 13, 3) := by decide +kernel
theorem d_Y_init_20 : decode prog_11_method_1_code 20 = .ok (.aload_n 0, 1) := by decide +kernel
theorem d_Y_init_21 : decode prog_11_method_1_code 21 = .ok (.bipush 6, 2) := by decide +kernel
theorem d_Y_init_23 : decode prog_11_method_1_code 23 = .ok (.newarray .int, 2) := by decide +kernel
theorem d_Y_init_25 : decode prog_11_method_1_code 25 = .ok (.putfield 17, 3) := by decide +kernel
theorem d_Y_init_28 : decode prog_11_method_1_code 28 = .ok (.aload_n 0, 1) := by decide +kernel
theorem d_Y_init_29 : decode prog_11_method_1_code 29 = .ok (.bipush 6, 2) := by decide +kernel
theorem d_Y_init_31 : decode prog_11_method_1_code 31 = .ok (.newarray .int, 2) := by decide +kernel
theorem d_Y_init_33 : decode prog_11_method_1_code 33 = .ok (.putfield 20, 3) := by decide +kernel
theorem d_Y_init_36 : decode prog_11_method_1_code 36 = .ok (.aload_n 0, 1) := by decide +kernel
theorem d_Y_init_37 : decode prog_11_method_1_code 37 = .ok (.bipush 60, 2) := by decide +kernel
theorem d_Y_init_39 : decode prog_11_method_1_code 39 = .ok (.newarray .boolean, 2) := by decide +kernel
theorem d_Y_init_41 : decode prog_11_method_1_code 41 = .ok (.putfield 23, 3) := by decide +kernel
theorem d_Y_init_44 : decode prog_11_method_1_code 44 = .ok (.aload_n 0, 1) := by decide +kernel
theorem d_Y_init_45 : decode prog_11_method_1_code 45 = .ok (.bipush 60, 2) := by decide +kernel
theorem d_Y_init_47 : decode prog_11_method_1_code 47 = .ok (.newarray .int, 2) := by decide +kernel
theorem d_Y_init_49 : decode prog_11_method_1_code 49 = .ok (.putfield 26, 3) := by decide +kernel
theorem d_Y_init_52 : decode prog_11_method_1_code 52 = .ok (.aload_n 0, 1) := by decide +kernel
theorem d_Y_init_53 : decode prog_11_method_1_code 53 = .ok (.bipush 60, 2) := by decide +kernel
theorem d_Y_init_55 : decode prog_11_method_1_code 55 = .ok (.newarray .int, 2) := by decide +kernel
theorem d_Y_init_57 : decode prog_11_method_1_code 57 = .ok (.putfield 29, 3) := by decide +kernel
theorem d_Y_init_60 : decode prog_11_method_1_code 60 = .ok (.aload_n 0, 1) := by decide +kernel
theorem d_Y_init_61 : decode prog_11_method_1_code 61 = .ok (.bipush 60, 2) := by decide +kernel
theorem d_Y_init_63 : decode prog_11_method_1_code 63 = .ok (.newarray .int, 2) := by decide +kernel
theorem d_Y_init_65 : decode prog_11_method_1_code 65 = .ok (.putfield 32, 3) := by decide +kernel
theorem d_Y_init_68 : decode prog_11_method_1_code 68 = .ok (.aload_n 0, 1) := by decide +kernel
theorem d_Y_init_69 : decode prog_11_method_1_code 69 = .ok (.bipush 60, 2) := by decide +kernel
theorem d_Y_init_71 : decode prog_11_method_1_code 71 = .ok (.newarray .int, 2) := by decide +kernel
theorem d_Y_init_73 : decode prog_11_method_1_code 73 = .ok (.putfield 35, 3) := by decide +kernel
theorem d_Y_init_76 : decode prog_11_method_1_code 76 = .ok (.aload_n 0, 1) := by decide +kernel
theorem d_Y_init_77 : decode prog_11_method_1_code 77 = .ok (.bipush 60, 2) := by decide +kernel
theorem d_Y_init_79 : decode prog_11_method_1_code 79 = .ok (.newarray .int, 2) := by decide +kernel
theorem d_Y_init_81 : decode prog_11_method_1_code 81 = .ok (.putfield 38, 3) := by decide +kernel
theorem d_Y_init_84 : decode prog_11_method_1_code 84 = .ok (.aload_n 0, 1) := by decide +kernel
theorem d_Y_init_85 : decode prog_11_method_1_code 85 = .ok (.bipush 60, 2) := by decide +kernel
theorem d_Y_init_87 : decode prog_11_method_1_code 87 = .ok (.newarray .int, 2) := by decide +kernel
theorem d_Y_init_89 : decode prog_11_method_1_code 89 = .ok (.putfield 41, 3) := by decide +kernel
theorem d_Y_init_92 : decode prog_11_method_1_code 92 = .ok (.aload_n 0, 1) := by decide +kernel
theorem d_Y_init_93 : decode prog_11_method_1_code 93 = .ok (.bipush 60, 2) := by decide +kernel
theorem d_Y_init_95 : decode prog_11_method_1_code 95 = .ok (.newarray .int, 2) := by decide +kernel
theorem d_Y_init_97 : decode prog_11_method_1_code 97 = .ok (.putfield 44, 3) := by decide +kernel
theorem d_Y_init_100 : decode prog_11_method_1_code 100 = .ok (.aload_n 0, 1) := by decide +kernel
theorem d_Y_init_101 : decode prog_11_method_1_code 101 = .ok (.bipush 60, 2) := by decide +kernel
theorem d_Y_init_103 : decode prog_11_method_1_code 103 = .ok (.newarray .int, 2) := by decide +kernel
theorem d_Y_init_105 : decode prog_11_method_1_code 105 = .ok (.putfield 47, 3) := by decide +kernel
theorem d_Y_init_108 : decode prog_11_method_1_code 108 = .ok (.aload_n 0, 1) := by decide +kernel
theorem d_Y_init_109 : decode prog_11_method_1_code 109 = .ok (.bipush 60, 2) := by decide +kernel
theorem d_Y_init_111 : decode prog_11_method_1_code 111 = .ok (.newarray .int, 2) := by decide +kernel
theorem d_Y_init_113 : decode prog_11_method_1_code 113 = .ok (.putfield 50, 3) := by decide +kernel
theorem d_Y_init_116 : decode prog_11_method_1_code 116 = .ok (.aload_n 0, 1) := by decide +kernel
theorem d_Y_init_117 : decode prog_11_method_1_code 117 = .ok (.bipush 60, 2) := by decide +kernel
theorem d_Y_init_119 : decode prog_11_method_1_code 119 = .ok (.newarray .int, 2) := by decide +kernel
theorem d_Y_init_121 : decode prog_11_method_1_code 121 = .ok (.putfield 53, 3) := by decide +kernel
theorem d_Y_init_124 : decode prog_11_method_1_code 124 = .ok (.aload_n 0, 1) := by decide +kernel
theorem d_Y_init_125 : decode prog_11_method_1_code 125 = .ok (.bipush 60, 2) := by decide +kernel
theorem d_Y_init_127 : decode prog_11_method_1_code 127 = .ok (.newarray .int, 2) := by decide +kernel
theorem d_Y_init_129 : decode prog_11_method_1_code 129 = .ok (.putfield 56, 3) := by decide +kernel
theorem d_Y_init_132 : decode prog_11_method_1_code 132 = .ok (.aload_n 0, 1) := by decide +kernel
theorem d_Y_init_133 : decode prog_11_method_1_code 133 = .ok (.bipush 60, 2) := by decide +kernel
theorem d_Y_init_135 : decode prog_11_method_1_code 135 = .ok (.newarray .int, 2) := by decide +kernel
theorem d_Y_init_137 : decode prog_11_method_1_code 137 = .ok (.putfield 59, 3) := by decide +kernel
theorem d_Y_init_140 : decode prog_11_method_1_code 140 = .ok (.aload_n 0, 1) := by decide +kernel
theorem d_Y_init_141 : decode prog_11_method_1_code 141 = .ok (.sipush 180, 3) := by decide +kernel
theorem d_Y_init_144 : decode prog_11_method_1_code 144 = .ok (.newarray .int, 2) := by decide +kernel
theorem d_Y_init_146 : decode prog_11_method_1_code 146 = .ok (.putfield 62, 3) := by decide +kernel
theorem d_Y_init_149 : decode prog_11_method_1_code 149 = .ok (.aload_n 0, 1) := by decide +kernel
theorem d_Y_init_150 : decode prog_11_method_1_code 150 = .ok (.bipush 6, 2) := by decide +kernel
theorem d_Y_init_152 : decode prog_11_method_1_code 152 = .ok (.newarray .int, 2) := by decide +kernel
theorem d_Y_init_154 : decode prog_11_method_1_code 154 = .ok (.putfield 65, 3) := by decide +kernel
theorem d_Y_init_157 : decode prog_11_method_1_code 157 = .ok (.aload_n 0, 1) := by decide +kernel
theorem d_Y_init_158 : decode prog_11_method_1_code 158 = .ok (.bipush 6, 2) := by decide +kernel
theorem d_Y_init_160 : decode prog_11_method_1_code 160 = .ok (.newarray .int, 2) := by decide +kernel
theorem d_Y_init_162 : decode prog_11_method_1_code 162 = .ok (.putfield 68, 3) := by decide +kernel
theorem d_Y_init_165 : decode prog_11_method_1_code 165 = .ok (.aload_n 0, 1) := by decide +kernel
theorem d_Y_init_166 : decode prog_11_method_1_code 166 = .ok (.bipush 6, 2) := by decide +kernel
theorem d_Y_init_168 : decode prog_11_method_1_code 168 = .ok (.newarray .int, 2) := by decide +kernel
theorem d_Y_init_170 : decode prog_11_method_1_code 170 = .ok (.putfield 71, 3) := by decide +kernel
theorem d_Y_init_173 : decode prog_11_method_1_code 173 = .ok (.aload_n 0, 1) := by decide +kernel
theorem d_Y_init_174 : decode prog_11_method_1_code 174 = .ok (.bipush 6, 2) := by decide +kernel
theorem d_Y_init_176 : decode prog_11_method_1_code 176 = .ok (.newarray .int, 2) := by decide +kernel
theorem d_Y_init_178 : decode prog_11_method_1_code 178 = .ok (.putfield 74, 3) := by decide +kernel
theorem d_Y_init_181 : decode prog_11_method_1_code 181 = .ok (.aload_n 0, 1) := by decide +kernel
theorem d_Y_init_182 : decode prog_11_method_1_code 182 = .ok (.bipush 6, 2) := by decide +kernel
theorem d_Y_init_184 : decode prog_11_method_1_code 184 = .ok (.newarray .int, 2) := by decide +kernel
theorem d_Y_init_186 : decode prog_11_method_1_code 186 = .ok (.putfield 77, 3) := by decide +kernel
theorem d_Y_init_189 : decode prog_11_method_1_code 189 = .ok (.aload_n 0, 1) := by decide +kernel
theorem d_Y_init_190 : decode prog_11_method_1_code 190 = .ok (.sipush 180, 3) := by decide +kernel
theorem d_Y_init_193 : decode prog_11_method_1_code 193 = .ok (.newarray .int, 2) := by decide +kernel
theorem d_Y_init_195 : decode prog_11_method_1_code 195 = .ok (.putfield 80, 3) := by decide +kernel
theorem d_Y_init_198 : decode prog_11_method_1_code 198 = .ok (.aload_n 0, 1) := by decide +kernel
theorem d_Y_init_199 : decode prog_11_method_1_code 199 = .ok (.sipush 180, 3) := by decide +kernel
theorem d_Y_init_202 : decode prog_11_method_1_code 202 = .ok (.newarray .int, 2) := by decide +kernel
theorem d_Y_init_204 : decode prog_11_method_1_code 204 = .ok (.putfield 83, 3) := by decide +kernel
theorem d_Y_init_207 : decode prog_11_method_1_code 207 = .ok (.aload_n 0, 1) := by decide +kernel
theorem d_Y_init_208 : decode prog_11_method_1_code 208 = .ok (.sipush 572, 3) := by decide +kernel
theorem d_Y_init_211 : decode prog_11_method_1_code 211 = .ok (.newarray .int, 2) := by decide +kernel
theorem d_Y_init_213 : decode prog_11_method_1_code 213 = .ok (.putfield 86, 3) := by decide +kernel
theorem d_Y_init_216 : decode prog_11_method_1_code 216 = .ok (.aload_n 0, 1) := by decide +kernel
theorem d_Y_init_217 : decode prog_11_method_1_code 217 = .ok (.sipush 572, 3) := by decide +kernel
theorem d_Y_init_220 : decode prog_11_method_1_code 220 = .ok (.newarray .int, 2) := by decide +kernel
theorem d_Y_init_222 : decode prog_11_method_1_code 222 = .ok (.putfield 89, 3) := by decide +kernel
theorem d_Y_init_225 : decode prog_11_method_1_code 225 = .ok (.iconst 0, 1) := by decide +kernel
theorem d_Y_init_226 : decode prog_11_method_1_code 226 = .ok (.istore_n 1, 1) := by decide +kernel
theorem d_Y_init_227 : decode prog_11_method_1_code 227 = .ok (.iload_n 1, 1) := by decide +kernel
theorem d_Y_init_228 : decode prog_11_method_1_code 228 = .ok (.sipush 180, 3) := by decide +kernel
theorem d_Y_init_231 : decode prog_11_method_1_code 231 = .ok (.if_icmp .ge 16, 3) := by decide +kernel
theorem d_Y_init_234 : decode prog_11_method_1_code 234 = .ok (.aload_n 0, 1) := by decide +kernel
theorem d_Y_init_235 : decode prog_11_method_1_code 235 = .ok (.getfield 62, 3) := by decide +kernel
theorem d_Y_init_238 : decode prog_11_method_1_code 238 = .ok (.iload_n 1, 1) := by decide +kernel
theorem d_Y_init_239 : decode prog_11_method_1_code 239 = .ok (.iconst (-1), 1) := by decide +kernel
theorem d_Y_init_240 : decode prog_11_method_1_code 240 = .ok (.iastore, 1) := by decide +kernel
theorem d_Y_init_241 : decode prog_11_method_1_code 241 = .ok (.iinc 1 1, 3) := by decide +kernel
theorem d_Y_init_244 : decode prog_11_method_1_code 244 = .ok (.goto (-17), 3) := by decide +kernel
theorem d_Y_init_247 : decode prog_11_method_1_code 247 = .ok (.iconst 0, 1) := by decide +kernel
theorem d_Y_init_248 : decode prog_11_method_1_code 248 = .ok (.istore_n 1, 1) := by decide +kernel
theorem d_Y_init_249 : decode prog_11_method_1_code 249 = .ok (.iload_n 1, 1) := by decide +kernel
theorem d_Y_init_250 : decode prog_11_method_1_code 250 = .ok (.bipush 6, 2) := by decide +kernel
theorem d_Y_init_252 : decode prog_11_method_1_code 252 = .ok (.if_icmp .ge 16, 3) := by decide +kernel
theorem d_Y_init_255 : decode prog_11_method_1_code 255 = .ok (.aload_n 0, 1) := by decide +kernel
theorem d_Y_init_256 : decode prog_11_method_1_code 256 = .ok (.getfield 65, 3) := by decide +kernel
theorem d_Y_init_259 : decode prog_11_method_1_code 259 = .ok (.iload_n 1, 1) := by decide +kernel
theorem d_Y_init_260 : decode prog_11_method_1_code 260 = .ok (.iconst (-1), 1) := by decide +kernel
theorem d_Y_init_261 : decode prog_11_method_1_code 261 = .ok (.iastore, 1) := by decide +kernel
theorem d_Y_init_262 : decode prog_11_method_1_code 262 = .ok (.iinc 1 1, 3) := by decide +kernel
theorem d_Y_init_265 : decode prog_11_method_1_code 265 = .ok (.goto (-16), 3) := by decide +kernel
theorem d_Y_init_268 : decode prog_11_method_1_code 268 = .ok (.return_, 1) := by decide +kernel
theorem d_Y_within_0 : decode prog_11_method_2_code 0 = .ok (.iload_n 0, 1) := by decide +kernel
theorem d_Y_within_1 : decode prog_11_method_2_code 1 = .ok (.ifCond .lt 12, 3) := by decide +kernel
theorem d_Y_within_4 : decode prog_11_method_2_code 4 = .ok (.iload_n 0, 1) := by decide +kernel
theorem d_Y_within_5 : decode prog_11_method_2_code 5 = .ok (.iload_n 1, 1) := by decide +kernel
theorem d_Y_within_6 : decode prog_11_method_2_code 6 = .ok (.if_icmp .gt 7, 3) := by decide +kernel
theorem d_Y_within_9 : decode prog_11_method_2_code 9 = .ok (.iconst 1, 1) := by decide +kernel
theorem d_Y_within_10 : decode prog_11_method_2_code 10 = .ok (.goto 4, 3) := by decide +kernel
theorem d_Y_within_13 : decode prog_11_method_2_code 13 = .ok (.iconst 0, 1) := by decide +kernel
theorem d_Y_within_14 : decode prog_11_method_2_code 14 = .ok (.ireturn, 1) := by decide +kernel
theorem d_Y_need_0 : decode prog_11_method_4_code 0 = .ok (.iconst 0, 1) := by decide +kernel
theorem d_Y_need_1 : decode prog_11_method_4_code 1 = .ok (.istore_n 2, 1) := by decide +kernel
theorem d_Y_need_2 : decode prog_11_method_4_code 2 = .ok (.iconst 3, 1) := by decide +kernel
theorem d_Y_need_3 : decode prog_11_method_4_code 3 = .ok (.iload_n 1, 1) := by decide +kernel
theorem d_Y_need_4 : decode prog_11_method_4_code 4 = .ok (.imul, 1) := by decide +kernel
theorem d_Y_need_5 : decode prog_11_method_4_code 5 = .ok (.istore_n 3, 1) := by decide +kernel
theorem d_Y_need_6 : decode prog_11_method_4_code 6 = .ok (.iload_n 3, 1) := by decide +kernel
theorem d_Y_need_7 : decode prog_11_method_4_code 7 = .ok (.iconst 3, 1) := by decide +kernel
theorem d_Y_need_8 : decode prog_11_method_4_code 8 = .ok (.iload_n 1, 1) := by decide +kernel
theorem d_Y_need_9 : decode prog_11_method_4_code 9 = .ok (.imul, 1) := by decide +kernel
theorem d_Y_need_10 : decode prog_11_method_4_code 10 = .ok (.iconst 3, 1) := by decide +kernel
theorem d_Y_need_11 : decode prog_11_method_4_code 11 = .ok (.iadd, 1) := by decide +kernel
theorem d_Y_need_12 : decode prog_11_method_4_code 12 = .ok (.if_icmp .ge 34, 3) := by decide +kernel
theorem d_Y_need_15 : decode prog_11_method_4_code 15 = .ok (.aload_n 0, 1) := by decide +kernel
theorem d_Y_need_16 : decode prog_11_method_4_code 16 = .ok (.getfield 62, 3) := by decide +kernel
theorem d_Y_need_19 : decode prog_11_method_4_code 19 = .ok (.iload_n 3, 1) := by decide +kernel
theorem d_Y_need_20 : decode prog_11_method_4_code 20 = .ok (.iaload, 1) := by decide +kernel
theorem d_Y_need_21 : decode prog_11_method_4_code 21 = .ok (.iconst 1, 1) := by decide +kernel
theorem d_Y_need_22 : decode prog_11_method_4_code 22 = .ok (.iadd, 1) := by decide +kernel
theorem d_Y_need_23 : decode prog_11_method_4_code 23 = .ok (.iload_n 2, 1) := by decide +kernel
theorem d_Y_need_24 : decode prog_11_method_4_code 24 = .ok (.if_icmp .le 14, 3) := by decide +kernel
theorem d_Y_need_27 : decode prog_11_method_4_code 27 = .ok (.aload_n 0, 1) := by decide +kernel
theorem d_Y_need_28 : decode prog_11_method_4_code 28 = .ok (.getfield 62, 3) := by decide +kernel
theorem d_Y_need_31 : decode prog_11_method_4_code 31 = .ok (.iload_n 3, 1) := by decide +kernel
theorem d_Y_need_32 : decode prog_11_method_4_code 32 = .ok (.iaload, 1) := by decide +kernel
theorem d_Y_need_33 : decode prog_11_method_4_code 33 = .ok (.iconst 1, 1) := by decide +kernel
theorem d_Y_need_34 : decode prog_11_method_4_code 34 = .ok (.iadd, 1) := by decide +kernel
theorem d_Y_need_35 : decode prog_11_method_4_code 35 = .ok (.goto 4, 3) := by decide +kernel
theorem d_Y_need_38 : decode prog_11_method_4_code 38 = .ok (.iload_n 2, 1) := by decide +kernel
theorem d_Y_need_39 : decode prog_11_method_4_code 39 = .ok (.istore_n 2, 1) := by decide +kernel
theorem d_Y_need_40 : decode prog_11_method_4_code 40 = .ok (.iinc 3 1, 3) := by decide +kernel
theorem d_Y_need_43 : decode prog_11_method_4_code 43 = .ok (.goto (-37), 3) := by decide +kernel
theorem d_Y_need_46 : decode prog_11_method_4_code 46 = .ok (.iload_n 2, 1) := by decide +kernel
theorem d_Y_need_47 : decode prog_11_method_4_code 47 = .ok (.ireturn, 1) := by decide +kernel
theorem d_Y_after_0 : decode prog_11_method_3_code 0 = .ok (.iconst 0, 1) := by decide +kernel
theorem d_Y_after_1 : decode prog_11_method_3_code 1 = .ok (.istore_n 2, 1) := by decide +kernel
theorem d_Y_after_2 : decode prog_11_method_3_code 2 = .ok (.iconst 0, 1) := by decide +kernel
theorem d_Y_after_3 : decode prog_11_method_3_code 3 = .ok (.istore_n 3, 1) := by decide +kernel
theorem d_Y_after_4 : decode prog_11_method_3_code 4 = .ok (.iload_n 3, 1) := by decide +kernel
theorem d_Y_after_5 : decode prog_11_method_3_code 5 = .ok (.iload_n 1, 1) := by decide +kernel
theorem d_Y_after_6 : decode prog_11_method_3_code 6 = .ok (.if_icmp .ge 65, 3) := by decide +kernel
theorem d_Y_after_9 : decode prog_11_method_3_code 9 = .ok (.aload_n 0, 1) := by decide +kernel
theorem d_Y_after_10 : decode prog_11_method_3_code 10 = .ok (.getfield 86, 3) := by decide +kernel
theorem d_Y_after_13 : decode prog_11_method_3_code 13 = .ok (.iload_n 3, 1) := by decide +kernel
theorem d_Y_after_14 : decode prog_11_method_3_code 14 = .ok (.iaload, 1) := by decide +kernel
theorem d_Y_after_15 : decode prog_11_method_3_code 15 = .ok (.iconst 2, 1) := by decide +kernel
theorem d_Y_after_16 : decode prog_11_method_3_code 16 = .ok (.if_icmp .ne 15, 3) := by decide +kernel
theorem d_Y_after_19 : decode prog_11_method_3_code 19 = .ok (.iload_n 2, 1) := by decide +kernel
theorem d_Y_after_20 : decode prog_11_method_3_code 20 = .ok (.aload_n 0, 1) := by decide +kernel
theorem d_Y_after_21 : decode prog_11_method_3_code 21 = .ok (.getfield 89, 3) := by decide +kernel
theorem d_Y_after_24 : decode prog_11_method_3_code 24 = .ok (.iload_n 3, 1) := by decide +kernel
theorem d_Y_after_25 : decode prog_11_method_3_code 25 = .ok (.iaload, 1) := by decide +kernel
theorem d_Y_after_26 : decode prog_11_method_3_code 26 = .ok (.iadd, 1) := by decide +kernel
theorem d_Y_after_27 : decode prog_11_method_3_code 27 = .ok (.istore_n 2, 1) := by decide +kernel
theorem d_Y_after_28 : decode prog_11_method_3_code 28 = .ok (.goto 37, 3) := by decide +kernel
theorem d_Y_after_31 : decode prog_11_method_3_code 31 = .ok (.aload_n 0, 1) := by decide +kernel
theorem d_Y_after_32 : decode prog_11_method_3_code 32 = .ok (.getfield 86, 3) := by decide +kernel
theorem d_Y_after_35 : decode prog_11_method_3_code 35 = .ok (.iload_n 3, 1) := by decide +kernel
theorem d_Y_after_36 : decode prog_11_method_3_code 36 = .ok (.iaload, 1) := by decide +kernel
theorem d_Y_after_37 : decode prog_11_method_3_code 37 = .ok (.ifCond .ne 28, 3) := by decide +kernel
theorem d_Y_after_40 : decode prog_11_method_3_code 40 = .ok (.aload_n 0, 1) := by decide +kernel
theorem d_Y_after_41 : decode prog_11_method_3_code 41 = .ok (.aload_n 0, 1) := by decide +kernel
theorem d_Y_after_42 : decode prog_11_method_3_code 42 = .ok (.getfield 89, 3) := by decide +kernel
theorem d_Y_after_45 : decode prog_11_method_3_code 45 = .ok (.iload_n 3, 1) := by decide +kernel
theorem d_Y_after_46 : decode prog_11_method_3_code 46 = .ok (.iaload, 1) := by decide +kernel
theorem d_Y_after_47 : decode prog_11_method_3_code 47 = .ok (.invokevirtual 92, 3) := by decide +kernel
theorem d_Y_after_50 : decode prog_11_method_3_code 50 = .ok (.istore 4, 2) := by decide +kernel
theorem d_Y_after_52 : decode prog_11_method_3_code 52 = .ok (.iload 4, 2) := by decide +kernel
theorem d_Y_after_54 : decode prog_11_method_3_code 54 = .ok (.iload_n 2, 1) := by decide +kernel
theorem d_Y_after_55 : decode prog_11_method_3_code 55 = .ok (.if_icmp .le 8, 3) := by decide +kernel
theorem d_Y_after_58 : decode prog_11_method_3_code 58 = .ok (.iload 4, 2) := by decide +kernel
theorem d_Y_after_60 : decode prog_11_method_3_code 60 = .ok (.goto 4, 3) := by decide +kernel
theorem d_Y_after_63 : decode prog_11_method_3_code 63 = .ok (.iload_n 2, 1) := by decide +kernel
theorem d_Y_after_64 : decode prog_11_method_3_code 64 = .ok (.istore_n 2, 1) := by decide +kernel
theorem d_Y_after_65 : decode prog_11_method_3_code 65 = .ok (.iinc 3 1, 3) := by decide +kernel
theorem d_Y_after_68 : decode prog_11_method_3_code 68 = .ok (.goto (-64), 3) := by decide +kernel
theorem d_Y_after_71 : decode prog_11_method_3_code 71 = .ok (.iload_n 2, 1) := by decide +kernel
theorem d_Y_after_72 : decode prog_11_method_3_code 72 = .ok (.ireturn, 1) := by decide +kernel
theorem d_Y_outstanding_0 : decode prog_11_method_5_code 0 = .ok (.aload_n 0, 1) := by decide +kernel
theorem d_Y_outstanding_1 : decode prog_11_method_5_code 1 = .ok (.getfield 50, 3) := by decide +kernel
theorem d_Y_outstanding_4 : decode prog_11_method_5_code 4 = .ok (.iload_n 1, 1) := by decide +kernel
theorem d_Y_outstanding_5 : decode prog_11_method_5_code 5 = .ok (.iaload, 1) := by decide +kernel
theorem d_Y_outstanding_6 : decode prog_11_method_5_code 6 = .ok (.ifCond .le 15, 3) := by decide +kernel
theorem d_Y_outstanding_9 : decode prog_11_method_5_code 9 = .ok (.aload_n 0, 1) := by decide +kernel
theorem d_Y_outstanding_10 : decode prog_11_method_5_code 10 = .ok (.iload_n 1, 1) := by decide +kernel
theorem d_Y_outstanding_11 : decode prog_11_method_5_code 11 = .ok (.invokevirtual 92, 3) := by decide +kernel
theorem d_Y_outstanding_14 : decode prog_11_method_5_code 14 = .ok (.ifCond .le 7, 3) := by decide +kernel
theorem d_Y_outstanding_17 : decode prog_11_method_5_code 17 = .ok (.iconst 1, 1) := by decide +kernel
theorem d_Y_outstanding_18 : decode prog_11_method_5_code 18 = .ok (.goto 4, 3) := by decide +kernel
theorem d_Y_outstanding_21 : decode prog_11_method_5_code 21 = .ok (.iconst 0, 1) := by decide +kernel
theorem d_Y_outstanding_22 : decode prog_11_method_5_code 22 = .ok (.istore_n 2, 1) := by decide +kernel
theorem d_Y_outstanding_23 : decode prog_11_method_5_code 23 = .ok (.iconst 0, 1) := by decide +kernel
theorem d_Y_outstanding_24 : decode prog_11_method_5_code 24 = .ok (.istore_n 3, 1) := by decide +kernel
theorem d_Y_outstanding_25 : decode prog_11_method_5_code 25 = .ok (.iload_n 3, 1) := by decide +kernel
theorem d_Y_outstanding_26 : decode prog_11_method_5_code 26 = .ok (.aload_n 0, 1) := by decide +kernel
theorem d_Y_outstanding_27 : decode prog_11_method_5_code 27 = .ok (.getfield 96, 3) := by decide +kernel
theorem d_Y_outstanding_30 : decode prog_11_method_5_code 30 = .ok (.if_icmp .ge 39, 3) := by decide +kernel
theorem d_Y_outstanding_33 : decode prog_11_method_5_code 33 = .ok (.iload_n 2, 1) := by decide +kernel
theorem d_Y_outstanding_34 : decode prog_11_method_5_code 34 = .ok (.ifCond .eq 35, 3) := by decide +kernel
theorem d_Y_outstanding_37 : decode prog_11_method_5_code 37 = .ok (.aload_n 0, 1) := by decide +kernel
theorem d_Y_outstanding_38 : decode prog_11_method_5_code 38 = .ok (.getfield 86, 3) := by decide +kernel
theorem d_Y_outstanding_41 : decode prog_11_method_5_code 41 = .ok (.iload_n 3, 1) := by decide +kernel
theorem d_Y_outstanding_42 : decode prog_11_method_5_code 42 = .ok (.iaload, 1) := by decide +kernel
theorem d_Y_outstanding_43 : decode prog_11_method_5_code 43 = .ok (.iconst 2, 1) := by decide +kernel
theorem d_Y_outstanding_44 : decode prog_11_method_5_code 44 = .ok (.if_icmp .eq 13, 3) := by decide +kernel
theorem d_Y_outstanding_47 : decode prog_11_method_5_code 47 = .ok (.aload_n 0, 1) := by decide +kernel
theorem d_Y_outstanding_48 : decode prog_11_method_5_code 48 = .ok (.getfield 89, 3) := by decide +kernel
theorem d_Y_outstanding_51 : decode prog_11_method_5_code 51 = .ok (.iload_n 3, 1) := by decide +kernel
theorem d_Y_outstanding_52 : decode prog_11_method_5_code 52 = .ok (.iaload, 1) := by decide +kernel
theorem d_Y_outstanding_53 : decode prog_11_method_5_code 53 = .ok (.iload_n 1, 1) := by decide +kernel
theorem d_Y_outstanding_54 : decode prog_11_method_5_code 54 = .ok (.if_icmp .eq 7, 3) := by decide +kernel
theorem d_Y_outstanding_57 : decode prog_11_method_5_code 57 = .ok (.iconst 1, 1) := by decide +kernel
theorem d_Y_outstanding_58 : decode prog_11_method_5_code 58 = .ok (.goto 4, 3) := by decide +kernel
theorem d_Y_outstanding_61 : decode prog_11_method_5_code 61 = .ok (.iconst 0, 1) := by decide +kernel
theorem d_Y_outstanding_62 : decode prog_11_method_5_code 62 = .ok (.istore_n 2, 1) := by decide +kernel
theorem d_Y_outstanding_63 : decode prog_11_method_5_code 63 = .ok (.iinc 3 1, 3) := by decide +kernel
theorem d_Y_outstanding_66 : decode prog_11_method_5_code 66 = .ok (.goto (-41), 3) := by decide +kernel
theorem d_Y_outstanding_69 : decode prog_11_method_5_code 69 = .ok (.iload_n 2, 1) := by decide +kernel
theorem d_Y_outstanding_70 : decode prog_11_method_5_code 70 = .ok (.ireturn, 1) := by decide +kernel
theorem d_Y_risky_0 : decode prog_11_method_6_code 0 = .ok (.iconst 0, 1) := by decide +kernel
theorem d_Y_risky_1 : decode prog_11_method_6_code 1 = .ok (.istore_n 3, 1) := by decide +kernel
theorem d_Y_risky_2 : decode prog_11_method_6_code 2 = .ok (.iconst 0, 1) := by decide +kernel
theorem d_Y_risky_3 : decode prog_11_method_6_code 3 = .ok (.istore 4, 2) := by decide +kernel
theorem d_Y_risky_5 : decode prog_11_method_6_code 5 = .ok (.iload 4, 2) := by decide +kernel
theorem d_Y_risky_7 : decode prog_11_method_6_code 7 = .ok (.aload_n 0, 1) := by decide +kernel
theorem d_Y_risky_8 : decode prog_11_method_6_code 8 = .ok (.getfield 100, 3) := by decide +kernel
theorem d_Y_risky_11 : decode prog_11_method_6_code 11 = .ok (.if_icmp .ge 42, 3) := by decide +kernel
theorem d_Y_risky_14 : decode prog_11_method_6_code 14 = .ok (.iload 4, 2) := by decide +kernel
theorem d_Y_risky_16 : decode prog_11_method_6_code 16 = .ok (.iload_n 2, 1) := by decide +kernel
theorem d_Y_risky_17 : decode prog_11_method_6_code 17 = .ok (.if_icmp .eq 28, 3) := by decide +kernel
theorem d_Y_risky_20 : decode prog_11_method_6_code 20 = .ok (.aload_n 0, 1) := by decide +kernel
theorem d_Y_risky_21 : decode prog_11_method_6_code 21 = .ok (.iload 4, 2) := by decide +kernel
theorem d_Y_risky_23 : decode prog_11_method_6_code 23 = .ok (.invokevirtual 92, 3) := by decide +kernel
theorem d_Y_risky_26 : decode prog_11_method_6_code 26 = .ok (.iload_n 1, 1) := by decide +kernel
theorem d_Y_risky_27 : decode prog_11_method_6_code 27 = .ok (.if_icmp .le 18, 3) := by decide +kernel
theorem d_Y_risky_30 : decode prog_11_method_6_code 30 = .ok (.aload_n 0, 1) := by decide +kernel
theorem d_Y_risky_31 : decode prog_11_method_6_code 31 = .ok (.iload 4, 2) := by decide +kernel
theorem d_Y_risky_33 : decode prog_11_method_6_code 33 = .ok (.invokevirtual 103, 3) := by decide +kernel
theorem d_Y_risky_36 : decode prog_11_method_6_code 36 = .ok (.ifCond .eq 9, 3) := by decide +kernel
theorem d_Y_risky_39 : decode prog_11_method_6_code 39 = .ok (.iload_n 3, 1) := by decide +kernel
theorem d_Y_risky_40 : decode prog_11_method_6_code 40 = .ok (.iconst 1, 1) := by decide +kernel
theorem d_Y_risky_41 : decode prog_11_method_6_code 41 = .ok (.iadd, 1) := by decide +kernel
theorem d_Y_risky_42 : decode prog_11_method_6_code 42 = .ok (.goto 4, 3) := by decide +kernel
theorem d_Y_risky_45 : decode prog_11_method_6_code 45 = .ok (.iload_n 3, 1) := by decide +kernel
theorem d_Y_risky_46 : decode prog_11_method_6_code 46 = .ok (.istore_n 3, 1) := by decide +kernel
theorem d_Y_risky_47 : decode prog_11_method_6_code 47 = .ok (.iinc 4 1, 3) := by decide +kernel
theorem d_Y_risky_50 : decode prog_11_method_6_code 50 = .ok (.goto (-45), 3) := by decide +kernel
theorem d_Y_risky_53 : decode prog_11_method_6_code 53 = .ok (.iload_n 3, 1) := by decide +kernel
theorem d_Y_risky_54 : decode prog_11_method_6_code 54 = .ok (.ireturn, 1) := by decide +kernel
theorem d_Y_uses_0 : decode prog_11_method_7_code 0 = .ok (.iconst 0, 1) := by decide +kernel
theorem d_Y_uses_1 : decode prog_11_method_7_code 1 = .ok (.istore_n 3, 1) := by decide +kernel
theorem d_Y_uses_2 : decode prog_11_method_7_code 2 = .ok (.iconst 0, 1) := by decide +kernel
theorem d_Y_uses_3 : decode prog_11_method_7_code 3 = .ok (.istore 4, 2) := by decide +kernel
theorem d_Y_uses_5 : decode prog_11_method_7_code 5 = .ok (.iload 4, 2) := by decide +kernel
theorem d_Y_uses_7 : decode prog_11_method_7_code 7 = .ok (.aload_n 0, 1) := by decide +kernel
theorem d_Y_uses_8 : decode prog_11_method_7_code 8 = .ok (.getfield 100, 3) := by decide +kernel
theorem d_Y_uses_11 : decode prog_11_method_7_code 11 = .ok (.if_icmp .ge 78, 3) := by decide +kernel
theorem d_Y_uses_14 : decode prog_11_method_7_code 14 = .ok (.iload 4, 2) := by decide +kernel
theorem d_Y_uses_16 : decode prog_11_method_7_code 16 = .ok (.iload_n 2, 1) := by decide +kernel
theorem d_Y_uses_17 : decode prog_11_method_7_code 17 = .ok (.if_icmp .eq 12, 3) := by decide +kernel
theorem d_Y_uses_20 : decode prog_11_method_7_code 20 = .ok (.aload_n 0, 1) := by decide +kernel
theorem d_Y_uses_21 : decode prog_11_method_7_code 21 = .ok (.iload 4, 2) := by decide +kernel
theorem d_Y_uses_23 : decode prog_11_method_7_code 23 = .ok (.invokevirtual 103, 3) := by decide +kernel
theorem d_Y_uses_26 : decode prog_11_method_7_code 26 = .ok (.ifCond .eq 7, 3) := by decide +kernel
theorem d_Y_uses_29 : decode prog_11_method_7_code 29 = .ok (.iconst 1, 1) := by decide +kernel
theorem d_Y_uses_30 : decode prog_11_method_7_code 30 = .ok (.goto 4, 3) := by decide +kernel
theorem d_Y_uses_33 : decode prog_11_method_7_code 33 = .ok (.iconst 0, 1) := by decide +kernel
theorem d_Y_uses_34 : decode prog_11_method_7_code 34 = .ok (.istore 5, 2) := by decide +kernel
theorem d_Y_uses_36 : decode prog_11_method_7_code 36 = .ok (.iconst 3, 1) := by decide +kernel
theorem d_Y_uses_37 : decode prog_11_method_7_code 37 = .ok (.iload 4, 2) := by decide +kernel
theorem d_Y_uses_39 : decode prog_11_method_7_code 39 = .ok (.imul, 1) := by decide +kernel
theorem d_Y_uses_40 : decode prog_11_method_7_code 40 = .ok (.istore 6, 2) := by decide +kernel
theorem d_Y_uses_42 : decode prog_11_method_7_code 42 = .ok (.iload 6, 2) := by decide +kernel
theorem d_Y_uses_44 : decode prog_11_method_7_code 44 = .ok (.iconst 3, 1) := by decide +kernel
theorem d_Y_uses_45 : decode prog_11_method_7_code 45 = .ok (.iload 4, 2) := by decide +kernel
theorem d_Y_uses_47 : decode prog_11_method_7_code 47 = .ok (.imul, 1) := by decide +kernel
theorem d_Y_uses_48 : decode prog_11_method_7_code 48 = .ok (.iconst 3, 1) := by decide +kernel
theorem d_Y_uses_49 : decode prog_11_method_7_code 49 = .ok (.iadd, 1) := by decide +kernel
theorem d_Y_uses_50 : decode prog_11_method_7_code 50 = .ok (.if_icmp .ge 33, 3) := by decide +kernel
theorem d_Y_uses_53 : decode prog_11_method_7_code 53 = .ok (.iload 5, 2) := by decide +kernel
theorem d_Y_uses_55 : decode prog_11_method_7_code 55 = .ok (.ifCond .eq 28, 3) := by decide +kernel
theorem d_Y_uses_58 : decode prog_11_method_7_code 58 = .ok (.aload_n 0, 1) := by decide +kernel
theorem d_Y_uses_59 : decode prog_11_method_7_code 59 = .ok (.getfield 62, 3) := by decide +kernel
theorem d_Y_uses_62 : decode prog_11_method_7_code 62 = .ok (.iload 6, 2) := by decide +kernel
theorem d_Y_uses_64 : decode prog_11_method_7_code 64 = .ok (.iaload, 1) := by decide +kernel
theorem d_Y_uses_65 : decode prog_11_method_7_code 65 = .ok (.iload_n 1, 1) := by decide +kernel
theorem d_Y_uses_66 : decode prog_11_method_7_code 66 = .ok (.if_icmp .ne 9, 3) := by decide +kernel
theorem d_Y_uses_69 : decode prog_11_method_7_code 69 = .ok (.iload_n 3, 1) := by decide +kernel
theorem d_Y_uses_70 : decode prog_11_method_7_code 70 = .ok (.iconst 1, 1) := by decide +kernel
theorem d_Y_uses_71 : decode prog_11_method_7_code 71 = .ok (.iadd, 1) := by decide +kernel
theorem d_Y_uses_72 : decode prog_11_method_7_code 72 = .ok (.goto 4, 3) := by decide +kernel
theorem d_Y_uses_75 : decode prog_11_method_7_code 75 = .ok (.iload_n 3, 1) := by decide +kernel
theorem d_Y_uses_76 : decode prog_11_method_7_code 76 = .ok (.istore_n 3, 1) := by decide +kernel
theorem d_Y_uses_77 : decode prog_11_method_7_code 77 = .ok (.iinc 6 1, 3) := by decide +kernel
theorem d_Y_uses_80 : decode prog_11_method_7_code 80 = .ok (.goto (-38), 3) := by decide +kernel
theorem d_Y_uses_83 : decode prog_11_method_7_code 83 = .ok (.iinc 4 1, 3) := by decide +kernel
theorem d_Y_uses_86 : decode prog_11_method_7_code 86 = .ok (.goto (-81), 3) := by decide +kernel
theorem d_Y_uses_89 : decode prog_11_method_7_code 89 = .ok (.iload_n 3, 1) := by decide +kernel
theorem d_Y_uses_90 : decode prog_11_method_7_code 90 = .ok (.ireturn, 1) := by decide +kernel
theorem d_Y_oldest_0 : decode prog_11_method_8_code 0 = .ok (.aload_n 0, 1) := by decide +kernel
theorem d_Y_oldest_1 : decode prog_11_method_8_code 1 = .ok (.getfield 107, 3) := by decide +kernel
theorem d_Y_oldest_4 : decode prog_11_method_8_code 4 = .ok (.iconst 5, 1) := by decide +kernel
theorem d_Y_oldest_5 : decode prog_11_method_8_code 5 = .ok (.if_icmp .le 12, 3) := by decide +kernel
theorem d_Y_oldest_8 : decode prog_11_method_8_code 8 = .ok (.aload_n 0, 1) := by decide +kernel
theorem d_Y_oldest_9 : decode prog_11_method_8_code 9 = .ok (.getfield 107, 3) := by decide +kernel
theorem d_Y_oldest_12 : decode prog_11_method_8_code 12 = .ok (.iconst 5, 1) := by decide +kernel
theorem d_Y_oldest_13 : decode prog_11_method_8_code 13 = .ok (.isub, 1) := by decide +kernel
theorem d_Y_oldest_14 : decode prog_11_method_8_code 14 = .ok (.goto 4, 3) := by decide +kernel
theorem d_Y_oldest_17 : decode prog_11_method_8_code 17 = .ok (.iconst 0, 1) := by decide +kernel
theorem d_Y_oldest_18 : decode prog_11_method_8_code 18 = .ok (.ireturn, 1) := by decide +kernel
theorem d_Y_tell_0 : decode prog_11_method_9_code 0 = .ok (.aload_n 0, 1) := by decide +kernel
theorem d_Y_tell_1 : decode prog_11_method_9_code 1 = .ok (.getfield 86, 3) := by decide +kernel
theorem d_Y_tell_4 : decode prog_11_method_9_code 4 = .ok (.aload_n 0, 1) := by decide +kernel
theorem d_Y_tell_5 : decode prog_11_method_9_code 5 = .ok (.getfield 110, 3) := by decide +kernel
theorem d_Y_tell_8 : decode prog_11_method_9_code 8 = .ok (.iload_n 1, 1) := by decide +kernel
theorem d_Y_tell_9 : decode prog_11_method_9_code 9 = .ok (.iastore, 1) := by decide +kernel
theorem d_Y_tell_10 : decode prog_11_method_9_code 10 = .ok (.aload_n 0, 1) := by decide +kernel
theorem d_Y_tell_11 : decode prog_11_method_9_code 11 = .ok (.getfield 89, 3) := by decide +kernel
theorem d_Y_tell_14 : decode prog_11_method_9_code 14 = .ok (.aload_n 0, 1) := by decide +kernel
theorem d_Y_tell_15 : decode prog_11_method_9_code 15 = .ok (.getfield 110, 3) := by decide +kernel
theorem d_Y_tell_18 : decode prog_11_method_9_code 18 = .ok (.iload_n 2, 1) := by decide +kernel
theorem d_Y_tell_19 : decode prog_11_method_9_code 19 = .ok (.iastore, 1) := by decide +kernel
theorem d_Y_tell_20 : decode prog_11_method_9_code 20 = .ok (.aload_n 0, 1) := by decide +kernel
theorem d_Y_tell_21 : decode prog_11_method_9_code 21 = .ok (.dup, 1) := by decide +kernel
theorem d_Y_tell_22 : decode prog_11_method_9_code 22 = .ok (.getfield 110, 3) := by decide +kernel
theorem d_Y_tell_25 : decode prog_11_method_9_code 25 = .ok (.iconst 1, 1) := by decide +kernel
theorem d_Y_tell_26 : decode prog_11_method_9_code 26 = .ok (.iadd, 1) := by decide +kernel
theorem d_Y_tell_27 : decode prog_11_method_9_code 27 = .ok (.putfield 110, 3) := by decide +kernel
theorem d_Y_tell_30 : decode prog_11_method_9_code 30 = .ok (.return_, 1) := by decide +kernel
theorem d_Y_write_0 : decode prog_11_method_10_code 0 = .ok (.aload_n 0, 1) := by decide +kernel
theorem d_Y_write_1 : decode prog_11_method_10_code 1 = .ok (.dup, 1) := by decide +kernel
theorem d_Y_write_2 : decode prog_11_method_10_code 2 = .ok (.getfield 113, 3) := by decide +kernel
theorem d_Y_write_5 : decode prog_11_method_10_code 5 = .ok (.iconst 1, 1) := by decide +kernel
theorem d_Y_write_6 : decode prog_11_method_10_code 6 = .ok (.iadd, 1) := by decide +kernel
theorem d_Y_write_7 : decode prog_11_method_10_code 7 = .ok (.putfield 113, 3) := by decide +kernel
theorem d_Y_write_10 : decode prog_11_method_10_code 10 = .ok (.aload_n 0, 1) := by decide +kernel
theorem d_Y_write_11 : decode prog_11_method_10_code 11 = .ok (.getfield 7, 3) := by decide +kernel
theorem d_Y_write_14 : decode prog_11_method_10_code 14 = .ok (.iload_n 1, 1) := by decide +kernel
theorem d_Y_write_15 : decode prog_11_method_10_code 15 = .ok (.iconst 1, 1) := by decide +kernel
theorem d_Y_write_16 : decode prog_11_method_10_code 16 = .ok (.bastore, 1) := by decide +kernel
theorem d_Y_write_17 : decode prog_11_method_10_code 17 = .ok (.aload_n 0, 1) := by decide +kernel
theorem d_Y_write_18 : decode prog_11_method_10_code 18 = .ok (.getfield 13, 3) := by decide +kernel
theorem d_Y_write_21 : decode prog_11_method_10_code 21 = .ok (.iload_n 1, 1) := by decide +kernel
theorem d_Y_write_22 : decode prog_11_method_10_code 22 = .ok (.iload_n 2, 1) := by decide +kernel
theorem d_Y_write_23 : decode prog_11_method_10_code 23 = .ok (.iastore, 1) := by decide +kernel
theorem d_Y_write_24 : decode prog_11_method_10_code 24 = .ok (.aload_n 0, 1) := by decide +kernel
theorem d_Y_write_25 : decode prog_11_method_10_code 25 = .ok (.getfield 17, 3) := by decide +kernel
theorem d_Y_write_28 : decode prog_11_method_10_code 28 = .ok (.iload_n 1, 1) := by decide +kernel
theorem d_Y_write_29 : decode prog_11_method_10_code 29 = .ok (.iload_n 3, 1) := by decide +kernel
theorem d_Y_write_30 : decode prog_11_method_10_code 30 = .ok (.iastore, 1) := by decide +kernel
theorem d_Y_write_31 : decode prog_11_method_10_code 31 = .ok (.aload_n 0, 1) := by decide +kernel
theorem d_Y_write_32 : decode prog_11_method_10_code 32 = .ok (.getfield 20, 3) := by decide +kernel
theorem d_Y_write_35 : decode prog_11_method_10_code 35 = .ok (.iload_n 1, 1) := by decide +kernel
theorem d_Y_write_36 : decode prog_11_method_10_code 36 = .ok (.aload_n 0, 1) := by decide +kernel
theorem d_Y_write_37 : decode prog_11_method_10_code 37 = .ok (.getfield 113, 3) := by decide +kernel
theorem d_Y_write_40 : decode prog_11_method_10_code 40 = .ok (.iastore, 1) := by decide +kernel
theorem d_Y_write_41 : decode prog_11_method_10_code 41 = .ok (.aload_n 0, 1) := by decide +kernel
theorem d_Y_write_42 : decode prog_11_method_10_code 42 = .ok (.getfield 113, 3) := by decide +kernel
theorem d_Y_write_45 : decode prog_11_method_10_code 45 = .ok (.ireturn, 1) := by decide +kernel
theorem d_Y_put_0 : decode prog_11_method_11_code 0 = .ok (.iload_n 1, 1) := by decide +kernel
theorem d_Y_put_1 : decode prog_11_method_11_code 1 = .ok (.iconst 5, 1) := by decide +kernel
theorem d_Y_put_2 : decode prog_11_method_11_code 2 = .ok (.invokestatic 116, 3) := by decide +kernel
theorem d_Y_put_5 : decode prog_11_method_11_code 5 = .ok (.ifCond .eq 23, 3) := by decide +kernel
theorem d_Y_put_8 : decode prog_11_method_11_code 8 = .ok (.iload_n 3, 1) := by decide +kernel
theorem d_Y_put_9 : decode prog_11_method_11_code 9 = .ok (.sipush 1000, 3) := by decide +kernel
theorem d_Y_put_12 : decode prog_11_method_11_code 12 = .ok (.invokestatic 116, 3) := by decide +kernel
theorem d_Y_put_15 : decode prog_11_method_11_code 15 = .ok (.ifCond .eq 13, 3) := by decide +kernel
theorem d_Y_put_18 : decode prog_11_method_11_code 18 = .ok (.aload_n 0, 1) := by decide +kernel
theorem d_Y_put_19 : decode prog_11_method_11_code 19 = .ok (.iload_n 1, 1) := by decide +kernel
theorem d_Y_put_20 : decode prog_11_method_11_code 20 = .ok (.iload_n 2, 1) := by decide +kernel
theorem d_Y_put_21 : decode prog_11_method_11_code 21 = .ok (.iload_n 3, 1) := by decide +kernel
theorem d_Y_put_22 : decode prog_11_method_11_code 22 = .ok (.invokevirtual 120, 3) := by decide +kernel
theorem d_Y_put_25 : decode prog_11_method_11_code 25 = .ok (.goto 4, 3) := by decide +kernel
theorem d_Y_put_28 : decode prog_11_method_11_code 28 = .ok (.iconst (-1), 1) := by decide +kernel
theorem d_Y_put_29 : decode prog_11_method_11_code 29 = .ok (.ireturn, 1) := by decide +kernel
theorem d_Y_drop_0 : decode prog_11_method_12_code 0 = .ok (.iload_n 1, 1) := by decide +kernel
theorem d_Y_drop_1 : decode prog_11_method_12_code 1 = .ok (.iconst 5, 1) := by decide +kernel
theorem d_Y_drop_2 : decode prog_11_method_12_code 2 = .ok (.invokestatic 116, 3) := by decide +kernel
theorem d_Y_drop_5 : decode prog_11_method_12_code 5 = .ok (.ifCond .eq 12, 3) := by decide +kernel
theorem d_Y_drop_8 : decode prog_11_method_12_code 8 = .ok (.aload_n 0, 1) := by decide +kernel
theorem d_Y_drop_9 : decode prog_11_method_12_code 9 = .ok (.getfield 7, 3) := by decide +kernel
theorem d_Y_drop_12 : decode prog_11_method_12_code 12 = .ok (.iload_n 1, 1) := by decide +kernel
theorem d_Y_drop_13 : decode prog_11_method_12_code 13 = .ok (.baload, 1) := by decide +kernel
theorem d_Y_drop_14 : decode prog_11_method_12_code 14 = .ok (.ifCond .ne 5, 3) := by decide +kernel
theorem d_Y_drop_17 : decode prog_11_method_12_code 17 = .ok (.iconst 0, 1) := by decide +kernel
theorem d_Y_drop_18 : decode prog_11_method_12_code 18 = .ok (.ireturn, 1) := by decide +kernel
theorem d_Y_drop_19 : decode prog_11_method_12_code 19 = .ok (.aload_n 0, 1) := by decide +kernel
theorem d_Y_drop_20 : decode prog_11_method_12_code 20 = .ok (.getfield 7, 3) := by decide +kernel
theorem d_Y_drop_23 : decode prog_11_method_12_code 23 = .ok (.iload_n 1, 1) := by decide +kernel
theorem d_Y_drop_24 : decode prog_11_method_12_code 24 = .ok (.iconst 0, 1) := by decide +kernel
theorem d_Y_drop_25 : decode prog_11_method_12_code 25 = .ok (.bastore, 1) := by decide +kernel
theorem d_Y_drop_26 : decode prog_11_method_12_code 26 = .ok (.iconst 1, 1) := by decide +kernel
theorem d_Y_drop_27 : decode prog_11_method_12_code 27 = .ok (.ireturn, 1) := by decide +kernel
theorem d_Y_field_0 : decode prog_11_method_13_code 0 = .ok (.aload_n 0, 1) := by decide +kernel
theorem d_Y_field_1 : decode prog_11_method_13_code 1 = .ok (.aload_n 0, 1) := by decide +kernel
theorem d_Y_field_2 : decode prog_11_method_13_code 2 = .ok (.getfield 96, 3) := by decide +kernel
theorem d_Y_field_5 : decode prog_11_method_13_code 5 = .ok (.invokevirtual 124, 3) := by decide +kernel
theorem d_Y_field_8 : decode prog_11_method_13_code 8 = .ok (.istore 4, 2) := by decide +kernel
theorem d_Y_field_10 : decode prog_11_method_13_code 10 = .ok (.aload_n 0, 1) := by decide +kernel
theorem d_Y_field_11 : decode prog_11_method_13_code 11 = .ok (.iload_n 1, 1) := by decide +kernel
theorem d_Y_field_12 : decode prog_11_method_13_code 12 = .ok (.invokevirtual 92, 3) := by decide +kernel
theorem d_Y_field_15 : decode prog_11_method_13_code 15 = .ok (.iload 4, 2) := by decide +kernel
theorem d_Y_field_17 : decode prog_11_method_13_code 17 = .ok (.if_icmp .gt 14, 3) := by decide +kernel
theorem d_Y_field_20 : decode prog_11_method_13_code 20 = .ok (.aload_n 0, 1) := by decide +kernel
theorem d_Y_field_21 : decode prog_11_method_13_code 21 = .ok (.iload 4, 2) := by decide +kernel
theorem d_Y_field_23 : decode prog_11_method_13_code 23 = .ok (.iload_n 1, 1) := by decide +kernel
theorem d_Y_field_24 : decode prog_11_method_13_code 24 = .ok (.invokevirtual 127, 3) := by decide +kernel
theorem d_Y_field_27 : decode prog_11_method_13_code 27 = .ok (.iconst 2, 1) := by decide +kernel
theorem d_Y_field_28 : decode prog_11_method_13_code 28 = .ok (.if_icmp .ge 7, 3) := by decide +kernel
theorem d_Y_field_31 : decode prog_11_method_13_code 31 = .ok (.iconst 1, 1) := by decide +kernel
theorem d_Y_field_32 : decode prog_11_method_13_code 32 = .ok (.goto 4, 3) := by decide +kernel
theorem d_Y_field_35 : decode prog_11_method_13_code 35 = .ok (.iconst 0, 1) := by decide +kernel
theorem d_Y_field_36 : decode prog_11_method_13_code 36 = .ok (.istore 5, 2) := by decide +kernel
theorem d_Y_field_38 : decode prog_11_method_13_code 38 = .ok (.iconst (-1), 1) := by decide +kernel
theorem d_Y_field_39 : decode prog_11_method_13_code 39 = .ok (.istore 6, 2) := by decide +kernel
theorem d_Y_field_41 : decode prog_11_method_13_code 41 = .ok (.aload_n 0, 1) := by decide +kernel
theorem d_Y_field_42 : decode prog_11_method_13_code 42 = .ok (.invokevirtual 131, 3) := by decide +kernel
theorem d_Y_field_45 : decode prog_11_method_13_code 45 = .ok (.istore 7, 2) := by decide +kernel
theorem d_Y_field_47 : decode prog_11_method_13_code 47 = .ok (.iload 7, 2) := by decide +kernel
theorem d_Y_field_49 : decode prog_11_method_13_code 49 = .ok (.aload_n 0, 1) := by decide +kernel
theorem d_Y_field_50 : decode prog_11_method_13_code 50 = .ok (.getfield 107, 3) := by decide +kernel
theorem d_Y_field_53 : decode prog_11_method_13_code 53 = .ok (.if_icmp .ge 40, 3) := by decide +kernel
theorem d_Y_field_56 : decode prog_11_method_13_code 56 = .ok (.aload_n 0, 1) := by decide +kernel
theorem d_Y_field_57 : decode prog_11_method_13_code 57 = .ok (.getfield 80, 3) := by decide +kernel
theorem d_Y_field_60 : decode prog_11_method_13_code 60 = .ok (.iload 7, 2) := by decide +kernel
theorem d_Y_field_62 : decode prog_11_method_13_code 62 = .ok (.iaload, 1) := by decide +kernel
theorem d_Y_field_63 : decode prog_11_method_13_code 63 = .ok (.iload_n 2, 1) := by decide +kernel
theorem d_Y_field_64 : decode prog_11_method_13_code 64 = .ok (.if_icmp .ne 19, 3) := by decide +kernel
theorem d_Y_field_67 : decode prog_11_method_13_code 67 = .ok (.aload_n 0, 1) := by decide +kernel
theorem d_Y_field_68 : decode prog_11_method_13_code 68 = .ok (.getfield 83, 3) := by decide +kernel
theorem d_Y_field_71 : decode prog_11_method_13_code 71 = .ok (.iload 7, 2) := by decide +kernel
theorem d_Y_field_73 : decode prog_11_method_13_code 73 = .ok (.iaload, 1) := by decide +kernel
theorem d_Y_field_74 : decode prog_11_method_13_code 74 = .ok (.iload_n 3, 1) := by decide +kernel
theorem d_Y_field_75 : decode prog_11_method_13_code 75 = .ok (.if_icmp .ne 8, 3) := by decide +kernel
theorem d_Y_field_78 : decode prog_11_method_13_code 78 = .ok (.iload 7, 2) := by decide +kernel
theorem d_Y_field_80 : decode prog_11_method_13_code 80 = .ok (.goto 5, 3) := by decide +kernel
theorem d_Y_field_83 : decode prog_11_method_13_code 83 = .ok (.iload 6, 2) := by decide +kernel
theorem d_Y_field_85 : decode prog_11_method_13_code 85 = .ok (.istore 6, 2) := by decide +kernel
theorem d_Y_field_87 : decode prog_11_method_13_code 87 = .ok (.iinc 7 1, 3) := by decide +kernel
theorem d_Y_field_90 : decode prog_11_method_13_code 90 = .ok (.goto (-43), 3) := by decide +kernel
theorem d_Y_field_93 : decode prog_11_method_13_code 93 = .ok (.aload_n 0, 1) := by decide +kernel
theorem d_Y_field_94 : decode prog_11_method_13_code 94 = .ok (.invokevirtual 131, 3) := by decide +kernel
theorem d_Y_field_97 : decode prog_11_method_13_code 97 = .ok (.istore 7, 2) := by decide +kernel
theorem d_Y_field_99 : decode prog_11_method_13_code 99 = .ok (.aload_n 0, 1) := by decide +kernel
theorem d_Y_field_100 : decode prog_11_method_13_code 100 = .ok (.getfield 107, 3) := by decide +kernel
theorem d_Y_field_103 : decode prog_11_method_13_code 103 = .ok (.iconst 5, 1) := by decide +kernel
theorem d_Y_field_104 : decode prog_11_method_13_code 104 = .ok (.if_icmp .lt 20, 3) := by decide +kernel
theorem d_Y_field_107 : decode prog_11_method_13_code 107 = .ok (.iload 7, 2) := by decide +kernel
theorem d_Y_field_109 : decode prog_11_method_13_code 109 = .ok (.iload 4, 2) := by decide +kernel
theorem d_Y_field_111 : decode prog_11_method_13_code 111 = .ok (.if_icmp .ge 17, 3) := by decide +kernel
theorem d_Y_field_114 : decode prog_11_method_13_code 114 = .ok (.aload_n 0, 1) := by decide +kernel
theorem d_Y_field_115 : decode prog_11_method_13_code 115 = .ok (.iload 7, 2) := by decide +kernel
theorem d_Y_field_117 : decode prog_11_method_13_code 117 = .ok (.iload_n 1, 1) := by decide +kernel
theorem d_Y_field_118 : decode prog_11_method_13_code 118 = .ok (.invokevirtual 135, 3) := by decide +kernel
theorem d_Y_field_121 : decode prog_11_method_13_code 121 = .ok (.ifCond .ne 7, 3) := by decide +kernel
theorem d_Y_field_124 : decode prog_11_method_13_code 124 = .ok (.iconst 1, 1) := by decide +kernel
theorem d_Y_field_125 : decode prog_11_method_13_code 125 = .ok (.goto 4, 3) := by decide +kernel
theorem d_Y_field_128 : decode prog_11_method_13_code 128 = .ok (.iconst 0, 1) := by decide +kernel
theorem d_Y_field_129 : decode prog_11_method_13_code 129 = .ok (.istore 8, 2) := by decide +kernel
theorem d_Y_field_131 : decode prog_11_method_13_code 131 = .ok (.iload 6, 2) := by decide +kernel
theorem d_Y_field_133 : decode prog_11_method_13_code 133 = .ok (.ifCond .lt 40, 3) := by decide +kernel
theorem d_Y_field_136 : decode prog_11_method_13_code 136 = .ok (.iload 6, 2) := by decide +kernel
theorem d_Y_field_138 : decode prog_11_method_13_code 138 = .ok (.iload 4, 2) := by decide +kernel
theorem d_Y_field_140 : decode prog_11_method_13_code 140 = .ok (.if_icmp .lt 8, 3) := by decide +kernel
theorem d_Y_field_143 : decode prog_11_method_13_code 143 = .ok (.iload 5, 2) := by decide +kernel
theorem d_Y_field_145 : decode prog_11_method_13_code 145 = .ok (.ifCond .eq 28, 3) := by decide +kernel
theorem d_Y_field_148 : decode prog_11_method_13_code 148 = .ok (.aload_n 0, 1) := by decide +kernel
theorem d_Y_field_149 : decode prog_11_method_13_code 149 = .ok (.getfield 62, 3) := by decide +kernel
theorem d_Y_field_152 : decode prog_11_method_13_code 152 = .ok (.iconst 3, 1) := by decide +kernel
theorem d_Y_field_153 : decode prog_11_method_13_code 153 = .ok (.iload_n 1, 1) := by decide +kernel
theorem d_Y_field_154 : decode prog_11_method_13_code 154 = .ok (.imul, 1) := by decide +kernel
theorem d_Y_field_155 : decode prog_11_method_13_code 155 = .ok (.iload_n 2, 1) := by decide +kernel
theorem d_Y_field_156 : decode prog_11_method_13_code 156 = .ok (.iadd, 1) := by decide +kernel
theorem d_Y_field_157 : decode prog_11_method_13_code 157 = .ok (.iload 6, 2) := by decide +kernel
theorem d_Y_field_159 : decode prog_11_method_13_code 159 = .ok (.iastore, 1) := by decide +kernel
theorem d_Y_field_160 : decode prog_11_method_13_code 160 = .ok (.aload_n 0, 1) := by decide +kernel
theorem d_Y_field_161 : decode prog_11_method_13_code 161 = .ok (.dup, 1) := by decide +kernel
theorem d_Y_field_162 : decode prog_11_method_13_code 162 = .ok (.getfield 138, 3) := by decide +kernel
theorem d_Y_field_165 : decode prog_11_method_13_code 165 = .ok (.iconst 1, 1) := by decide +kernel
theorem d_Y_field_166 : decode prog_11_method_13_code 166 = .ok (.iadd, 1) := by decide +kernel
theorem d_Y_field_167 : decode prog_11_method_13_code 167 = .ok (.putfield 138, 3) := by decide +kernel
theorem d_Y_field_170 : decode prog_11_method_13_code 170 = .ok (.goto 85, 3) := by decide +kernel
theorem d_Y_field_173 : decode prog_11_method_13_code 173 = .ok (.iload 6, 2) := by decide +kernel
theorem d_Y_field_175 : decode prog_11_method_13_code 175 = .ok (.ifCond .ge 70, 3) := by decide +kernel
theorem d_Y_field_178 : decode prog_11_method_13_code 178 = .ok (.iload 5, 2) := by decide +kernel
theorem d_Y_field_180 : decode prog_11_method_13_code 180 = .ok (.ifCond .eq 65, 3) := by decide +kernel
theorem d_Y_field_183 : decode prog_11_method_13_code 183 = .ok (.iload 8, 2) := by decide +kernel
theorem d_Y_field_185 : decode prog_11_method_13_code 185 = .ok (.ifCond .eq 60, 3) := by decide +kernel
theorem d_Y_field_188 : decode prog_11_method_13_code 188 = .ok (.aload_n 0, 1) := by decide +kernel
theorem d_Y_field_189 : decode prog_11_method_13_code 189 = .ok (.getfield 80, 3) := by decide +kernel
theorem d_Y_field_192 : decode prog_11_method_13_code 192 = .ok (.aload_n 0, 1) := by decide +kernel
theorem d_Y_field_193 : decode prog_11_method_13_code 193 = .ok (.getfield 107, 3) := by decide +kernel
theorem d_Y_field_196 : decode prog_11_method_13_code 196 = .ok (.iload_n 2, 1) := by decide +kernel
theorem d_Y_field_197 : decode prog_11_method_13_code 197 = .ok (.iastore, 1) := by decide +kernel
theorem d_Y_field_198 : decode prog_11_method_13_code 198 = .ok (.aload_n 0, 1) := by decide +kernel
theorem d_Y_field_199 : decode prog_11_method_13_code 199 = .ok (.getfield 83, 3) := by decide +kernel
theorem d_Y_field_202 : decode prog_11_method_13_code 202 = .ok (.aload_n 0, 1) := by decide +kernel
theorem d_Y_field_203 : decode prog_11_method_13_code 203 = .ok (.getfield 107, 3) := by decide +kernel
theorem d_Y_field_206 : decode prog_11_method_13_code 206 = .ok (.iload_n 3, 1) := by decide +kernel
theorem d_Y_field_207 : decode prog_11_method_13_code 207 = .ok (.iastore, 1) := by decide +kernel
theorem d_Y_field_208 : decode prog_11_method_13_code 208 = .ok (.aload_n 0, 1) := by decide +kernel
theorem d_Y_field_209 : decode prog_11_method_13_code 209 = .ok (.getfield 62, 3) := by decide +kernel
theorem d_Y_field_212 : decode prog_11_method_13_code 212 = .ok (.iconst 3, 1) := by decide +kernel
theorem d_Y_field_213 : decode prog_11_method_13_code 213 = .ok (.iload_n 1, 1) := by decide +kernel
theorem d_Y_field_214 : decode prog_11_method_13_code 214 = .ok (.imul, 1) := by decide +kernel
theorem d_Y_field_215 : decode prog_11_method_13_code 215 = .ok (.iload_n 2, 1) := by decide +kernel
theorem d_Y_field_216 : decode prog_11_method_13_code 216 = .ok (.iadd, 1) := by decide +kernel
theorem d_Y_field_217 : decode prog_11_method_13_code 217 = .ok (.aload_n 0, 1) := by decide +kernel
theorem d_Y_field_218 : decode prog_11_method_13_code 218 = .ok (.getfield 107, 3) := by decide +kernel
theorem d_Y_field_221 : decode prog_11_method_13_code 221 = .ok (.iastore, 1) := by decide +kernel
theorem d_Y_field_222 : decode prog_11_method_13_code 222 = .ok (.aload_n 0, 1) := by decide +kernel
theorem d_Y_field_223 : decode prog_11_method_13_code 223 = .ok (.dup, 1) := by decide +kernel
theorem d_Y_field_224 : decode prog_11_method_13_code 224 = .ok (.getfield 107, 3) := by decide +kernel
theorem d_Y_field_227 : decode prog_11_method_13_code 227 = .ok (.iconst 1, 1) := by decide +kernel
theorem d_Y_field_228 : decode prog_11_method_13_code 228 = .ok (.iadd, 1) := by decide +kernel
theorem d_Y_field_229 : decode prog_11_method_13_code 229 = .ok (.putfield 107, 3) := by decide +kernel
theorem d_Y_field_232 : decode prog_11_method_13_code 232 = .ok (.aload_n 0, 1) := by decide +kernel
theorem d_Y_field_233 : decode prog_11_method_13_code 233 = .ok (.dup, 1) := by decide +kernel
theorem d_Y_field_234 : decode prog_11_method_13_code 234 = .ok (.getfield 138, 3) := by decide +kernel
theorem d_Y_field_237 : decode prog_11_method_13_code 237 = .ok (.iconst 1, 1) := by decide +kernel
theorem d_Y_field_238 : decode prog_11_method_13_code 238 = .ok (.iadd, 1) := by decide +kernel
theorem d_Y_field_239 : decode prog_11_method_13_code 239 = .ok (.putfield 138, 3) := by decide +kernel
theorem d_Y_field_242 : decode prog_11_method_13_code 242 = .ok (.goto 13, 3) := by decide +kernel
theorem d_Y_field_245 : decode prog_11_method_13_code 245 = .ok (.aload_n 0, 1) := by decide +kernel
theorem d_Y_field_246 : decode prog_11_method_13_code 246 = .ok (.dup, 1) := by decide +kernel
theorem d_Y_field_247 : decode prog_11_method_13_code 247 = .ok (.getfield 141, 3) := by decide +kernel
theorem d_Y_field_250 : decode prog_11_method_13_code 250 = .ok (.iconst 1, 1) := by decide +kernel
theorem d_Y_field_251 : decode prog_11_method_13_code 251 = .ok (.iadd, 1) := by decide +kernel
theorem d_Y_field_252 : decode prog_11_method_13_code 252 = .ok (.putfield 141, 3) := by decide +kernel
theorem d_Y_field_255 : decode prog_11_method_13_code 255 = .ok (.return_, 1) := by decide +kernel
theorem d_Y_decide_0 : decode prog_11_method_14_code 0 = .ok (.aload_n 0, 1) := by decide +kernel
theorem d_Y_decide_1 : decode prog_11_method_14_code 1 = .ok (.getfield 26, 3) := by decide +kernel
theorem d_Y_decide_4 : decode prog_11_method_14_code 4 = .ok (.iload_n 1, 1) := by decide +kernel
theorem d_Y_decide_5 : decode prog_11_method_14_code 5 = .ok (.iaload, 1) := by decide +kernel
theorem d_Y_decide_6 : decode prog_11_method_14_code 6 = .ok (.istore_n 2, 1) := by decide +kernel
theorem d_Y_decide_7 : decode prog_11_method_14_code 7 = .ok (.aload_n 0, 1) := by decide +kernel
theorem d_Y_decide_8 : decode prog_11_method_14_code 8 = .ok (.getfield 23, 3) := by decide +kernel
theorem d_Y_decide_11 : decode prog_11_method_14_code 11 = .ok (.iload_n 1, 1) := by decide +kernel
theorem d_Y_decide_12 : decode prog_11_method_14_code 12 = .ok (.baload, 1) := by decide +kernel
theorem d_Y_decide_13 : decode prog_11_method_14_code 13 = .ok (.ifCond .ne 43, 3) := by decide +kernel
theorem d_Y_decide_16 : decode prog_11_method_14_code 16 = .ok (.aload_n 0, 1) := by decide +kernel
theorem d_Y_decide_17 : decode prog_11_method_14_code 17 = .ok (.getfield 7, 3) := by decide +kernel
theorem d_Y_decide_20 : decode prog_11_method_14_code 20 = .ok (.iload_n 2, 1) := by decide +kernel
theorem d_Y_decide_21 : decode prog_11_method_14_code 21 = .ok (.baload, 1) := by decide +kernel
theorem d_Y_decide_22 : decode prog_11_method_14_code 22 = .ok (.ifCond .ne 9, 3) := by decide +kernel
theorem d_Y_decide_25 : decode prog_11_method_14_code 25 = .ok (.sipush 404, 3) := by decide +kernel
theorem d_Y_decide_28 : decode prog_11_method_14_code 28 = .ok (.goto 27, 3) := by decide +kernel
theorem d_Y_decide_31 : decode prog_11_method_14_code 31 = .ok (.aload_n 0, 1) := by decide +kernel
theorem d_Y_decide_32 : decode prog_11_method_14_code 32 = .ok (.getfield 38, 3) := by decide +kernel
theorem d_Y_decide_35 : decode prog_11_method_14_code 35 = .ok (.iload_n 1, 1) := by decide +kernel
theorem d_Y_decide_36 : decode prog_11_method_14_code 36 = .ok (.iaload, 1) := by decide +kernel
theorem d_Y_decide_37 : decode prog_11_method_14_code 37 = .ok (.aload_n 0, 1) := by decide +kernel
theorem d_Y_decide_38 : decode prog_11_method_14_code 38 = .ok (.getfield 20, 3) := by decide +kernel
theorem d_Y_decide_41 : decode prog_11_method_14_code 41 = .ok (.iload_n 2, 1) := by decide +kernel
theorem d_Y_decide_42 : decode prog_11_method_14_code 42 = .ok (.iaload, 1) := by decide +kernel
theorem d_Y_decide_43 : decode prog_11_method_14_code 43 = .ok (.if_icmp .ne 9, 3) := by decide +kernel
theorem d_Y_decide_46 : decode prog_11_method_14_code 46 = .ok (.sipush 304, 3) := by decide +kernel
theorem d_Y_decide_49 : decode prog_11_method_14_code 49 = .ok (.goto 6, 3) := by decide +kernel
theorem d_Y_decide_52 : decode prog_11_method_14_code 52 = .ok (.sipush 200, 3) := by decide +kernel
theorem d_Y_decide_55 : decode prog_11_method_14_code 55 = .ok (.ireturn, 1) := by decide +kernel
theorem d_Y_decide_56 : decode prog_11_method_14_code 56 = .ok (.aload_n 0, 1) := by decide +kernel
theorem d_Y_decide_57 : decode prog_11_method_14_code 57 = .ok (.getfield 38, 3) := by decide +kernel
theorem d_Y_decide_60 : decode prog_11_method_14_code 60 = .ok (.iload_n 1, 1) := by decide +kernel
theorem d_Y_decide_61 : decode prog_11_method_14_code 61 = .ok (.iaload, 1) := by decide +kernel
theorem d_Y_decide_62 : decode prog_11_method_14_code 62 = .ok (.ifCond .le 31, 3) := by decide +kernel
theorem d_Y_decide_65 : decode prog_11_method_14_code 65 = .ok (.aload_n 0, 1) := by decide +kernel
theorem d_Y_decide_66 : decode prog_11_method_14_code 66 = .ok (.getfield 7, 3) := by decide +kernel
theorem d_Y_decide_69 : decode prog_11_method_14_code 69 = .ok (.iload_n 2, 1) := by decide +kernel
theorem d_Y_decide_70 : decode prog_11_method_14_code 70 = .ok (.baload, 1) := by decide +kernel
theorem d_Y_decide_71 : decode prog_11_method_14_code 71 = .ok (.ifCond .eq 18, 3) := by decide +kernel
theorem d_Y_decide_74 : decode prog_11_method_14_code 74 = .ok (.aload_n 0, 1) := by decide +kernel
theorem d_Y_decide_75 : decode prog_11_method_14_code 75 = .ok (.getfield 20, 3) := by decide +kernel
theorem d_Y_decide_78 : decode prog_11_method_14_code 78 = .ok (.iload_n 2, 1) := by decide +kernel
theorem d_Y_decide_79 : decode prog_11_method_14_code 79 = .ok (.iaload, 1) := by decide +kernel
theorem d_Y_decide_80 : decode prog_11_method_14_code 80 = .ok (.aload_n 0, 1) := by decide +kernel
theorem d_Y_decide_81 : decode prog_11_method_14_code 81 = .ok (.getfield 38, 3) := by decide +kernel
theorem d_Y_decide_84 : decode prog_11_method_14_code 84 = .ok (.iload_n 1, 1) := by decide +kernel
theorem d_Y_decide_85 : decode prog_11_method_14_code 85 = .ok (.iaload, 1) := by decide +kernel
theorem d_Y_decide_86 : decode prog_11_method_14_code 86 = .ok (.if_icmp .eq 7, 3) := by decide +kernel
theorem d_Y_decide_89 : decode prog_11_method_14_code 89 = .ok (.sipush 412, 3) := by decide +kernel
theorem d_Y_decide_92 : decode prog_11_method_14_code 92 = .ok (.ireturn, 1) := by decide +kernel
theorem d_Y_decide_93 : decode prog_11_method_14_code 93 = .ok (.aload_n 0, 1) := by decide +kernel
theorem d_Y_decide_94 : decode prog_11_method_14_code 94 = .ok (.iload_n 2, 1) := by decide +kernel
theorem d_Y_decide_95 : decode prog_11_method_14_code 95 = .ok (.aload_n 0, 1) := by decide +kernel
theorem d_Y_decide_96 : decode prog_11_method_14_code 96 = .ok (.getfield 32, 3) := by decide +kernel
theorem d_Y_decide_99 : decode prog_11_method_14_code 99 = .ok (.iload_n 1, 1) := by decide +kernel
theorem d_Y_decide_100 : decode prog_11_method_14_code 100 = .ok (.iaload, 1) := by decide +kernel
theorem d_Y_decide_101 : decode prog_11_method_14_code 101 = .ok (.aload_n 0, 1) := by decide +kernel
theorem d_Y_decide_102 : decode prog_11_method_14_code 102 = .ok (.getfield 35, 3) := by decide +kernel
theorem d_Y_decide_105 : decode prog_11_method_14_code 105 = .ok (.iload_n 1, 1) := by decide +kernel
theorem d_Y_decide_106 : decode prog_11_method_14_code 106 = .ok (.iaload, 1) := by decide +kernel
theorem d_Y_decide_107 : decode prog_11_method_14_code 107 = .ok (.invokevirtual 120, 3) := by decide +kernel
theorem d_Y_decide_110 : decode prog_11_method_14_code 110 = .ok (.pop, 1) := by decide +kernel
theorem d_Y_decide_111 : decode prog_11_method_14_code 111 = .ok (.sipush 200, 3) := by decide +kernel
theorem d_Y_decide_114 : decode prog_11_method_14_code 114 = .ok (.ireturn, 1) := by decide +kernel
theorem d_Y_arrive_0 : decode prog_11_method_15_code 0 = .ok (.iload_n 1, 1) := by decide +kernel
theorem d_Y_arrive_1 : decode prog_11_method_15_code 1 = .ok (.aload_n 0, 1) := by decide +kernel
theorem d_Y_arrive_2 : decode prog_11_method_15_code 2 = .ok (.getfield 100, 3) := by decide +kernel
theorem d_Y_arrive_5 : decode prog_11_method_15_code 5 = .ok (.iconst 1, 1) := by decide +kernel
theorem d_Y_arrive_6 : decode prog_11_method_15_code 6 = .ok (.isub, 1) := by decide +kernel
theorem d_Y_arrive_7 : decode prog_11_method_15_code 7 = .ok (.invokestatic 116, 3) := by decide +kernel
theorem d_Y_arrive_10 : decode prog_11_method_15_code 10 = .ok (.ifCond .eq 13, 3) := by decide +kernel
theorem d_Y_arrive_13 : decode prog_11_method_15_code 13 = .ok (.aload_n 0, 1) := by decide +kernel
theorem d_Y_arrive_14 : decode prog_11_method_15_code 14 = .ok (.getfield 47, 3) := by decide +kernel
theorem d_Y_arrive_17 : decode prog_11_method_15_code 17 = .ok (.iload_n 1, 1) := by decide +kernel
theorem d_Y_arrive_18 : decode prog_11_method_15_code 18 = .ok (.iaload, 1) := by decide +kernel
theorem d_Y_arrive_19 : decode prog_11_method_15_code 19 = .ok (.iconst 1, 1) := by decide +kernel
theorem d_Y_arrive_20 : decode prog_11_method_15_code 20 = .ok (.if_icmp .eq 5, 3) := by decide +kernel
theorem d_Y_arrive_23 : decode prog_11_method_15_code 23 = .ok (.iconst (-1), 1) := by decide +kernel
theorem d_Y_arrive_24 : decode prog_11_method_15_code 24 = .ok (.ireturn, 1) := by decide +kernel
theorem d_Y_arrive_25 : decode prog_11_method_15_code 25 = .ok (.aload_n 0, 1) := by decide +kernel
theorem d_Y_arrive_26 : decode prog_11_method_15_code 26 = .ok (.getfield 47, 3) := by decide +kernel
theorem d_Y_arrive_29 : decode prog_11_method_15_code 29 = .ok (.iload_n 1, 1) := by decide +kernel
theorem d_Y_arrive_30 : decode prog_11_method_15_code 30 = .ok (.iconst 0, 1) := by decide +kernel
theorem d_Y_arrive_31 : decode prog_11_method_15_code 31 = .ok (.iastore, 1) := by decide +kernel
theorem d_Y_arrive_32 : decode prog_11_method_15_code 32 = .ok (.aload_n 0, 1) := by decide +kernel
theorem d_Y_arrive_33 : decode prog_11_method_15_code 33 = .ok (.getfield 144, 3) := by decide +kernel
theorem d_Y_arrive_36 : decode prog_11_method_15_code 36 = .ok (.ifCond .eq 13, 3) := by decide +kernel
theorem d_Y_arrive_39 : decode prog_11_method_15_code 39 = .ok (.iload_n 1, 1) := by decide +kernel
theorem d_Y_arrive_40 : decode prog_11_method_15_code 40 = .ok (.aload_n 0, 1) := by decide +kernel
theorem d_Y_arrive_41 : decode prog_11_method_15_code 41 = .ok (.getfield 148, 3) := by decide +kernel
theorem d_Y_arrive_44 : decode prog_11_method_15_code 44 = .ok (.if_icmp .lt 5, 3) := by decide +kernel
theorem d_Y_arrive_47 : decode prog_11_method_15_code 47 = .ok (.iconst 0, 1) := by decide +kernel
theorem d_Y_arrive_48 : decode prog_11_method_15_code 48 = .ok (.ireturn, 1) := by decide +kernel
theorem d_Y_arrive_49 : decode prog_11_method_15_code 49 = .ok (.aload_n 0, 1) := by decide +kernel
theorem d_Y_arrive_50 : decode prog_11_method_15_code 50 = .ok (.getfield 26, 3) := by decide +kernel
theorem d_Y_arrive_53 : decode prog_11_method_15_code 53 = .ok (.iload_n 1, 1) := by decide +kernel
theorem d_Y_arrive_54 : decode prog_11_method_15_code 54 = .ok (.iaload, 1) := by decide +kernel
theorem d_Y_arrive_55 : decode prog_11_method_15_code 55 = .ok (.istore_n 2, 1) := by decide +kernel
theorem d_Y_arrive_56 : decode prog_11_method_15_code 56 = .ok (.aload_n 0, 1) := by decide +kernel
theorem d_Y_arrive_57 : decode prog_11_method_15_code 57 = .ok (.iload_n 1, 1) := by decide +kernel
theorem d_Y_arrive_58 : decode prog_11_method_15_code 58 = .ok (.invokevirtual 151, 3) := by decide +kernel
theorem d_Y_arrive_61 : decode prog_11_method_15_code 61 = .ok (.istore_n 3, 1) := by decide +kernel
theorem d_Y_arrive_62 : decode prog_11_method_15_code 62 = .ok (.aload_n 0, 1) := by decide +kernel
theorem d_Y_arrive_63 : decode prog_11_method_15_code 63 = .ok (.getfield 53, 3) := by decide +kernel
theorem d_Y_arrive_66 : decode prog_11_method_15_code 66 = .ok (.iload_n 1, 1) := by decide +kernel
theorem d_Y_arrive_67 : decode prog_11_method_15_code 67 = .ok (.aload_n 0, 1) := by decide +kernel
theorem d_Y_arrive_68 : decode prog_11_method_15_code 68 = .ok (.getfield 20, 3) := by decide +kernel
theorem d_Y_arrive_71 : decode prog_11_method_15_code 71 = .ok (.iload_n 2, 1) := by decide +kernel
theorem d_Y_arrive_72 : decode prog_11_method_15_code 72 = .ok (.iaload, 1) := by decide +kernel
theorem d_Y_arrive_73 : decode prog_11_method_15_code 73 = .ok (.iastore, 1) := by decide +kernel
theorem d_Y_arrive_74 : decode prog_11_method_15_code 74 = .ok (.aload_n 0, 1) := by decide +kernel
theorem d_Y_arrive_75 : decode prog_11_method_15_code 75 = .ok (.getfield 56, 3) := by decide +kernel
theorem d_Y_arrive_78 : decode prog_11_method_15_code 78 = .ok (.iload_n 1, 1) := by decide +kernel
theorem d_Y_arrive_79 : decode prog_11_method_15_code 79 = .ok (.aload_n 0, 1) := by decide +kernel
theorem d_Y_arrive_80 : decode prog_11_method_15_code 80 = .ok (.getfield 17, 3) := by decide +kernel
theorem d_Y_arrive_83 : decode prog_11_method_15_code 83 = .ok (.iload_n 2, 1) := by decide +kernel
theorem d_Y_arrive_84 : decode prog_11_method_15_code 84 = .ok (.iaload, 1) := by decide +kernel
theorem d_Y_arrive_85 : decode prog_11_method_15_code 85 = .ok (.iastore, 1) := by decide +kernel
theorem d_Y_arrive_86 : decode prog_11_method_15_code 86 = .ok (.aload_n 0, 1) := by decide +kernel
theorem d_Y_arrive_87 : decode prog_11_method_15_code 87 = .ok (.getfield 59, 3) := by decide +kernel
theorem d_Y_arrive_90 : decode prog_11_method_15_code 90 = .ok (.iload_n 1, 1) := by decide +kernel
theorem d_Y_arrive_91 : decode prog_11_method_15_code 91 = .ok (.aload_n 0, 1) := by decide +kernel
theorem d_Y_arrive_92 : decode prog_11_method_15_code 92 = .ok (.getfield 13, 3) := by decide +kernel
theorem d_Y_arrive_95 : decode prog_11_method_15_code 95 = .ok (.iload_n 2, 1) := by decide +kernel
theorem d_Y_arrive_96 : decode prog_11_method_15_code 96 = .ok (.iaload, 1) := by decide +kernel
theorem d_Y_arrive_97 : decode prog_11_method_15_code 97 = .ok (.iastore, 1) := by decide +kernel
theorem d_Y_arrive_98 : decode prog_11_method_15_code 98 = .ok (.iload_n 3, 1) := by decide +kernel
theorem d_Y_arrive_99 : decode prog_11_method_15_code 99 = .ok (.sipush 400, 3) := by decide +kernel
theorem d_Y_arrive_102 : decode prog_11_method_15_code 102 = .ok (.if_icmp .ge 15, 3) := by decide +kernel
theorem d_Y_arrive_105 : decode prog_11_method_15_code 105 = .ok (.aload_n 0, 1) := by decide +kernel
theorem d_Y_arrive_106 : decode prog_11_method_15_code 106 = .ok (.iload_n 1, 1) := by decide +kernel
theorem d_Y_arrive_107 : decode prog_11_method_15_code 107 = .ok (.iconst 0, 1) := by decide +kernel
theorem d_Y_arrive_108 : decode prog_11_method_15_code 108 = .ok (.aload_n 0, 1) := by decide +kernel
theorem d_Y_arrive_109 : decode prog_11_method_15_code 109 = .ok (.getfield 20, 3) := by decide +kernel
theorem d_Y_arrive_112 : decode prog_11_method_15_code 112 = .ok (.iload_n 2, 1) := by decide +kernel
theorem d_Y_arrive_113 : decode prog_11_method_15_code 113 = .ok (.iaload, 1) := by decide +kernel
theorem d_Y_arrive_114 : decode prog_11_method_15_code 114 = .ok (.invokevirtual 154, 3) := by decide +kernel
theorem d_Y_arrive_117 : decode prog_11_method_15_code 117 = .ok (.iload_n 3, 1) := by decide +kernel
theorem d_Y_arrive_118 : decode prog_11_method_15_code 118 = .ok (.sipush 400, 3) := by decide +kernel
theorem d_Y_arrive_121 : decode prog_11_method_15_code 121 = .ok (.if_icmp .ge 24, 3) := by decide +kernel
theorem d_Y_arrive_124 : decode prog_11_method_15_code 124 = .ok (.aload_n 0, 1) := by decide +kernel
theorem d_Y_arrive_125 : decode prog_11_method_15_code 125 = .ok (.getfield 23, 3) := by decide +kernel
theorem d_Y_arrive_128 : decode prog_11_method_15_code 128 = .ok (.iload_n 1, 1) := by decide +kernel
theorem d_Y_arrive_129 : decode prog_11_method_15_code 129 = .ok (.baload, 1) := by decide +kernel
theorem d_Y_arrive_130 : decode prog_11_method_15_code 130 = .ok (.ifCond .ne 15, 3) := by decide +kernel
theorem d_Y_arrive_133 : decode prog_11_method_15_code 133 = .ok (.aload_n 0, 1) := by decide +kernel
theorem d_Y_arrive_134 : decode prog_11_method_15_code 134 = .ok (.iload_n 1, 1) := by decide +kernel
theorem d_Y_arrive_135 : decode prog_11_method_15_code 135 = .ok (.iconst 1, 1) := by decide +kernel
theorem d_Y_arrive_136 : decode prog_11_method_15_code 136 = .ok (.aload_n 0, 1) := by decide +kernel
theorem d_Y_arrive_137 : decode prog_11_method_15_code 137 = .ok (.getfield 17, 3) := by decide +kernel
theorem d_Y_arrive_140 : decode prog_11_method_15_code 140 = .ok (.iload_n 2, 1) := by decide +kernel
theorem d_Y_arrive_141 : decode prog_11_method_15_code 141 = .ok (.iaload, 1) := by decide +kernel
theorem d_Y_arrive_142 : decode prog_11_method_15_code 142 = .ok (.invokevirtual 154, 3) := by decide +kernel
theorem d_Y_arrive_145 : decode prog_11_method_15_code 145 = .ok (.iload_n 3, 1) := by decide +kernel
theorem d_Y_arrive_146 : decode prog_11_method_15_code 146 = .ok (.sipush 200, 3) := by decide +kernel
theorem d_Y_arrive_149 : decode prog_11_method_15_code 149 = .ok (.if_icmp .ne 24, 3) := by decide +kernel
theorem d_Y_arrive_152 : decode prog_11_method_15_code 152 = .ok (.aload_n 0, 1) := by decide +kernel
theorem d_Y_arrive_153 : decode prog_11_method_15_code 153 = .ok (.getfield 23, 3) := by decide +kernel
theorem d_Y_arrive_156 : decode prog_11_method_15_code 156 = .ok (.iload_n 1, 1) := by decide +kernel
theorem d_Y_arrive_157 : decode prog_11_method_15_code 157 = .ok (.baload, 1) := by decide +kernel
theorem d_Y_arrive_158 : decode prog_11_method_15_code 158 = .ok (.ifCond .ne 15, 3) := by decide +kernel
theorem d_Y_arrive_161 : decode prog_11_method_15_code 161 = .ok (.aload_n 0, 1) := by decide +kernel
theorem d_Y_arrive_162 : decode prog_11_method_15_code 162 = .ok (.iload_n 1, 1) := by decide +kernel
theorem d_Y_arrive_163 : decode prog_11_method_15_code 163 = .ok (.iconst 2, 1) := by decide +kernel
theorem d_Y_arrive_164 : decode prog_11_method_15_code 164 = .ok (.aload_n 0, 1) := by decide +kernel
theorem d_Y_arrive_165 : decode prog_11_method_15_code 165 = .ok (.getfield 13, 3) := by decide +kernel
theorem d_Y_arrive_168 : decode prog_11_method_15_code 168 = .ok (.iload_n 2, 1) := by decide +kernel
theorem d_Y_arrive_169 : decode prog_11_method_15_code 169 = .ok (.iaload, 1) := by decide +kernel
theorem d_Y_arrive_170 : decode prog_11_method_15_code 170 = .ok (.invokevirtual 154, 3) := by decide +kernel
theorem d_Y_arrive_173 : decode prog_11_method_15_code 173 = .ok (.aload_n 0, 1) := by decide +kernel
theorem d_Y_arrive_174 : decode prog_11_method_15_code 174 = .ok (.getfield 50, 3) := by decide +kernel
theorem d_Y_arrive_177 : decode prog_11_method_15_code 177 = .ok (.iload_n 1, 1) := by decide +kernel
theorem d_Y_arrive_178 : decode prog_11_method_15_code 178 = .ok (.iload_n 3, 1) := by decide +kernel
theorem d_Y_arrive_179 : decode prog_11_method_15_code 179 = .ok (.iastore, 1) := by decide +kernel
theorem d_Y_arrive_180 : decode prog_11_method_15_code 180 = .ok (.aload_n 0, 1) := by decide +kernel
theorem d_Y_arrive_181 : decode prog_11_method_15_code 181 = .ok (.getfield 47, 3) := by decide +kernel
theorem d_Y_arrive_184 : decode prog_11_method_15_code 184 = .ok (.iload_n 1, 1) := by decide +kernel
theorem d_Y_arrive_185 : decode prog_11_method_15_code 185 = .ok (.iconst 2, 1) := by decide +kernel
theorem d_Y_arrive_186 : decode prog_11_method_15_code 186 = .ok (.iastore, 1) := by decide +kernel
theorem d_Y_arrive_187 : decode prog_11_method_15_code 187 = .ok (.aload_n 0, 1) := by decide +kernel
theorem d_Y_arrive_188 : decode prog_11_method_15_code 188 = .ok (.iload_n 1, 1) := by decide +kernel
theorem d_Y_arrive_189 : decode prog_11_method_15_code 189 = .ok (.iconst 1, 1) := by decide +kernel
theorem d_Y_arrive_190 : decode prog_11_method_15_code 190 = .ok (.iadd, 1) := by decide +kernel
theorem d_Y_arrive_191 : decode prog_11_method_15_code 191 = .ok (.aload_n 0, 1) := by decide +kernel
theorem d_Y_arrive_192 : decode prog_11_method_15_code 192 = .ok (.getfield 158, 3) := by decide +kernel
theorem d_Y_arrive_195 : decode prog_11_method_15_code 195 = .ok (.if_icmp .le 9, 3) := by decide +kernel
theorem d_Y_arrive_198 : decode prog_11_method_15_code 198 = .ok (.iload_n 1, 1) := by decide +kernel
theorem d_Y_arrive_199 : decode prog_11_method_15_code 199 = .ok (.iconst 1, 1) := by decide +kernel
theorem d_Y_arrive_200 : decode prog_11_method_15_code 200 = .ok (.iadd, 1) := by decide +kernel
theorem d_Y_arrive_201 : decode prog_11_method_15_code 201 = .ok (.goto 7, 3) := by decide +kernel
theorem d_Y_arrive_204 : decode prog_11_method_15_code 204 = .ok (.aload_n 0, 1) := by decide +kernel
theorem d_Y_arrive_205 : decode prog_11_method_15_code 205 = .ok (.getfield 158, 3) := by decide +kernel
theorem d_Y_arrive_208 : decode prog_11_method_15_code 208 = .ok (.putfield 158, 3) := by decide +kernel
theorem d_Y_arrive_211 : decode prog_11_method_15_code 211 = .ok (.iload_n 3, 1) := by decide +kernel
theorem d_Y_arrive_212 : decode prog_11_method_15_code 212 = .ok (.ireturn, 1) := by decide +kernel
theorem d_Y_feedback_0 : decode prog_11_method_16_code 0 = .ok (.aload_n 0, 1) := by decide +kernel
theorem d_Y_feedback_1 : decode prog_11_method_16_code 1 = .ok (.getfield 96, 3) := by decide +kernel
theorem d_Y_feedback_4 : decode prog_11_method_16_code 4 = .ok (.aload_n 0, 1) := by decide +kernel
theorem d_Y_feedback_5 : decode prog_11_method_16_code 5 = .ok (.getfield 110, 3) := by decide +kernel
theorem d_Y_feedback_8 : decode prog_11_method_16_code 8 = .ok (.if_icmp .ne 5, 3) := by decide +kernel
theorem d_Y_feedback_11 : decode prog_11_method_16_code 11 = .ok (.iconst (-1), 1) := by decide +kernel
theorem d_Y_feedback_12 : decode prog_11_method_16_code 12 = .ok (.ireturn, 1) := by decide +kernel
theorem d_Y_feedback_13 : decode prog_11_method_16_code 13 = .ok (.aload_n 0, 1) := by decide +kernel
theorem d_Y_feedback_14 : decode prog_11_method_16_code 14 = .ok (.dup, 1) := by decide +kernel
theorem d_Y_feedback_15 : decode prog_11_method_16_code 15 = .ok (.getfield 96, 3) := by decide +kernel
theorem d_Y_feedback_18 : decode prog_11_method_16_code 18 = .ok (.iconst 1, 1) := by decide +kernel
theorem d_Y_feedback_19 : decode prog_11_method_16_code 19 = .ok (.iadd, 1) := by decide +kernel
theorem d_Y_feedback_20 : decode prog_11_method_16_code 20 = .ok (.putfield 96, 3) := by decide +kernel
theorem d_Y_feedback_23 : decode prog_11_method_16_code 23 = .ok (.aload_n 0, 1) := by decide +kernel
theorem d_Y_feedback_24 : decode prog_11_method_16_code 24 = .ok (.getfield 86, 3) := by decide +kernel
theorem d_Y_feedback_27 : decode prog_11_method_16_code 27 = .ok (.aload_n 0, 1) := by decide +kernel
theorem d_Y_feedback_28 : decode prog_11_method_16_code 28 = .ok (.getfield 96, 3) := by decide +kernel
theorem d_Y_feedback_31 : decode prog_11_method_16_code 31 = .ok (.iconst 1, 1) := by decide +kernel
theorem d_Y_feedback_32 : decode prog_11_method_16_code 32 = .ok (.isub, 1) := by decide +kernel
theorem d_Y_feedback_33 : decode prog_11_method_16_code 33 = .ok (.iaload, 1) := by decide +kernel
theorem d_Y_feedback_34 : decode prog_11_method_16_code 34 = .ok (.ireturn, 1) := by decide +kernel
theorem d_Y_goaway_0 : decode prog_11_method_17_code 0 = .ok (.aload_n 0, 1) := by decide +kernel
theorem d_Y_goaway_1 : decode prog_11_method_17_code 1 = .ok (.getfield 144, 3) := by decide +kernel
theorem d_Y_goaway_4 : decode prog_11_method_17_code 4 = .ok (.ifCond .ne 16, 3) := by decide +kernel
theorem d_Y_goaway_7 : decode prog_11_method_17_code 7 = .ok (.aload_n 0, 1) := by decide +kernel
theorem d_Y_goaway_8 : decode prog_11_method_17_code 8 = .ok (.iconst 1, 1) := by decide +kernel
theorem d_Y_goaway_9 : decode prog_11_method_17_code 9 = .ok (.putfield 144, 3) := by decide +kernel
theorem d_Y_goaway_12 : decode prog_11_method_17_code 12 = .ok (.aload_n 0, 1) := by decide +kernel
theorem d_Y_goaway_13 : decode prog_11_method_17_code 13 = .ok (.aload_n 0, 1) := by decide +kernel
theorem d_Y_goaway_14 : decode prog_11_method_17_code 14 = .ok (.getfield 158, 3) := by decide +kernel
theorem d_Y_goaway_17 : decode prog_11_method_17_code 17 = .ok (.putfield 148, 3) := by decide +kernel
theorem d_Y_goaway_20 : decode prog_11_method_17_code 20 = .ok (.aload_n 0, 1) := by decide +kernel
theorem d_Y_goaway_21 : decode prog_11_method_17_code 21 = .ok (.getfield 148, 3) := by decide +kernel
theorem d_Y_goaway_24 : decode prog_11_method_17_code 24 = .ok (.ireturn, 1) := by decide +kernel
theorem d_Y_ask_0 : decode prog_11_method_18_code 0 = .ok (.aload_n 0, 1) := by decide +kernel
theorem d_Y_ask_1 : decode prog_11_method_18_code 1 = .ok (.getfield 100, 3) := by decide +kernel
theorem d_Y_ask_4 : decode prog_11_method_18_code 4 = .ok (.istore 5, 2) := by decide +kernel
theorem d_Y_ask_6 : decode prog_11_method_18_code 6 = .ok (.aload_n 0, 1) := by decide +kernel
theorem d_Y_ask_7 : decode prog_11_method_18_code 7 = .ok (.dup, 1) := by decide +kernel
theorem d_Y_ask_8 : decode prog_11_method_18_code 8 = .ok (.getfield 100, 3) := by decide +kernel
theorem d_Y_ask_11 : decode prog_11_method_18_code 11 = .ok (.iconst 1, 1) := by decide +kernel
theorem d_Y_ask_12 : decode prog_11_method_18_code 12 = .ok (.iadd, 1) := by decide +kernel
theorem d_Y_ask_13 : decode prog_11_method_18_code 13 = .ok (.putfield 100, 3) := by decide +kernel
theorem d_Y_ask_16 : decode prog_11_method_18_code 16 = .ok (.aload_n 0, 1) := by decide +kernel
theorem d_Y_ask_17 : decode prog_11_method_18_code 17 = .ok (.getfield 23, 3) := by decide +kernel
theorem d_Y_ask_20 : decode prog_11_method_18_code 20 = .ok (.iload 5, 2) := by decide +kernel
theorem d_Y_ask_22 : decode prog_11_method_18_code 22 = .ok (.iload_n 2, 1) := by decide +kernel
theorem d_Y_ask_23 : decode prog_11_method_18_code 23 = .ok (.bastore, 1) := by decide +kernel
theorem d_Y_ask_24 : decode prog_11_method_18_code 24 = .ok (.aload_n 0, 1) := by decide +kernel
theorem d_Y_ask_25 : decode prog_11_method_18_code 25 = .ok (.getfield 26, 3) := by decide +kernel
theorem d_Y_ask_28 : decode prog_11_method_18_code 28 = .ok (.iload 5, 2) := by decide +kernel
theorem d_Y_ask_30 : decode prog_11_method_18_code 30 = .ok (.iload_n 1, 1) := by decide +kernel
theorem d_Y_ask_31 : decode prog_11_method_18_code 31 = .ok (.iastore, 1) := by decide +kernel
theorem d_Y_ask_32 : decode prog_11_method_18_code 32 = .ok (.aload_n 0, 1) := by decide +kernel
theorem d_Y_ask_33 : decode prog_11_method_18_code 33 = .ok (.getfield 32, 3) := by decide +kernel
theorem d_Y_ask_36 : decode prog_11_method_18_code 36 = .ok (.iload 5, 2) := by decide +kernel
theorem d_Y_ask_38 : decode prog_11_method_18_code 38 = .ok (.iload_n 3, 1) := by decide +kernel
theorem d_Y_ask_39 : decode prog_11_method_18_code 39 = .ok (.iastore, 1) := by decide +kernel
theorem d_Y_ask_40 : decode prog_11_method_18_code 40 = .ok (.aload_n 0, 1) := by decide +kernel
theorem d_Y_ask_41 : decode prog_11_method_18_code 41 = .ok (.getfield 35, 3) := by decide +kernel
theorem d_Y_ask_44 : decode prog_11_method_18_code 44 = .ok (.iload 5, 2) := by decide +kernel
theorem d_Y_ask_46 : decode prog_11_method_18_code 46 = .ok (.iload 4, 2) := by decide +kernel
theorem d_Y_ask_48 : decode prog_11_method_18_code 48 = .ok (.iastore, 1) := by decide +kernel
theorem d_Y_ask_49 : decode prog_11_method_18_code 49 = .ok (.aload_n 0, 1) := by decide +kernel
theorem d_Y_ask_50 : decode prog_11_method_18_code 50 = .ok (.getfield 65, 3) := by decide +kernel
theorem d_Y_ask_53 : decode prog_11_method_18_code 53 = .ok (.iload_n 1, 1) := by decide +kernel
theorem d_Y_ask_54 : decode prog_11_method_18_code 54 = .ok (.iaload, 1) := by decide +kernel
theorem d_Y_ask_55 : decode prog_11_method_18_code 55 = .ok (.ifCond .lt 7, 3) := by decide +kernel
theorem d_Y_ask_58 : decode prog_11_method_18_code 58 = .ok (.iconst 1, 1) := by decide +kernel
theorem d_Y_ask_59 : decode prog_11_method_18_code 59 = .ok (.goto 4, 3) := by decide +kernel
theorem d_Y_ask_62 : decode prog_11_method_18_code 62 = .ok (.iconst 0, 1) := by decide +kernel
theorem d_Y_ask_63 : decode prog_11_method_18_code 63 = .ok (.istore 6, 2) := by decide +kernel
theorem d_Y_ask_65 : decode prog_11_method_18_code 65 = .ok (.iload_n 2, 1) := by decide +kernel
theorem d_Y_ask_66 : decode prog_11_method_18_code 66 = .ok (.ifCond .ne 53, 3) := by decide +kernel
theorem d_Y_ask_69 : decode prog_11_method_18_code 69 = .ok (.iload 6, 2) := by decide +kernel
theorem d_Y_ask_71 : decode prog_11_method_18_code 71 = .ok (.ifCond .eq 48, 3) := by decide +kernel
theorem d_Y_ask_74 : decode prog_11_method_18_code 74 = .ok (.aload_n 0, 1) := by decide +kernel
theorem d_Y_ask_75 : decode prog_11_method_18_code 75 = .ok (.getfield 161, 3) := by decide +kernel
theorem d_Y_ask_78 : decode prog_11_method_18_code 78 = .ok (.aload_n 0, 1) := by decide +kernel
theorem d_Y_ask_79 : decode prog_11_method_18_code 79 = .ok (.getfield 77, 3) := by decide +kernel
theorem d_Y_ask_82 : decode prog_11_method_18_code 82 = .ok (.iload_n 1, 1) := by decide +kernel
theorem d_Y_ask_83 : decode prog_11_method_18_code 83 = .ok (.iaload, 1) := by decide +kernel
theorem d_Y_ask_84 : decode prog_11_method_18_code 84 = .ok (.isub, 1) := by decide +kernel
theorem d_Y_ask_85 : decode prog_11_method_18_code 85 = .ok (.aload_n 0, 1) := by decide +kernel
theorem d_Y_ask_86 : decode prog_11_method_18_code 86 = .ok (.getfield 74, 3) := by decide +kernel
theorem d_Y_ask_89 : decode prog_11_method_18_code 89 = .ok (.iload_n 1, 1) := by decide +kernel
theorem d_Y_ask_90 : decode prog_11_method_18_code 90 = .ok (.iaload, 1) := by decide +kernel
theorem d_Y_ask_91 : decode prog_11_method_18_code 91 = .ok (.if_icmp .ge 28, 3) := by decide +kernel
theorem d_Y_ask_94 : decode prog_11_method_18_code 94 = .ok (.aload_n 0, 1) := by decide +kernel
theorem d_Y_ask_95 : decode prog_11_method_18_code 95 = .ok (.getfield 29, 3) := by decide +kernel
theorem d_Y_ask_98 : decode prog_11_method_18_code 98 = .ok (.iload 5, 2) := by decide +kernel
theorem d_Y_ask_100 : decode prog_11_method_18_code 100 = .ok (.bipush 8, 2) := by decide +kernel
theorem d_Y_ask_102 : decode prog_11_method_18_code 102 = .ok (.iastore, 1) := by decide +kernel
theorem d_Y_ask_103 : decode prog_11_method_18_code 103 = .ok (.aload_n 0, 1) := by decide +kernel
theorem d_Y_ask_104 : decode prog_11_method_18_code 104 = .ok (.getfield 44, 3) := by decide +kernel
theorem d_Y_ask_107 : decode prog_11_method_18_code 107 = .ok (.iload 5, 2) := by decide +kernel
theorem d_Y_ask_109 : decode prog_11_method_18_code 109 = .ok (.aload_n 0, 1) := by decide +kernel
theorem d_Y_ask_110 : decode prog_11_method_18_code 110 = .ok (.getfield 71, 3) := by decide +kernel
theorem d_Y_ask_113 : decode prog_11_method_18_code 113 = .ok (.iload_n 1, 1) := by decide +kernel
theorem d_Y_ask_114 : decode prog_11_method_18_code 114 = .ok (.iaload, 1) := by decide +kernel
theorem d_Y_ask_115 : decode prog_11_method_18_code 115 = .ok (.iastore, 1) := by decide +kernel
theorem d_Y_ask_116 : decode prog_11_method_18_code 116 = .ok (.goto 85, 3) := by decide +kernel
theorem d_Y_ask_119 : decode prog_11_method_18_code 119 = .ok (.aload_n 0, 1) := by decide +kernel
theorem d_Y_ask_120 : decode prog_11_method_18_code 120 = .ok (.getfield 164, 3) := by decide +kernel
theorem d_Y_ask_123 : decode prog_11_method_18_code 123 = .ok (.ifCond .eq 15, 3) := by decide +kernel
theorem d_Y_ask_126 : decode prog_11_method_18_code 126 = .ok (.aload_n 0, 1) := by decide +kernel
theorem d_Y_ask_127 : decode prog_11_method_18_code 127 = .ok (.getfield 29, 3) := by decide +kernel
theorem d_Y_ask_130 : decode prog_11_method_18_code 130 = .ok (.iload 5, 2) := by decide +kernel
theorem d_Y_ask_132 : decode prog_11_method_18_code 132 = .ok (.bipush 7, 2) := by decide +kernel
theorem d_Y_ask_134 : decode prog_11_method_18_code 134 = .ok (.iastore, 1) := by decide +kernel
theorem d_Y_ask_135 : decode prog_11_method_18_code 135 = .ok (.goto 66, 3) := by decide +kernel
theorem d_Y_ask_138 : decode prog_11_method_18_code 138 = .ok (.aload_n 0, 1) := by decide +kernel
theorem d_Y_ask_139 : decode prog_11_method_18_code 139 = .ok (.getfield 47, 3) := by decide +kernel
theorem d_Y_ask_142 : decode prog_11_method_18_code 142 = .ok (.iload 5, 2) := by decide +kernel
theorem d_Y_ask_144 : decode prog_11_method_18_code 144 = .ok (.iconst 1, 1) := by decide +kernel
theorem d_Y_ask_145 : decode prog_11_method_18_code 145 = .ok (.iastore, 1) := by decide +kernel
theorem d_Y_ask_146 : decode prog_11_method_18_code 146 = .ok (.aload_n 0, 1) := by decide +kernel
theorem d_Y_ask_147 : decode prog_11_method_18_code 147 = .ok (.getfield 41, 3) := by decide +kernel
theorem d_Y_ask_150 : decode prog_11_method_18_code 150 = .ok (.iload 5, 2) := by decide +kernel
theorem d_Y_ask_152 : decode prog_11_method_18_code 152 = .ok (.aload_n 0, 1) := by decide +kernel
theorem d_Y_ask_153 : decode prog_11_method_18_code 153 = .ok (.getfield 161, 3) := by decide +kernel
theorem d_Y_ask_156 : decode prog_11_method_18_code 156 = .ok (.iastore, 1) := by decide +kernel
theorem d_Y_ask_157 : decode prog_11_method_18_code 157 = .ok (.aload_n 0, 1) := by decide +kernel
theorem d_Y_ask_158 : decode prog_11_method_18_code 158 = .ok (.getfield 38, 3) := by decide +kernel
theorem d_Y_ask_161 : decode prog_11_method_18_code 161 = .ok (.iload 5, 2) := by decide +kernel
theorem d_Y_ask_163 : decode prog_11_method_18_code 163 = .ok (.iload 6, 2) := by decide +kernel
theorem d_Y_ask_165 : decode prog_11_method_18_code 165 = .ok (.ifCond .eq 12, 3) := by decide +kernel
theorem d_Y_ask_168 : decode prog_11_method_18_code 168 = .ok (.aload_n 0, 1) := by decide +kernel
theorem d_Y_ask_169 : decode prog_11_method_18_code 169 = .ok (.getfield 68, 3) := by decide +kernel
theorem d_Y_ask_172 : decode prog_11_method_18_code 172 = .ok (.iload_n 1, 1) := by decide +kernel
theorem d_Y_ask_173 : decode prog_11_method_18_code 173 = .ok (.iaload, 1) := by decide +kernel
theorem d_Y_ask_174 : decode prog_11_method_18_code 174 = .ok (.goto 4, 3) := by decide +kernel
theorem d_Y_ask_177 : decode prog_11_method_18_code 177 = .ok (.iconst 0, 1) := by decide +kernel
theorem d_Y_ask_178 : decode prog_11_method_18_code 178 = .ok (.iastore, 1) := by decide +kernel
theorem d_Y_ask_179 : decode prog_11_method_18_code 179 = .ok (.aload_n 0, 1) := by decide +kernel
theorem d_Y_ask_180 : decode prog_11_method_18_code 180 = .ok (.getfield 44, 3) := by decide +kernel
theorem d_Y_ask_183 : decode prog_11_method_18_code 183 = .ok (.iload 5, 2) := by decide +kernel
theorem d_Y_ask_185 : decode prog_11_method_18_code 185 = .ok (.iload 6, 2) := by decide +kernel
theorem d_Y_ask_187 : decode prog_11_method_18_code 187 = .ok (.ifCond .eq 12, 3) := by decide +kernel
theorem d_Y_ask_190 : decode prog_11_method_18_code 190 = .ok (.aload_n 0, 1) := by decide +kernel
theorem d_Y_ask_191 : decode prog_11_method_18_code 191 = .ok (.getfield 71, 3) := by decide +kernel
theorem d_Y_ask_194 : decode prog_11_method_18_code 194 = .ok (.iload_n 1, 1) := by decide +kernel
theorem d_Y_ask_195 : decode prog_11_method_18_code 195 = .ok (.iaload, 1) := by decide +kernel
theorem d_Y_ask_196 : decode prog_11_method_18_code 196 = .ok (.goto 4, 3) := by decide +kernel
theorem d_Y_ask_199 : decode prog_11_method_18_code 199 = .ok (.iconst 0, 1) := by decide +kernel
theorem d_Y_ask_200 : decode prog_11_method_18_code 200 = .ok (.iastore, 1) := by decide +kernel
theorem d_Y_ask_201 : decode prog_11_method_18_code 201 = .ok (.iload 5, 2) := by decide +kernel
theorem d_Y_ask_203 : decode prog_11_method_18_code 203 = .ok (.ireturn, 1) := by decide +kernel
theorem d_Y_get_0 : decode prog_11_method_19_code 0 = .ok (.iload_n 1, 1) := by decide +kernel
theorem d_Y_get_1 : decode prog_11_method_19_code 1 = .ok (.iconst 5, 1) := by decide +kernel
theorem d_Y_get_2 : decode prog_11_method_19_code 2 = .ok (.invokestatic 116, 3) := by decide +kernel
theorem d_Y_get_5 : decode prog_11_method_19_code 5 = .ok (.ifCond .eq 23, 3) := by decide +kernel
theorem d_Y_get_8 : decode prog_11_method_19_code 8 = .ok (.aload_n 0, 1) := by decide +kernel
theorem d_Y_get_9 : decode prog_11_method_19_code 9 = .ok (.getfield 100, 3) := by decide +kernel
theorem d_Y_get_12 : decode prog_11_method_19_code 12 = .ok (.bipush 60, 2) := by decide +kernel
theorem d_Y_get_14 : decode prog_11_method_19_code 14 = .ok (.if_icmp .ge 14, 3) := by decide +kernel
theorem d_Y_get_17 : decode prog_11_method_19_code 17 = .ok (.aload_n 0, 1) := by decide +kernel
theorem d_Y_get_18 : decode prog_11_method_19_code 18 = .ok (.iload_n 1, 1) := by decide +kernel
theorem d_Y_get_19 : decode prog_11_method_19_code 19 = .ok (.iconst 0, 1) := by decide +kernel
theorem d_Y_get_20 : decode prog_11_method_19_code 20 = .ok (.iconst 0, 1) := by decide +kernel
theorem d_Y_get_21 : decode prog_11_method_19_code 21 = .ok (.iconst 0, 1) := by decide +kernel
theorem d_Y_get_22 : decode prog_11_method_19_code 22 = .ok (.invokevirtual 167, 3) := by decide +kernel
theorem d_Y_get_25 : decode prog_11_method_19_code 25 = .ok (.goto 4, 3) := by decide +kernel
theorem d_Y_get_28 : decode prog_11_method_19_code 28 = .ok (.iconst (-1), 1) := by decide +kernel
theorem d_Y_get_29 : decode prog_11_method_19_code 29 = .ok (.ireturn, 1) := by decide +kernel
theorem d_Y_replace_0 : decode prog_11_method_20_code 0 = .ok (.iload_n 1, 1) := by decide +kernel
theorem d_Y_replace_1 : decode prog_11_method_20_code 1 = .ok (.iconst 5, 1) := by decide +kernel
theorem d_Y_replace_2 : decode prog_11_method_20_code 2 = .ok (.invokestatic 116, 3) := by decide +kernel
theorem d_Y_replace_5 : decode prog_11_method_20_code 5 = .ok (.ifCond .eq 33, 3) := by decide +kernel
theorem d_Y_replace_8 : decode prog_11_method_20_code 8 = .ok (.iload_n 3, 1) := by decide +kernel
theorem d_Y_replace_9 : decode prog_11_method_20_code 9 = .ok (.sipush 1000, 3) := by decide +kernel
theorem d_Y_replace_12 : decode prog_11_method_20_code 12 = .ok (.invokestatic 116, 3) := by decide +kernel
theorem d_Y_replace_15 : decode prog_11_method_20_code 15 = .ok (.ifCond .eq 23, 3) := by decide +kernel
theorem d_Y_replace_18 : decode prog_11_method_20_code 18 = .ok (.aload_n 0, 1) := by decide +kernel
theorem d_Y_replace_19 : decode prog_11_method_20_code 19 = .ok (.getfield 100, 3) := by decide +kernel
theorem d_Y_replace_22 : decode prog_11_method_20_code 22 = .ok (.bipush 60, 2) := by decide +kernel
theorem d_Y_replace_24 : decode prog_11_method_20_code 24 = .ok (.if_icmp .ge 14, 3) := by decide +kernel
theorem d_Y_replace_27 : decode prog_11_method_20_code 27 = .ok (.aload_n 0, 1) := by decide +kernel
theorem d_Y_replace_28 : decode prog_11_method_20_code 28 = .ok (.iload_n 1, 1) := by decide +kernel
theorem d_Y_replace_29 : decode prog_11_method_20_code 29 = .ok (.iconst 1, 1) := by decide +kernel
theorem d_Y_replace_30 : decode prog_11_method_20_code 30 = .ok (.iload_n 2, 1) := by decide +kernel
theorem d_Y_replace_31 : decode prog_11_method_20_code 31 = .ok (.iload_n 3, 1) := by decide +kernel
theorem d_Y_replace_32 : decode prog_11_method_20_code 32 = .ok (.invokevirtual 167, 3) := by decide +kernel
theorem d_Y_replace_35 : decode prog_11_method_20_code 35 = .ok (.goto 4, 3) := by decide +kernel
theorem d_Y_replace_38 : decode prog_11_method_20_code 38 = .ok (.iconst (-1), 1) := by decide +kernel
theorem d_Y_replace_39 : decode prog_11_method_20_code 39 = .ok (.ireturn, 1) := by decide +kernel
theorem d_Y_read_0 : decode prog_11_method_21_code 0 = .ok (.aload_n 0, 1) := by decide +kernel
theorem d_Y_read_1 : decode prog_11_method_21_code 1 = .ok (.getfield 26, 3) := by decide +kernel
theorem d_Y_read_4 : decode prog_11_method_21_code 4 = .ok (.iload_n 1, 1) := by decide +kernel
theorem d_Y_read_5 : decode prog_11_method_21_code 5 = .ok (.iaload, 1) := by decide +kernel
theorem d_Y_read_6 : decode prog_11_method_21_code 6 = .ok (.istore_n 2, 1) := by decide +kernel
theorem d_Y_read_7 : decode prog_11_method_21_code 7 = .ok (.aload_n 0, 1) := by decide +kernel
theorem d_Y_read_8 : decode prog_11_method_21_code 8 = .ok (.getfield 50, 3) := by decide +kernel
theorem d_Y_read_11 : decode prog_11_method_21_code 11 = .ok (.iload_n 1, 1) := by decide +kernel
theorem d_Y_read_12 : decode prog_11_method_21_code 12 = .ok (.iaload, 1) := by decide +kernel
theorem d_Y_read_13 : decode prog_11_method_21_code 13 = .ok (.istore_n 3, 1) := by decide +kernel
theorem d_Y_read_14 : decode prog_11_method_21_code 14 = .ok (.aload_n 0, 1) := by decide +kernel
theorem d_Y_read_15 : decode prog_11_method_21_code 15 = .ok (.getfield 65, 3) := by decide +kernel
theorem d_Y_read_18 : decode prog_11_method_21_code 18 = .ok (.iload_n 2, 1) := by decide +kernel
theorem d_Y_read_19 : decode prog_11_method_21_code 19 = .ok (.iaload, 1) := by decide +kernel
theorem d_Y_read_20 : decode prog_11_method_21_code 20 = .ok (.iload_n 1, 1) := by decide +kernel
theorem d_Y_read_21 : decode prog_11_method_21_code 21 = .ok (.if_icmp .ge 7, 3) := by decide +kernel
theorem d_Y_read_24 : decode prog_11_method_21_code 24 = .ok (.iconst 1, 1) := by decide +kernel
theorem d_Y_read_25 : decode prog_11_method_21_code 25 = .ok (.goto 4, 3) := by decide +kernel
theorem d_Y_read_28 : decode prog_11_method_21_code 28 = .ok (.iconst 0, 1) := by decide +kernel
theorem d_Y_read_29 : decode prog_11_method_21_code 29 = .ok (.istore 4, 2) := by decide +kernel
theorem d_Y_read_31 : decode prog_11_method_21_code 31 = .ok (.aload_n 0, 1) := by decide +kernel
theorem d_Y_read_32 : decode prog_11_method_21_code 32 = .ok (.getfield 47, 3) := by decide +kernel
theorem d_Y_read_35 : decode prog_11_method_21_code 35 = .ok (.iload_n 1, 1) := by decide +kernel
theorem d_Y_read_36 : decode prog_11_method_21_code 36 = .ok (.iconst 0, 1) := by decide +kernel
theorem d_Y_read_37 : decode prog_11_method_21_code 37 = .ok (.iastore, 1) := by decide +kernel
theorem d_Y_read_38 : decode prog_11_method_21_code 38 = .ok (.iload_n 3, 1) := by decide +kernel
theorem d_Y_read_39 : decode prog_11_method_21_code 39 = .ok (.sipush 304, 3) := by decide +kernel
theorem d_Y_read_42 : decode prog_11_method_21_code 42 = .ok (.if_icmp .ne 73, 3) := by decide +kernel
theorem d_Y_read_45 : decode prog_11_method_21_code 45 = .ok (.aload_n 0, 1) := by decide +kernel
theorem d_Y_read_46 : decode prog_11_method_21_code 46 = .ok (.getfield 29, 3) := by decide +kernel
theorem d_Y_read_49 : decode prog_11_method_21_code 49 = .ok (.iload_n 1, 1) := by decide +kernel
theorem d_Y_read_50 : decode prog_11_method_21_code 50 = .ok (.iconst 2, 1) := by decide +kernel
theorem d_Y_read_51 : decode prog_11_method_21_code 51 = .ok (.iastore, 1) := by decide +kernel
theorem d_Y_read_52 : decode prog_11_method_21_code 52 = .ok (.aload_n 0, 1) := by decide +kernel
theorem d_Y_read_53 : decode prog_11_method_21_code 53 = .ok (.getfield 65, 3) := by decide +kernel
theorem d_Y_read_56 : decode prog_11_method_21_code 56 = .ok (.iload_n 2, 1) := by decide +kernel
theorem d_Y_read_57 : decode prog_11_method_21_code 57 = .ok (.iaload, 1) := by decide +kernel
theorem d_Y_read_58 : decode prog_11_method_21_code 58 = .ok (.ifCond .lt 211, 3) := by decide +kernel
theorem d_Y_read_61 : decode prog_11_method_21_code 61 = .ok (.aload_n 0, 1) := by decide +kernel
theorem d_Y_read_62 : decode prog_11_method_21_code 62 = .ok (.getfield 68, 3) := by decide +kernel
theorem d_Y_read_65 : decode prog_11_method_21_code 65 = .ok (.iload_n 2, 1) := by decide +kernel
theorem d_Y_read_66 : decode prog_11_method_21_code 66 = .ok (.iaload, 1) := by decide +kernel
theorem d_Y_read_67 : decode prog_11_method_21_code 67 = .ok (.aload_n 0, 1) := by decide +kernel
theorem d_Y_read_68 : decode prog_11_method_21_code 68 = .ok (.getfield 53, 3) := by decide +kernel
theorem d_Y_read_71 : decode prog_11_method_21_code 71 = .ok (.iload_n 1, 1) := by decide +kernel
theorem d_Y_read_72 : decode prog_11_method_21_code 72 = .ok (.iaload, 1) := by decide +kernel
theorem d_Y_read_73 : decode prog_11_method_21_code 73 = .ok (.if_icmp .ne 196, 3) := by decide +kernel
theorem d_Y_read_76 : decode prog_11_method_21_code 76 = .ok (.iload 4, 2) := by decide +kernel
theorem d_Y_read_78 : decode prog_11_method_21_code 78 = .ok (.ifCond .eq 191, 3) := by decide +kernel
theorem d_Y_read_81 : decode prog_11_method_21_code 81 = .ok (.aload_n 0, 1) := by decide +kernel
theorem d_Y_read_82 : decode prog_11_method_21_code 82 = .ok (.getfield 74, 3) := by decide +kernel
theorem d_Y_read_85 : decode prog_11_method_21_code 85 = .ok (.iload_n 2, 1) := by decide +kernel
theorem d_Y_read_86 : decode prog_11_method_21_code 86 = .ok (.aload_n 0, 1) := by decide +kernel
theorem d_Y_read_87 : decode prog_11_method_21_code 87 = .ok (.getfield 56, 3) := by decide +kernel
theorem d_Y_read_90 : decode prog_11_method_21_code 90 = .ok (.iload_n 1, 1) := by decide +kernel
theorem d_Y_read_91 : decode prog_11_method_21_code 91 = .ok (.iaload, 1) := by decide +kernel
theorem d_Y_read_92 : decode prog_11_method_21_code 92 = .ok (.iastore, 1) := by decide +kernel
theorem d_Y_read_93 : decode prog_11_method_21_code 93 = .ok (.aload_n 0, 1) := by decide +kernel
theorem d_Y_read_94 : decode prog_11_method_21_code 94 = .ok (.getfield 77, 3) := by decide +kernel
theorem d_Y_read_97 : decode prog_11_method_21_code 97 = .ok (.iload_n 2, 1) := by decide +kernel
theorem d_Y_read_98 : decode prog_11_method_21_code 98 = .ok (.aload_n 0, 1) := by decide +kernel
theorem d_Y_read_99 : decode prog_11_method_21_code 99 = .ok (.getfield 41, 3) := by decide +kernel
theorem d_Y_read_102 : decode prog_11_method_21_code 102 = .ok (.iload_n 1, 1) := by decide +kernel
theorem d_Y_read_103 : decode prog_11_method_21_code 103 = .ok (.iaload, 1) := by decide +kernel
theorem d_Y_read_104 : decode prog_11_method_21_code 104 = .ok (.iastore, 1) := by decide +kernel
theorem d_Y_read_105 : decode prog_11_method_21_code 105 = .ok (.aload_n 0, 1) := by decide +kernel
theorem d_Y_read_106 : decode prog_11_method_21_code 106 = .ok (.getfield 65, 3) := by decide +kernel
theorem d_Y_read_109 : decode prog_11_method_21_code 109 = .ok (.iload_n 2, 1) := by decide +kernel
theorem d_Y_read_110 : decode prog_11_method_21_code 110 = .ok (.iload_n 1, 1) := by decide +kernel
theorem d_Y_read_111 : decode prog_11_method_21_code 111 = .ok (.iastore, 1) := by decide +kernel
theorem d_Y_read_112 : decode prog_11_method_21_code 112 = .ok (.goto 157, 3) := by decide +kernel
theorem d_Y_read_115 : decode prog_11_method_21_code 115 = .ok (.iload_n 3, 1) := by decide +kernel
theorem d_Y_read_116 : decode prog_11_method_21_code 116 = .ok (.sipush 200, 3) := by decide +kernel
theorem d_Y_read_119 : decode prog_11_method_21_code 119 = .ok (.if_icmp .ne 94, 3) := by decide +kernel
theorem d_Y_read_122 : decode prog_11_method_21_code 122 = .ok (.aload_n 0, 1) := by decide +kernel
theorem d_Y_read_123 : decode prog_11_method_21_code 123 = .ok (.getfield 23, 3) := by decide +kernel
theorem d_Y_read_126 : decode prog_11_method_21_code 126 = .ok (.iload_n 1, 1) := by decide +kernel
theorem d_Y_read_127 : decode prog_11_method_21_code 127 = .ok (.baload, 1) := by decide +kernel
theorem d_Y_read_128 : decode prog_11_method_21_code 128 = .ok (.ifCond .ne 85, 3) := by decide +kernel
theorem d_Y_read_131 : decode prog_11_method_21_code 131 = .ok (.aload_n 0, 1) := by decide +kernel
theorem d_Y_read_132 : decode prog_11_method_21_code 132 = .ok (.getfield 29, 3) := by decide +kernel
theorem d_Y_read_135 : decode prog_11_method_21_code 135 = .ok (.iload_n 1, 1) := by decide +kernel
theorem d_Y_read_136 : decode prog_11_method_21_code 136 = .ok (.iconst 1, 1) := by decide +kernel
theorem d_Y_read_137 : decode prog_11_method_21_code 137 = .ok (.iastore, 1) := by decide +kernel
theorem d_Y_read_138 : decode prog_11_method_21_code 138 = .ok (.aload_n 0, 1) := by decide +kernel
theorem d_Y_read_139 : decode prog_11_method_21_code 139 = .ok (.getfield 44, 3) := by decide +kernel
theorem d_Y_read_142 : decode prog_11_method_21_code 142 = .ok (.iload_n 1, 1) := by decide +kernel
theorem d_Y_read_143 : decode prog_11_method_21_code 143 = .ok (.aload_n 0, 1) := by decide +kernel
theorem d_Y_read_144 : decode prog_11_method_21_code 144 = .ok (.getfield 59, 3) := by decide +kernel
theorem d_Y_read_147 : decode prog_11_method_21_code 147 = .ok (.iload_n 1, 1) := by decide +kernel
theorem d_Y_read_148 : decode prog_11_method_21_code 148 = .ok (.iaload, 1) := by decide +kernel
theorem d_Y_read_149 : decode prog_11_method_21_code 149 = .ok (.iastore, 1) := by decide +kernel
theorem d_Y_read_150 : decode prog_11_method_21_code 150 = .ok (.iload 4, 2) := by decide +kernel
theorem d_Y_read_152 : decode prog_11_method_21_code 152 = .ok (.ifCond .eq 117, 3) := by decide +kernel
theorem d_Y_read_155 : decode prog_11_method_21_code 155 = .ok (.aload_n 0, 1) := by decide +kernel
theorem d_Y_read_156 : decode prog_11_method_21_code 156 = .ok (.getfield 68, 3) := by decide +kernel
theorem d_Y_read_159 : decode prog_11_method_21_code 159 = .ok (.iload_n 2, 1) := by decide +kernel
theorem d_Y_read_160 : decode prog_11_method_21_code 160 = .ok (.aload_n 0, 1) := by decide +kernel
theorem d_Y_read_161 : decode prog_11_method_21_code 161 = .ok (.getfield 53, 3) := by decide +kernel
theorem d_Y_read_164 : decode prog_11_method_21_code 164 = .ok (.iload_n 1, 1) := by decide +kernel
theorem d_Y_read_165 : decode prog_11_method_21_code 165 = .ok (.iaload, 1) := by decide +kernel
theorem d_Y_read_166 : decode prog_11_method_21_code 166 = .ok (.iastore, 1) := by decide +kernel
theorem d_Y_read_167 : decode prog_11_method_21_code 167 = .ok (.aload_n 0, 1) := by decide +kernel
theorem d_Y_read_168 : decode prog_11_method_21_code 168 = .ok (.getfield 71, 3) := by decide +kernel
theorem d_Y_read_171 : decode prog_11_method_21_code 171 = .ok (.iload_n 2, 1) := by decide +kernel
theorem d_Y_read_172 : decode prog_11_method_21_code 172 = .ok (.aload_n 0, 1) := by decide +kernel
theorem d_Y_read_173 : decode prog_11_method_21_code 173 = .ok (.getfield 59, 3) := by decide +kernel
theorem d_Y_read_176 : decode prog_11_method_21_code 176 = .ok (.iload_n 1, 1) := by decide +kernel
theorem d_Y_read_177 : decode prog_11_method_21_code 177 = .ok (.iaload, 1) := by decide +kernel
theorem d_Y_read_178 : decode prog_11_method_21_code 178 = .ok (.iastore, 1) := by decide +kernel
theorem d_Y_read_179 : decode prog_11_method_21_code 179 = .ok (.aload_n 0, 1) := by decide +kernel
theorem d_Y_read_180 : decode prog_11_method_21_code 180 = .ok (.getfield 74, 3) := by decide +kernel
theorem d_Y_read_183 : decode prog_11_method_21_code 183 = .ok (.iload_n 2, 1) := by decide +kernel
theorem d_Y_read_184 : decode prog_11_method_21_code 184 = .ok (.aload_n 0, 1) := by decide +kernel
theorem d_Y_read_185 : decode prog_11_method_21_code 185 = .ok (.getfield 56, 3) := by decide +kernel
theorem d_Y_read_188 : decode prog_11_method_21_code 188 = .ok (.iload_n 1, 1) := by decide +kernel
theorem d_Y_read_189 : decode prog_11_method_21_code 189 = .ok (.iaload, 1) := by decide +kernel
theorem d_Y_read_190 : decode prog_11_method_21_code 190 = .ok (.iastore, 1) := by decide +kernel
theorem d_Y_read_191 : decode prog_11_method_21_code 191 = .ok (.aload_n 0, 1) := by decide +kernel
theorem d_Y_read_192 : decode prog_11_method_21_code 192 = .ok (.getfield 77, 3) := by decide +kernel
theorem d_Y_read_195 : decode prog_11_method_21_code 195 = .ok (.iload_n 2, 1) := by decide +kernel
theorem d_Y_read_196 : decode prog_11_method_21_code 196 = .ok (.aload_n 0, 1) := by decide +kernel
theorem d_Y_read_197 : decode prog_11_method_21_code 197 = .ok (.getfield 41, 3) := by decide +kernel
theorem d_Y_read_200 : decode prog_11_method_21_code 200 = .ok (.iload_n 1, 1) := by decide +kernel
theorem d_Y_read_201 : decode prog_11_method_21_code 201 = .ok (.iaload, 1) := by decide +kernel
theorem d_Y_read_202 : decode prog_11_method_21_code 202 = .ok (.iastore, 1) := by decide +kernel
theorem d_Y_read_203 : decode prog_11_method_21_code 203 = .ok (.aload_n 0, 1) := by decide +kernel
theorem d_Y_read_204 : decode prog_11_method_21_code 204 = .ok (.getfield 65, 3) := by decide +kernel
theorem d_Y_read_207 : decode prog_11_method_21_code 207 = .ok (.iload_n 2, 1) := by decide +kernel
theorem d_Y_read_208 : decode prog_11_method_21_code 208 = .ok (.iload_n 1, 1) := by decide +kernel
theorem d_Y_read_209 : decode prog_11_method_21_code 209 = .ok (.iastore, 1) := by decide +kernel
theorem d_Y_read_210 : decode prog_11_method_21_code 210 = .ok (.goto 59, 3) := by decide +kernel
theorem d_Y_read_213 : decode prog_11_method_21_code 213 = .ok (.iload_n 3, 1) := by decide +kernel
theorem d_Y_read_214 : decode prog_11_method_21_code 214 = .ok (.sipush 412, 3) := by decide +kernel
theorem d_Y_read_217 : decode prog_11_method_21_code 217 = .ok (.if_icmp .ne 13, 3) := by decide +kernel
theorem d_Y_read_220 : decode prog_11_method_21_code 220 = .ok (.aload_n 0, 1) := by decide +kernel
theorem d_Y_read_221 : decode prog_11_method_21_code 221 = .ok (.getfield 29, 3) := by decide +kernel
theorem d_Y_read_224 : decode prog_11_method_21_code 224 = .ok (.iload_n 1, 1) := by decide +kernel
theorem d_Y_read_225 : decode prog_11_method_21_code 225 = .ok (.iconst 5, 1) := by decide +kernel
theorem d_Y_read_226 : decode prog_11_method_21_code 226 = .ok (.iastore, 1) := by decide +kernel
theorem d_Y_read_227 : decode prog_11_method_21_code 227 = .ok (.goto 42, 3) := by decide +kernel
theorem d_Y_read_230 : decode prog_11_method_21_code 230 = .ok (.aload_n 0, 1) := by decide +kernel
theorem d_Y_read_231 : decode prog_11_method_21_code 231 = .ok (.getfield 29, 3) := by decide +kernel
theorem d_Y_read_234 : decode prog_11_method_21_code 234 = .ok (.iload_n 1, 1) := by decide +kernel
theorem d_Y_read_235 : decode prog_11_method_21_code 235 = .ok (.iload_n 3, 1) := by decide +kernel
theorem d_Y_read_236 : decode prog_11_method_21_code 236 = .ok (.sipush 404, 3) := by decide +kernel
theorem d_Y_read_239 : decode prog_11_method_21_code 239 = .ok (.if_icmp .ne 7, 3) := by decide +kernel
theorem d_Y_read_242 : decode prog_11_method_21_code 242 = .ok (.iconst 3, 1) := by decide +kernel
theorem d_Y_read_243 : decode prog_11_method_21_code 243 = .ok (.goto 4, 3) := by decide +kernel
theorem d_Y_read_246 : decode prog_11_method_21_code 246 = .ok (.iconst 4, 1) := by decide +kernel
theorem d_Y_read_247 : decode prog_11_method_21_code 247 = .ok (.iastore, 1) := by decide +kernel
theorem d_Y_read_248 : decode prog_11_method_21_code 248 = .ok (.aload_n 0, 1) := by decide +kernel
theorem d_Y_read_249 : decode prog_11_method_21_code 249 = .ok (.getfield 65, 3) := by decide +kernel
theorem d_Y_read_252 : decode prog_11_method_21_code 252 = .ok (.iload_n 2, 1) := by decide +kernel
theorem d_Y_read_253 : decode prog_11_method_21_code 253 = .ok (.iload 4, 2) := by decide +kernel
theorem d_Y_read_255 : decode prog_11_method_21_code 255 = .ok (.ifCond .eq 7, 3) := by decide +kernel
theorem d_Y_read_258 : decode prog_11_method_21_code 258 = .ok (.iconst (-1), 1) := by decide +kernel
theorem d_Y_read_259 : decode prog_11_method_21_code 259 = .ok (.goto 9, 3) := by decide +kernel
theorem d_Y_read_262 : decode prog_11_method_21_code 262 = .ok (.aload_n 0, 1) := by decide +kernel
theorem d_Y_read_263 : decode prog_11_method_21_code 263 = .ok (.getfield 65, 3) := by decide +kernel
theorem d_Y_read_266 : decode prog_11_method_21_code 266 = .ok (.iload_n 2, 1) := by decide +kernel
theorem d_Y_read_267 : decode prog_11_method_21_code 267 = .ok (.iaload, 1) := by decide +kernel
theorem d_Y_read_268 : decode prog_11_method_21_code 268 = .ok (.iastore, 1) := by decide +kernel
theorem d_Y_read_269 : decode prog_11_method_21_code 269 = .ok (.aload_n 0, 1) := by decide +kernel
theorem d_Y_read_270 : decode prog_11_method_21_code 270 = .ok (.iload_n 1, 1) := by decide +kernel
theorem d_Y_read_271 : decode prog_11_method_21_code 271 = .ok (.invokevirtual 92, 3) := by decide +kernel
theorem d_Y_read_274 : decode prog_11_method_21_code 274 = .ok (.ifCond .le 9, 3) := by decide +kernel
theorem d_Y_read_277 : decode prog_11_method_21_code 277 = .ok (.aload_n 0, 1) := by decide +kernel
theorem d_Y_read_278 : decode prog_11_method_21_code 278 = .ok (.iconst 0, 1) := by decide +kernel
theorem d_Y_read_279 : decode prog_11_method_21_code 279 = .ok (.iload_n 1, 1) := by decide +kernel
theorem d_Y_read_280 : decode prog_11_method_21_code 280 = .ok (.invokevirtual 171, 3) := by decide +kernel
theorem d_Y_read_283 : decode prog_11_method_21_code 283 = .ok (.aload_n 0, 1) := by decide +kernel
theorem d_Y_read_284 : decode prog_11_method_21_code 284 = .ok (.getfield 29, 3) := by decide +kernel
theorem d_Y_read_287 : decode prog_11_method_21_code 287 = .ok (.iload_n 1, 1) := by decide +kernel
theorem d_Y_read_288 : decode prog_11_method_21_code 288 = .ok (.iaload, 1) := by decide +kernel
theorem d_Y_read_289 : decode prog_11_method_21_code 289 = .ok (.ireturn, 1) := by decide +kernel
theorem d_Y_reply_0 : decode prog_11_method_22_code 0 = .ok (.iload_n 1, 1) := by decide +kernel
theorem d_Y_reply_1 : decode prog_11_method_22_code 1 = .ok (.aload_n 0, 1) := by decide +kernel
theorem d_Y_reply_2 : decode prog_11_method_22_code 2 = .ok (.getfield 100, 3) := by decide +kernel
theorem d_Y_reply_5 : decode prog_11_method_22_code 5 = .ok (.iconst 1, 1) := by decide +kernel
theorem d_Y_reply_6 : decode prog_11_method_22_code 6 = .ok (.isub, 1) := by decide +kernel
theorem d_Y_reply_7 : decode prog_11_method_22_code 7 = .ok (.invokestatic 116, 3) := by decide +kernel
theorem d_Y_reply_10 : decode prog_11_method_22_code 10 = .ok (.ifCond .eq 13, 3) := by decide +kernel
theorem d_Y_reply_13 : decode prog_11_method_22_code 13 = .ok (.aload_n 0, 1) := by decide +kernel
theorem d_Y_reply_14 : decode prog_11_method_22_code 14 = .ok (.getfield 47, 3) := by decide +kernel
theorem d_Y_reply_17 : decode prog_11_method_22_code 17 = .ok (.iload_n 1, 1) := by decide +kernel
theorem d_Y_reply_18 : decode prog_11_method_22_code 18 = .ok (.iaload, 1) := by decide +kernel
theorem d_Y_reply_19 : decode prog_11_method_22_code 19 = .ok (.iconst 2, 1) := by decide +kernel
theorem d_Y_reply_20 : decode prog_11_method_22_code 20 = .ok (.if_icmp .eq 5, 3) := by decide +kernel
theorem d_Y_reply_23 : decode prog_11_method_22_code 23 = .ok (.iconst (-1), 1) := by decide +kernel
theorem d_Y_reply_24 : decode prog_11_method_22_code 24 = .ok (.ireturn, 1) := by decide +kernel
theorem d_Y_reply_25 : decode prog_11_method_22_code 25 = .ok (.aload_n 0, 1) := by decide +kernel
theorem d_Y_reply_26 : decode prog_11_method_22_code 26 = .ok (.iload_n 1, 1) := by decide +kernel
theorem d_Y_reply_27 : decode prog_11_method_22_code 27 = .ok (.invokevirtual 92, 3) := by decide +kernel
theorem d_Y_reply_30 : decode prog_11_method_22_code 30 = .ok (.aload_n 0, 1) := by decide +kernel
theorem d_Y_reply_31 : decode prog_11_method_22_code 31 = .ok (.getfield 175, 3) := by decide +kernel
theorem d_Y_reply_34 : decode prog_11_method_22_code 34 = .ok (.if_icmp .le 12, 3) := by decide +kernel
theorem d_Y_reply_37 : decode prog_11_method_22_code 37 = .ok (.aload_n 0, 1) := by decide +kernel
theorem d_Y_reply_38 : decode prog_11_method_22_code 38 = .ok (.getfield 47, 3) := by decide +kernel
theorem d_Y_reply_41 : decode prog_11_method_22_code 41 = .ok (.iload_n 1, 1) := by decide +kernel
theorem d_Y_reply_42 : decode prog_11_method_22_code 42 = .ok (.iconst 3, 1) := by decide +kernel
theorem d_Y_reply_43 : decode prog_11_method_22_code 43 = .ok (.iastore, 1) := by decide +kernel
theorem d_Y_reply_44 : decode prog_11_method_22_code 44 = .ok (.iconst 0, 1) := by decide +kernel
theorem d_Y_reply_45 : decode prog_11_method_22_code 45 = .ok (.ireturn, 1) := by decide +kernel
theorem d_Y_reply_46 : decode prog_11_method_22_code 46 = .ok (.aload_n 0, 1) := by decide +kernel
theorem d_Y_reply_47 : decode prog_11_method_22_code 47 = .ok (.iload_n 1, 1) := by decide +kernel
theorem d_Y_reply_48 : decode prog_11_method_22_code 48 = .ok (.invokevirtual 178, 3) := by decide +kernel
theorem d_Y_reply_51 : decode prog_11_method_22_code 51 = .ok (.ireturn, 1) := by decide +kernel
theorem d_Y_insert_0 : decode prog_11_method_23_code 0 = .ok (.aload_n 0, 1) := by decide +kernel
theorem d_Y_insert_1 : decode prog_11_method_23_code 1 = .ok (.getfield 175, 3) := by decide +kernel
theorem d_Y_insert_4 : decode prog_11_method_23_code 4 = .ok (.aload_n 0, 1) := by decide +kernel
theorem d_Y_insert_5 : decode prog_11_method_23_code 5 = .ok (.getfield 107, 3) := by decide +kernel
theorem d_Y_insert_8 : decode prog_11_method_23_code 8 = .ok (.if_icmp .ne 5, 3) := by decide +kernel
theorem d_Y_insert_11 : decode prog_11_method_23_code 11 = .ok (.iconst (-1), 1) := by decide +kernel
theorem d_Y_insert_12 : decode prog_11_method_23_code 12 = .ok (.ireturn, 1) := by decide +kernel
theorem d_Y_insert_13 : decode prog_11_method_23_code 13 = .ok (.aload_n 0, 1) := by decide +kernel
theorem d_Y_insert_14 : decode prog_11_method_23_code 14 = .ok (.dup, 1) := by decide +kernel
theorem d_Y_insert_15 : decode prog_11_method_23_code 15 = .ok (.getfield 175, 3) := by decide +kernel
theorem d_Y_insert_18 : decode prog_11_method_23_code 18 = .ok (.iconst 1, 1) := by decide +kernel
theorem d_Y_insert_19 : decode prog_11_method_23_code 19 = .ok (.iadd, 1) := by decide +kernel
theorem d_Y_insert_20 : decode prog_11_method_23_code 20 = .ok (.putfield 175, 3) := by decide +kernel
theorem d_Y_insert_23 : decode prog_11_method_23_code 23 = .ok (.iconst 0, 1) := by decide +kernel
theorem d_Y_insert_24 : decode prog_11_method_23_code 24 = .ok (.istore_n 1, 1) := by decide +kernel
theorem d_Y_insert_25 : decode prog_11_method_23_code 25 = .ok (.iconst 0, 1) := by decide +kernel
theorem d_Y_insert_26 : decode prog_11_method_23_code 26 = .ok (.istore_n 2, 1) := by decide +kernel
theorem d_Y_insert_27 : decode prog_11_method_23_code 27 = .ok (.iload_n 2, 1) := by decide +kernel
theorem d_Y_insert_28 : decode prog_11_method_23_code 28 = .ok (.aload_n 0, 1) := by decide +kernel
theorem d_Y_insert_29 : decode prog_11_method_23_code 29 = .ok (.getfield 100, 3) := by decide +kernel
theorem d_Y_insert_32 : decode prog_11_method_23_code 32 = .ok (.if_icmp .ge 49, 3) := by decide +kernel
theorem d_Y_insert_35 : decode prog_11_method_23_code 35 = .ok (.aload_n 0, 1) := by decide +kernel
theorem d_Y_insert_36 : decode prog_11_method_23_code 36 = .ok (.getfield 47, 3) := by decide +kernel
theorem d_Y_insert_39 : decode prog_11_method_23_code 39 = .ok (.iload_n 2, 1) := by decide +kernel
theorem d_Y_insert_40 : decode prog_11_method_23_code 40 = .ok (.iaload, 1) := by decide +kernel
theorem d_Y_insert_41 : decode prog_11_method_23_code 41 = .ok (.iconst 3, 1) := by decide +kernel
theorem d_Y_insert_42 : decode prog_11_method_23_code 42 = .ok (.if_icmp .ne 33, 3) := by decide +kernel
theorem d_Y_insert_45 : decode prog_11_method_23_code 45 = .ok (.aload_n 0, 1) := by decide +kernel
theorem d_Y_insert_46 : decode prog_11_method_23_code 46 = .ok (.iload_n 2, 1) := by decide +kernel
theorem d_Y_insert_47 : decode prog_11_method_23_code 47 = .ok (.invokevirtual 92, 3) := by decide +kernel
theorem d_Y_insert_50 : decode prog_11_method_23_code 50 = .ok (.aload_n 0, 1) := by decide +kernel
theorem d_Y_insert_51 : decode prog_11_method_23_code 51 = .ok (.getfield 175, 3) := by decide +kernel
theorem d_Y_insert_54 : decode prog_11_method_23_code 54 = .ok (.if_icmp .gt 21, 3) := by decide +kernel
theorem d_Y_insert_57 : decode prog_11_method_23_code 57 = .ok (.aload_n 0, 1) := by decide +kernel
theorem d_Y_insert_58 : decode prog_11_method_23_code 58 = .ok (.iload_n 2, 1) := by decide +kernel
theorem d_Y_insert_59 : decode prog_11_method_23_code 59 = .ok (.invokevirtual 178, 3) := by decide +kernel
theorem d_Y_insert_62 : decode prog_11_method_23_code 62 = .ok (.istore_n 3, 1) := by decide +kernel
theorem d_Y_insert_63 : decode prog_11_method_23_code 63 = .ok (.iload_n 3, 1) := by decide +kernel
theorem d_Y_insert_64 : decode prog_11_method_23_code 64 = .ok (.ifCond .le 9, 3) := by decide +kernel
theorem d_Y_insert_67 : decode prog_11_method_23_code 67 = .ok (.iload_n 1, 1) := by decide +kernel
theorem d_Y_insert_68 : decode prog_11_method_23_code 68 = .ok (.iconst 1, 1) := by decide +kernel
theorem d_Y_insert_69 : decode prog_11_method_23_code 69 = .ok (.iadd, 1) := by decide +kernel
theorem d_Y_insert_70 : decode prog_11_method_23_code 70 = .ok (.goto 4, 3) := by decide +kernel
theorem d_Y_insert_73 : decode prog_11_method_23_code 73 = .ok (.iload_n 1, 1) := by decide +kernel
theorem d_Y_insert_74 : decode prog_11_method_23_code 74 = .ok (.istore_n 1, 1) := by decide +kernel
theorem d_Y_insert_75 : decode prog_11_method_23_code 75 = .ok (.iinc 2 1, 3) := by decide +kernel
theorem d_Y_insert_78 : decode prog_11_method_23_code 78 = .ok (.goto (-51), 3) := by decide +kernel
theorem d_Y_insert_81 : decode prog_11_method_23_code 81 = .ok (.iload_n 1, 1) := by decide +kernel
theorem d_Y_insert_82 : decode prog_11_method_23_code 82 = .ok (.ireturn, 1) := by decide +kernel
theorem d_Y_report_0 : decode prog_11_method_24_code 0 = .ok (.aload_n 0, 1) := by decide +kernel
theorem d_Y_report_1 : decode prog_11_method_24_code 1 = .ok (.aload_n 0, 1) := by decide +kernel
theorem d_Y_report_2 : decode prog_11_method_24_code 2 = .ok (.getfield 110, 3) := by decide +kernel
theorem d_Y_report_5 : decode prog_11_method_24_code 5 = .ok (.invokevirtual 124, 3) := by decide +kernel
theorem d_Y_report_8 : decode prog_11_method_24_code 8 = .ok (.istore_n 1, 1) := by decide +kernel
theorem d_Y_report_9 : decode prog_11_method_24_code 9 = .ok (.aload_n 0, 1) := by decide +kernel
theorem d_Y_report_10 : decode prog_11_method_24_code 10 = .ok (.getfield 175, 3) := by decide +kernel
theorem d_Y_report_13 : decode prog_11_method_24_code 13 = .ok (.iload_n 1, 1) := by decide +kernel
theorem d_Y_report_14 : decode prog_11_method_24_code 14 = .ok (.if_icmp .gt 5, 3) := by decide +kernel
theorem d_Y_report_17 : decode prog_11_method_24_code 17 = .ok (.iconst 0, 1) := by decide +kernel
theorem d_Y_report_18 : decode prog_11_method_24_code 18 = .ok (.ireturn, 1) := by decide +kernel
theorem d_Y_report_19 : decode prog_11_method_24_code 19 = .ok (.aload_n 0, 1) := by decide +kernel
theorem d_Y_report_20 : decode prog_11_method_24_code 20 = .ok (.iconst 2, 1) := by decide +kernel
theorem d_Y_report_21 : decode prog_11_method_24_code 21 = .ok (.aload_n 0, 1) := by decide +kernel
theorem d_Y_report_22 : decode prog_11_method_24_code 22 = .ok (.getfield 175, 3) := by decide +kernel
theorem d_Y_report_25 : decode prog_11_method_24_code 25 = .ok (.iload_n 1, 1) := by decide +kernel
theorem d_Y_report_26 : decode prog_11_method_24_code 26 = .ok (.isub, 1) := by decide +kernel
theorem d_Y_report_27 : decode prog_11_method_24_code 27 = .ok (.invokevirtual 171, 3) := by decide +kernel
theorem d_Y_report_30 : decode prog_11_method_24_code 30 = .ok (.iconst 1, 1) := by decide +kernel
theorem d_Y_report_31 : decode prog_11_method_24_code 31 = .ok (.ireturn, 1) := by decide +kernel
theorem d_Y_notice_0 : decode prog_11_method_25_code 0 = .ok (.aload_n 0, 1) := by decide +kernel
theorem d_Y_notice_1 : decode prog_11_method_25_code 1 = .ok (.getfield 144, 3) := by decide +kernel
theorem d_Y_notice_4 : decode prog_11_method_25_code 4 = .ok (.ifCond .eq 10, 3) := by decide +kernel
theorem d_Y_notice_7 : decode prog_11_method_25_code 7 = .ok (.aload_n 0, 1) := by decide +kernel
theorem d_Y_notice_8 : decode prog_11_method_25_code 8 = .ok (.getfield 164, 3) := by decide +kernel
theorem d_Y_notice_11 : decode prog_11_method_25_code 11 = .ok (.ifCond .eq 5, 3) := by decide +kernel
theorem d_Y_notice_14 : decode prog_11_method_25_code 14 = .ok (.iconst (-1), 1) := by decide +kernel
theorem d_Y_notice_15 : decode prog_11_method_25_code 15 = .ok (.ireturn, 1) := by decide +kernel
theorem d_Y_notice_16 : decode prog_11_method_25_code 16 = .ok (.aload_n 0, 1) := by decide +kernel
theorem d_Y_notice_17 : decode prog_11_method_25_code 17 = .ok (.iconst 1, 1) := by decide +kernel
theorem d_Y_notice_18 : decode prog_11_method_25_code 18 = .ok (.putfield 164, 3) := by decide +kernel
theorem d_Y_notice_21 : decode prog_11_method_25_code 21 = .ok (.iconst 0, 1) := by decide +kernel
theorem d_Y_notice_22 : decode prog_11_method_25_code 22 = .ok (.istore_n 1, 1) := by decide +kernel
theorem d_Y_notice_23 : decode prog_11_method_25_code 23 = .ok (.aload_n 0, 1) := by decide +kernel
theorem d_Y_notice_24 : decode prog_11_method_25_code 24 = .ok (.getfield 148, 3) := by decide +kernel
theorem d_Y_notice_27 : decode prog_11_method_25_code 27 = .ok (.istore_n 2, 1) := by decide +kernel
theorem d_Y_notice_28 : decode prog_11_method_25_code 28 = .ok (.iload_n 2, 1) := by decide +kernel
theorem d_Y_notice_29 : decode prog_11_method_25_code 29 = .ok (.aload_n 0, 1) := by decide +kernel
theorem d_Y_notice_30 : decode prog_11_method_25_code 30 = .ok (.getfield 100, 3) := by decide +kernel
theorem d_Y_notice_33 : decode prog_11_method_25_code 33 = .ok (.if_icmp .ge 36, 3) := by decide +kernel
theorem d_Y_notice_36 : decode prog_11_method_25_code 36 = .ok (.aload_n 0, 1) := by decide +kernel
theorem d_Y_notice_37 : decode prog_11_method_25_code 37 = .ok (.getfield 29, 3) := by decide +kernel
theorem d_Y_notice_40 : decode prog_11_method_25_code 40 = .ok (.iload_n 2, 1) := by decide +kernel
theorem d_Y_notice_41 : decode prog_11_method_25_code 41 = .ok (.iaload, 1) := by decide +kernel
theorem d_Y_notice_42 : decode prog_11_method_25_code 42 = .ok (.ifCond .ne 21, 3) := by decide +kernel
theorem d_Y_notice_45 : decode prog_11_method_25_code 45 = .ok (.aload_n 0, 1) := by decide +kernel
theorem d_Y_notice_46 : decode prog_11_method_25_code 46 = .ok (.getfield 29, 3) := by decide +kernel
theorem d_Y_notice_49 : decode prog_11_method_25_code 49 = .ok (.iload_n 2, 1) := by decide +kernel
theorem d_Y_notice_50 : decode prog_11_method_25_code 50 = .ok (.bipush 7, 2) := by decide +kernel
theorem d_Y_notice_52 : decode prog_11_method_25_code 52 = .ok (.iastore, 1) := by decide +kernel
theorem d_Y_notice_53 : decode prog_11_method_25_code 53 = .ok (.aload_n 0, 1) := by decide +kernel
theorem d_Y_notice_54 : decode prog_11_method_25_code 54 = .ok (.getfield 47, 3) := by decide +kernel
theorem d_Y_notice_57 : decode prog_11_method_25_code 57 = .ok (.iload_n 2, 1) := by decide +kernel
theorem d_Y_notice_58 : decode prog_11_method_25_code 58 = .ok (.iconst 0, 1) := by decide +kernel
theorem d_Y_notice_59 : decode prog_11_method_25_code 59 = .ok (.iastore, 1) := by decide +kernel
theorem d_Y_notice_60 : decode prog_11_method_25_code 60 = .ok (.iinc 1 1, 3) := by decide +kernel
theorem d_Y_notice_63 : decode prog_11_method_25_code 63 = .ok (.iinc 2 1, 3) := by decide +kernel
theorem d_Y_notice_66 : decode prog_11_method_25_code 66 = .ok (.goto (-38), 3) := by decide +kernel
theorem d_Y_notice_69 : decode prog_11_method_25_code 69 = .ok (.iload_n 1, 1) := by decide +kernel
theorem d_Y_notice_70 : decode prog_11_method_25_code 70 = .ok (.ireturn, 1) := by decide +kernel
theorem d_Y_cancel_0 : decode prog_11_method_26_code 0 = .ok (.iload_n 1, 1) := by decide +kernel
theorem d_Y_cancel_1 : decode prog_11_method_26_code 1 = .ok (.aload_n 0, 1) := by decide +kernel
theorem d_Y_cancel_2 : decode prog_11_method_26_code 2 = .ok (.getfield 100, 3) := by decide +kernel
theorem d_Y_cancel_5 : decode prog_11_method_26_code 5 = .ok (.iconst 1, 1) := by decide +kernel
theorem d_Y_cancel_6 : decode prog_11_method_26_code 6 = .ok (.isub, 1) := by decide +kernel
theorem d_Y_cancel_7 : decode prog_11_method_26_code 7 = .ok (.invokestatic 116, 3) := by decide +kernel
theorem d_Y_cancel_10 : decode prog_11_method_26_code 10 = .ok (.ifCond .eq 12, 3) := by decide +kernel
theorem d_Y_cancel_13 : decode prog_11_method_26_code 13 = .ok (.aload_n 0, 1) := by decide +kernel
theorem d_Y_cancel_14 : decode prog_11_method_26_code 14 = .ok (.getfield 29, 3) := by decide +kernel
theorem d_Y_cancel_17 : decode prog_11_method_26_code 17 = .ok (.iload_n 1, 1) := by decide +kernel
theorem d_Y_cancel_18 : decode prog_11_method_26_code 18 = .ok (.iaload, 1) := by decide +kernel
theorem d_Y_cancel_19 : decode prog_11_method_26_code 19 = .ok (.ifCond .eq 5, 3) := by decide +kernel
theorem d_Y_cancel_22 : decode prog_11_method_26_code 22 = .ok (.iconst 0, 1) := by decide +kernel
theorem d_Y_cancel_23 : decode prog_11_method_26_code 23 = .ok (.ireturn, 1) := by decide +kernel
theorem d_Y_cancel_24 : decode prog_11_method_26_code 24 = .ok (.aload_n 0, 1) := by decide +kernel
theorem d_Y_cancel_25 : decode prog_11_method_26_code 25 = .ok (.getfield 29, 3) := by decide +kernel
theorem d_Y_cancel_28 : decode prog_11_method_26_code 28 = .ok (.iload_n 1, 1) := by decide +kernel
theorem d_Y_cancel_29 : decode prog_11_method_26_code 29 = .ok (.bipush 6, 2) := by decide +kernel
theorem d_Y_cancel_31 : decode prog_11_method_26_code 31 = .ok (.iastore, 1) := by decide +kernel
theorem d_Y_cancel_32 : decode prog_11_method_26_code 32 = .ok (.aload_n 0, 1) := by decide +kernel
theorem d_Y_cancel_33 : decode prog_11_method_26_code 33 = .ok (.getfield 47, 3) := by decide +kernel
theorem d_Y_cancel_36 : decode prog_11_method_26_code 36 = .ok (.iload_n 1, 1) := by decide +kernel
theorem d_Y_cancel_37 : decode prog_11_method_26_code 37 = .ok (.iconst 0, 1) := by decide +kernel
theorem d_Y_cancel_38 : decode prog_11_method_26_code 38 = .ok (.iastore, 1) := by decide +kernel
theorem d_Y_cancel_39 : decode prog_11_method_26_code 39 = .ok (.aload_n 0, 1) := by decide +kernel
theorem d_Y_cancel_40 : decode prog_11_method_26_code 40 = .ok (.iconst 1, 1) := by decide +kernel
theorem d_Y_cancel_41 : decode prog_11_method_26_code 41 = .ok (.iload_n 1, 1) := by decide +kernel
theorem d_Y_cancel_42 : decode prog_11_method_26_code 42 = .ok (.invokevirtual 171, 3) := by decide +kernel
theorem d_Y_cancel_45 : decode prog_11_method_26_code 45 = .ok (.iconst 1, 1) := by decide +kernel
theorem d_Y_cancel_46 : decode prog_11_method_26_code 46 = .ok (.ireturn, 1) := by decide +kernel
theorem d_Y_tick_0 : decode prog_11_method_27_code 0 = .ok (.iload_n 1, 1) := by decide +kernel
theorem d_Y_tick_1 : decode prog_11_method_27_code 1 = .ok (.sipush 1000, 3) := by decide +kernel
theorem d_Y_tick_4 : decode prog_11_method_27_code 4 = .ok (.invokestatic 116, 3) := by decide +kernel
theorem d_Y_tick_7 : decode prog_11_method_27_code 7 = .ok (.ifCond .ne 5, 3) := by decide +kernel
theorem d_Y_tick_10 : decode prog_11_method_27_code 10 = .ok (.iconst 0, 1) := by decide +kernel
theorem d_Y_tick_11 : decode prog_11_method_27_code 11 = .ok (.ireturn, 1) := by decide +kernel
theorem d_Y_tick_12 : decode prog_11_method_27_code 12 = .ok (.aload_n 0, 1) := by decide +kernel
theorem d_Y_tick_13 : decode prog_11_method_27_code 13 = .ok (.aload_n 0, 1) := by decide +kernel
theorem d_Y_tick_14 : decode prog_11_method_27_code 14 = .ok (.getfield 161, 3) := by decide +kernel
theorem d_Y_tick_17 : decode prog_11_method_27_code 17 = .ok (.iload_n 1, 1) := by decide +kernel
theorem d_Y_tick_18 : decode prog_11_method_27_code 18 = .ok (.iadd, 1) := by decide +kernel
theorem d_Y_tick_19 : decode prog_11_method_27_code 19 = .ok (.putfield 161, 3) := by decide +kernel
theorem d_Y_tick_22 : decode prog_11_method_27_code 22 = .ok (.iconst 1, 1) := by decide +kernel
theorem d_Y_tick_23 : decode prog_11_method_27_code 23 = .ok (.ireturn, 1) := by decide +kernel
theorem d_Y_outcome_0 : decode prog_11_method_28_code 0 = .ok (.iload_n 1, 1) := by decide +kernel
theorem d_Y_outcome_1 : decode prog_11_method_28_code 1 = .ok (.aload_n 0, 1) := by decide +kernel
theorem d_Y_outcome_2 : decode prog_11_method_28_code 2 = .ok (.getfield 100, 3) := by decide +kernel
theorem d_Y_outcome_5 : decode prog_11_method_28_code 5 = .ok (.iconst 1, 1) := by decide +kernel
theorem d_Y_outcome_6 : decode prog_11_method_28_code 6 = .ok (.isub, 1) := by decide +kernel
theorem d_Y_outcome_7 : decode prog_11_method_28_code 7 = .ok (.invokestatic 116, 3) := by decide +kernel
theorem d_Y_outcome_10 : decode prog_11_method_28_code 10 = .ok (.ifCond .eq 12, 3) := by decide +kernel
theorem d_Y_outcome_13 : decode prog_11_method_28_code 13 = .ok (.aload_n 0, 1) := by decide +kernel
theorem d_Y_outcome_14 : decode prog_11_method_28_code 14 = .ok (.getfield 29, 3) := by decide +kernel
theorem d_Y_outcome_17 : decode prog_11_method_28_code 17 = .ok (.iload_n 1, 1) := by decide +kernel
theorem d_Y_outcome_18 : decode prog_11_method_28_code 18 = .ok (.iaload, 1) := by decide +kernel
theorem d_Y_outcome_19 : decode prog_11_method_28_code 19 = .ok (.goto 4, 3) := by decide +kernel
theorem d_Y_outcome_22 : decode prog_11_method_28_code 22 = .ok (.iconst (-1), 1) := by decide +kernel
theorem d_Y_outcome_23 : decode prog_11_method_28_code 23 = .ok (.ireturn, 1) := by decide +kernel
theorem d_Y_content_0 : decode prog_11_method_29_code 0 = .ok (.iload_n 1, 1) := by decide +kernel
theorem d_Y_content_1 : decode prog_11_method_29_code 1 = .ok (.aload_n 0, 1) := by decide +kernel
theorem d_Y_content_2 : decode prog_11_method_29_code 2 = .ok (.getfield 100, 3) := by decide +kernel
theorem d_Y_content_5 : decode prog_11_method_29_code 5 = .ok (.iconst 1, 1) := by decide +kernel
theorem d_Y_content_6 : decode prog_11_method_29_code 6 = .ok (.isub, 1) := by decide +kernel
theorem d_Y_content_7 : decode prog_11_method_29_code 7 = .ok (.invokestatic 116, 3) := by decide +kernel
theorem d_Y_content_10 : decode prog_11_method_29_code 10 = .ok (.ifCond .ne 5, 3) := by decide +kernel
theorem d_Y_content_13 : decode prog_11_method_29_code 13 = .ok (.iconst (-1), 1) := by decide +kernel
theorem d_Y_content_14 : decode prog_11_method_29_code 14 = .ok (.ireturn, 1) := by decide +kernel
theorem d_Y_content_15 : decode prog_11_method_29_code 15 = .ok (.aload_n 0, 1) := by decide +kernel
theorem d_Y_content_16 : decode prog_11_method_29_code 16 = .ok (.getfield 29, 3) := by decide +kernel
theorem d_Y_content_19 : decode prog_11_method_29_code 19 = .ok (.iload_n 1, 1) := by decide +kernel
theorem d_Y_content_20 : decode prog_11_method_29_code 20 = .ok (.iaload, 1) := by decide +kernel
theorem d_Y_content_21 : decode prog_11_method_29_code 21 = .ok (.istore_n 2, 1) := by decide +kernel
theorem d_Y_content_22 : decode prog_11_method_29_code 22 = .ok (.iload_n 2, 1) := by decide +kernel
theorem d_Y_content_23 : decode prog_11_method_29_code 23 = .ok (.iconst 1, 1) := by decide +kernel
theorem d_Y_content_24 : decode prog_11_method_29_code 24 = .ok (.if_icmp .eq 14, 3) := by decide +kernel
theorem d_Y_content_27 : decode prog_11_method_29_code 27 = .ok (.iload_n 2, 1) := by decide +kernel
theorem d_Y_content_28 : decode prog_11_method_29_code 28 = .ok (.iconst 2, 1) := by decide +kernel
theorem d_Y_content_29 : decode prog_11_method_29_code 29 = .ok (.if_icmp .eq 9, 3) := by decide +kernel
theorem d_Y_content_32 : decode prog_11_method_29_code 32 = .ok (.iload_n 2, 1) := by decide +kernel
theorem d_Y_content_33 : decode prog_11_method_29_code 33 = .ok (.bipush 8, 2) := by decide +kernel
theorem d_Y_content_35 : decode prog_11_method_29_code 35 = .ok (.if_icmp .ne 12, 3) := by decide +kernel
theorem d_Y_content_38 : decode prog_11_method_29_code 38 = .ok (.aload_n 0, 1) := by decide +kernel
theorem d_Y_content_39 : decode prog_11_method_29_code 39 = .ok (.getfield 44, 3) := by decide +kernel
theorem d_Y_content_42 : decode prog_11_method_29_code 42 = .ok (.iload_n 1, 1) := by decide +kernel
theorem d_Y_content_43 : decode prog_11_method_29_code 43 = .ok (.iaload, 1) := by decide +kernel
theorem d_Y_content_44 : decode prog_11_method_29_code 44 = .ok (.goto 4, 3) := by decide +kernel
theorem d_Y_content_47 : decode prog_11_method_29_code 47 = .ok (.iconst 0, 1) := by decide +kernel
theorem d_Y_content_48 : decode prog_11_method_29_code 48 = .ok (.ireturn, 1) := by decide +kernel
theorem d_Y_stored_0 : decode prog_11_method_30_code 0 = .ok (.iload_n 1, 1) := by decide +kernel
theorem d_Y_stored_1 : decode prog_11_method_30_code 1 = .ok (.iconst 5, 1) := by decide +kernel
theorem d_Y_stored_2 : decode prog_11_method_30_code 2 = .ok (.invokestatic 116, 3) := by decide +kernel
theorem d_Y_stored_5 : decode prog_11_method_30_code 5 = .ok (.ifCond .eq 20, 3) := by decide +kernel
theorem d_Y_stored_8 : decode prog_11_method_30_code 8 = .ok (.iload_n 2, 1) := by decide +kernel
theorem d_Y_stored_9 : decode prog_11_method_30_code 9 = .ok (.iconst 3, 1) := by decide +kernel
theorem d_Y_stored_10 : decode prog_11_method_30_code 10 = .ok (.invokestatic 116, 3) := by decide +kernel
theorem d_Y_stored_13 : decode prog_11_method_30_code 13 = .ok (.ifCond .eq 12, 3) := by decide +kernel
theorem d_Y_stored_16 : decode prog_11_method_30_code 16 = .ok (.aload_n 0, 1) := by decide +kernel
theorem d_Y_stored_17 : decode prog_11_method_30_code 17 = .ok (.getfield 65, 3) := by decide +kernel
theorem d_Y_stored_20 : decode prog_11_method_30_code 20 = .ok (.iload_n 1, 1) := by decide +kernel
theorem d_Y_stored_21 : decode prog_11_method_30_code 21 = .ok (.iaload, 1) := by decide +kernel
theorem d_Y_stored_22 : decode prog_11_method_30_code 22 = .ok (.ifCond .ge 5, 3) := by decide +kernel
theorem d_Y_stored_25 : decode prog_11_method_30_code 25 = .ok (.iconst (-1), 1) := by decide +kernel
theorem d_Y_stored_26 : decode prog_11_method_30_code 26 = .ok (.ireturn, 1) := by decide +kernel
theorem d_Y_stored_27 : decode prog_11_method_30_code 27 = .ok (.aload_n 0, 1) := by decide +kernel
theorem d_Y_stored_28 : decode prog_11_method_30_code 28 = .ok (.getfield 74, 3) := by decide +kernel
theorem d_Y_stored_31 : decode prog_11_method_30_code 31 = .ok (.iload_n 1, 1) := by decide +kernel
theorem d_Y_stored_32 : decode prog_11_method_30_code 32 = .ok (.iaload, 1) := by decide +kernel
theorem d_Y_stored_33 : decode prog_11_method_30_code 33 = .ok (.aload_n 0, 1) := by decide +kernel
theorem d_Y_stored_34 : decode prog_11_method_30_code 34 = .ok (.getfield 161, 3) := by decide +kernel
theorem d_Y_stored_37 : decode prog_11_method_30_code 37 = .ok (.aload_n 0, 1) := by decide +kernel
theorem d_Y_stored_38 : decode prog_11_method_30_code 38 = .ok (.getfield 77, 3) := by decide +kernel
theorem d_Y_stored_41 : decode prog_11_method_30_code 41 = .ok (.iload_n 1, 1) := by decide +kernel
theorem d_Y_stored_42 : decode prog_11_method_30_code 42 = .ok (.iaload, 1) := by decide +kernel
theorem d_Y_stored_43 : decode prog_11_method_30_code 43 = .ok (.isub, 1) := by decide +kernel
theorem d_Y_stored_44 : decode prog_11_method_30_code 44 = .ok (.isub, 1) := by decide +kernel
theorem d_Y_stored_45 : decode prog_11_method_30_code 45 = .ok (.istore_n 3, 1) := by decide +kernel
theorem d_Y_stored_46 : decode prog_11_method_30_code 46 = .ok (.iload_n 2, 1) := by decide +kernel
theorem d_Y_stored_47 : decode prog_11_method_30_code 47 = .ok (.ifCond .ne 12, 3) := by decide +kernel
theorem d_Y_stored_50 : decode prog_11_method_30_code 50 = .ok (.aload_n 0, 1) := by decide +kernel
theorem d_Y_stored_51 : decode prog_11_method_30_code 51 = .ok (.getfield 68, 3) := by decide +kernel
theorem d_Y_stored_54 : decode prog_11_method_30_code 54 = .ok (.iload_n 1, 1) := by decide +kernel
theorem d_Y_stored_55 : decode prog_11_method_30_code 55 = .ok (.iaload, 1) := by decide +kernel
theorem d_Y_stored_56 : decode prog_11_method_30_code 56 = .ok (.goto 40, 3) := by decide +kernel
theorem d_Y_stored_59 : decode prog_11_method_30_code 59 = .ok (.iload_n 2, 1) := by decide +kernel
theorem d_Y_stored_60 : decode prog_11_method_30_code 60 = .ok (.iconst 1, 1) := by decide +kernel
theorem d_Y_stored_61 : decode prog_11_method_30_code 61 = .ok (.if_icmp .ne 12, 3) := by decide +kernel
theorem d_Y_stored_64 : decode prog_11_method_30_code 64 = .ok (.aload_n 0, 1) := by decide +kernel
theorem d_Y_stored_65 : decode prog_11_method_30_code 65 = .ok (.getfield 71, 3) := by decide +kernel
theorem d_Y_stored_68 : decode prog_11_method_30_code 68 = .ok (.iload_n 1, 1) := by decide +kernel
theorem d_Y_stored_69 : decode prog_11_method_30_code 69 = .ok (.iaload, 1) := by decide +kernel
theorem d_Y_stored_70 : decode prog_11_method_30_code 70 = .ok (.goto 26, 3) := by decide +kernel
theorem d_Y_stored_73 : decode prog_11_method_30_code 73 = .ok (.iload_n 2, 1) := by decide +kernel
theorem d_Y_stored_74 : decode prog_11_method_30_code 74 = .ok (.iconst 2, 1) := by decide +kernel
theorem d_Y_stored_75 : decode prog_11_method_30_code 75 = .ok (.if_icmp .ne 12, 3) := by decide +kernel
theorem d_Y_stored_78 : decode prog_11_method_30_code 78 = .ok (.aload_n 0, 1) := by decide +kernel
theorem d_Y_stored_79 : decode prog_11_method_30_code 79 = .ok (.getfield 65, 3) := by decide +kernel
theorem d_Y_stored_82 : decode prog_11_method_30_code 82 = .ok (.iload_n 1, 1) := by decide +kernel
theorem d_Y_stored_83 : decode prog_11_method_30_code 83 = .ok (.iaload, 1) := by decide +kernel
theorem d_Y_stored_84 : decode prog_11_method_30_code 84 = .ok (.goto 12, 3) := by decide +kernel
theorem d_Y_stored_87 : decode prog_11_method_30_code 87 = .ok (.iload_n 3, 1) := by decide +kernel
theorem d_Y_stored_88 : decode prog_11_method_30_code 88 = .ok (.ifCond .le 7, 3) := by decide +kernel
theorem d_Y_stored_91 : decode prog_11_method_30_code 91 = .ok (.iload_n 3, 1) := by decide +kernel
theorem d_Y_stored_92 : decode prog_11_method_30_code 92 = .ok (.goto 4, 3) := by decide +kernel
theorem d_Y_stored_95 : decode prog_11_method_30_code 95 = .ok (.iconst 0, 1) := by decide +kernel
theorem d_Y_stored_96 : decode prog_11_method_30_code 96 = .ok (.ireturn, 1) := by decide +kernel
theorem d_Y_entry_0 : decode prog_11_method_31_code 0 = .ok (.iload_n 1, 1) := by decide +kernel
theorem d_Y_entry_1 : decode prog_11_method_31_code 1 = .ok (.aload_n 0, 1) := by decide +kernel
theorem d_Y_entry_2 : decode prog_11_method_31_code 2 = .ok (.getfield 107, 3) := by decide +kernel
theorem d_Y_entry_5 : decode prog_11_method_31_code 5 = .ok (.aload_n 0, 1) := by decide +kernel
theorem d_Y_entry_6 : decode prog_11_method_31_code 6 = .ok (.invokevirtual 131, 3) := by decide +kernel
theorem d_Y_entry_9 : decode prog_11_method_31_code 9 = .ok (.isub, 1) := by decide +kernel
theorem d_Y_entry_10 : decode prog_11_method_31_code 10 = .ok (.iconst 1, 1) := by decide +kernel
theorem d_Y_entry_11 : decode prog_11_method_31_code 11 = .ok (.isub, 1) := by decide +kernel
theorem d_Y_entry_12 : decode prog_11_method_31_code 12 = .ok (.invokestatic 116, 3) := by decide +kernel
theorem d_Y_entry_15 : decode prog_11_method_31_code 15 = .ok (.ifCond .eq 11, 3) := by decide +kernel
theorem d_Y_entry_18 : decode prog_11_method_31_code 18 = .ok (.iload_n 2, 1) := by decide +kernel
theorem d_Y_entry_19 : decode prog_11_method_31_code 19 = .ok (.iconst 2, 1) := by decide +kernel
theorem d_Y_entry_20 : decode prog_11_method_31_code 20 = .ok (.invokestatic 116, 3) := by decide +kernel
theorem d_Y_entry_23 : decode prog_11_method_31_code 23 = .ok (.ifCond .ne 5, 3) := by decide +kernel
theorem d_Y_entry_26 : decode prog_11_method_31_code 26 = .ok (.iconst (-1), 1) := by decide +kernel
theorem d_Y_entry_27 : decode prog_11_method_31_code 27 = .ok (.ireturn, 1) := by decide +kernel
theorem d_Y_entry_28 : decode prog_11_method_31_code 28 = .ok (.aload_n 0, 1) := by decide +kernel
theorem d_Y_entry_29 : decode prog_11_method_31_code 29 = .ok (.getfield 107, 3) := by decide +kernel
theorem d_Y_entry_32 : decode prog_11_method_31_code 32 = .ok (.iconst 1, 1) := by decide +kernel
theorem d_Y_entry_33 : decode prog_11_method_31_code 33 = .ok (.isub, 1) := by decide +kernel
theorem d_Y_entry_34 : decode prog_11_method_31_code 34 = .ok (.iload_n 1, 1) := by decide +kernel
theorem d_Y_entry_35 : decode prog_11_method_31_code 35 = .ok (.isub, 1) := by decide +kernel
theorem d_Y_entry_36 : decode prog_11_method_31_code 36 = .ok (.istore_n 3, 1) := by decide +kernel
theorem d_Y_entry_37 : decode prog_11_method_31_code 37 = .ok (.iload_n 2, 1) := by decide +kernel
theorem d_Y_entry_38 : decode prog_11_method_31_code 38 = .ok (.ifCond .ne 12, 3) := by decide +kernel
theorem d_Y_entry_41 : decode prog_11_method_31_code 41 = .ok (.aload_n 0, 1) := by decide +kernel
theorem d_Y_entry_42 : decode prog_11_method_31_code 42 = .ok (.getfield 80, 3) := by decide +kernel
theorem d_Y_entry_45 : decode prog_11_method_31_code 45 = .ok (.iload_n 3, 1) := by decide +kernel
theorem d_Y_entry_46 : decode prog_11_method_31_code 46 = .ok (.iaload, 1) := by decide +kernel
theorem d_Y_entry_47 : decode prog_11_method_31_code 47 = .ok (.goto 23, 3) := by decide +kernel
theorem d_Y_entry_50 : decode prog_11_method_31_code 50 = .ok (.iload_n 2, 1) := by decide +kernel
theorem d_Y_entry_51 : decode prog_11_method_31_code 51 = .ok (.iconst 1, 1) := by decide +kernel
theorem d_Y_entry_52 : decode prog_11_method_31_code 52 = .ok (.if_icmp .ne 12, 3) := by decide +kernel
theorem d_Y_entry_55 : decode prog_11_method_31_code 55 = .ok (.aload_n 0, 1) := by decide +kernel
theorem d_Y_entry_56 : decode prog_11_method_31_code 56 = .ok (.getfield 83, 3) := by decide +kernel
theorem d_Y_entry_59 : decode prog_11_method_31_code 59 = .ok (.iload_n 3, 1) := by decide +kernel
theorem d_Y_entry_60 : decode prog_11_method_31_code 60 = .ok (.iaload, 1) := by decide +kernel
theorem d_Y_entry_61 : decode prog_11_method_31_code 61 = .ok (.goto 9, 3) := by decide +kernel
theorem d_Y_entry_64 : decode prog_11_method_31_code 64 = .ok (.aload_n 0, 1) := by decide +kernel
theorem d_Y_entry_65 : decode prog_11_method_31_code 65 = .ok (.iload_n 3, 1) := by decide +kernel
theorem d_Y_entry_66 : decode prog_11_method_31_code 66 = .ok (.iconst (-1), 1) := by decide +kernel
theorem d_Y_entry_67 : decode prog_11_method_31_code 67 = .ok (.invokevirtual 135, 3) := by decide +kernel
theorem d_Y_entry_70 : decode prog_11_method_31_code 70 = .ok (.ireturn, 1) := by decide +kernel
theorem d_Y_count_0 : decode prog_11_method_32_code 0 = .ok (.iconst 0, 1) := by decide +kernel
theorem d_Y_count_1 : decode prog_11_method_32_code 1 = .ok (.istore_n 2, 1) := by decide +kernel
theorem d_Y_count_2 : decode prog_11_method_32_code 2 = .ok (.iconst 0, 1) := by decide +kernel
theorem d_Y_count_3 : decode prog_11_method_32_code 3 = .ok (.istore_n 3, 1) := by decide +kernel
theorem d_Y_count_4 : decode prog_11_method_32_code 4 = .ok (.iconst 0, 1) := by decide +kernel
theorem d_Y_count_5 : decode prog_11_method_32_code 5 = .ok (.istore 4, 2) := by decide +kernel
theorem d_Y_count_7 : decode prog_11_method_32_code 7 = .ok (.iload 4, 2) := by decide +kernel
theorem d_Y_count_9 : decode prog_11_method_32_code 9 = .ok (.aload_n 0, 1) := by decide +kernel
theorem d_Y_count_10 : decode prog_11_method_32_code 10 = .ok (.getfield 100, 3) := by decide +kernel
theorem d_Y_count_13 : decode prog_11_method_32_code 13 = .ok (.if_icmp .ge 45, 3) := by decide +kernel
theorem d_Y_count_16 : decode prog_11_method_32_code 16 = .ok (.aload_n 0, 1) := by decide +kernel
theorem d_Y_count_17 : decode prog_11_method_32_code 17 = .ok (.getfield 47, 3) := by decide +kernel
theorem d_Y_count_20 : decode prog_11_method_32_code 20 = .ok (.iload 4, 2) := by decide +kernel
theorem d_Y_count_22 : decode prog_11_method_32_code 22 = .ok (.iaload, 1) := by decide +kernel
theorem d_Y_count_23 : decode prog_11_method_32_code 23 = .ok (.iconst 3, 1) := by decide +kernel
theorem d_Y_count_24 : decode prog_11_method_32_code 24 = .ok (.if_icmp .ne 9, 3) := by decide +kernel
theorem d_Y_count_27 : decode prog_11_method_32_code 27 = .ok (.iload_n 2, 1) := by decide +kernel
theorem d_Y_count_28 : decode prog_11_method_32_code 28 = .ok (.iconst 1, 1) := by decide +kernel
theorem d_Y_count_29 : decode prog_11_method_32_code 29 = .ok (.iadd, 1) := by decide +kernel
theorem d_Y_count_30 : decode prog_11_method_32_code 30 = .ok (.goto 4, 3) := by decide +kernel
theorem d_Y_count_33 : decode prog_11_method_32_code 33 = .ok (.iload_n 2, 1) := by decide +kernel
theorem d_Y_count_34 : decode prog_11_method_32_code 34 = .ok (.istore_n 2, 1) := by decide +kernel
theorem d_Y_count_35 : decode prog_11_method_32_code 35 = .ok (.aload_n 0, 1) := by decide +kernel
theorem d_Y_count_36 : decode prog_11_method_32_code 36 = .ok (.iload 4, 2) := by decide +kernel
theorem d_Y_count_38 : decode prog_11_method_32_code 38 = .ok (.invokevirtual 103, 3) := by decide +kernel
theorem d_Y_count_41 : decode prog_11_method_32_code 41 = .ok (.ifCond .eq 9, 3) := by decide +kernel
theorem d_Y_count_44 : decode prog_11_method_32_code 44 = .ok (.iload_n 3, 1) := by decide +kernel
theorem d_Y_count_45 : decode prog_11_method_32_code 45 = .ok (.iconst 1, 1) := by decide +kernel
theorem d_Y_count_46 : decode prog_11_method_32_code 46 = .ok (.iadd, 1) := by decide +kernel
theorem d_Y_count_47 : decode prog_11_method_32_code 47 = .ok (.goto 4, 3) := by decide +kernel
theorem d_Y_count_50 : decode prog_11_method_32_code 50 = .ok (.iload_n 3, 1) := by decide +kernel
theorem d_Y_count_51 : decode prog_11_method_32_code 51 = .ok (.istore_n 3, 1) := by decide +kernel
theorem d_Y_count_52 : decode prog_11_method_32_code 52 = .ok (.iinc 4 1, 3) := by decide +kernel
theorem d_Y_count_55 : decode prog_11_method_32_code 55 = .ok (.goto (-48), 3) := by decide +kernel
theorem d_Y_count_58 : decode prog_11_method_32_code 58 = .ok (.iload_n 1, 1) := by decide +kernel
theorem d_Y_count_59 : decode prog_11_method_32_code 59 = .ok (.tableswitch 105 0 8 #[49, 54, 63, 68, 77, 82, 87, 89, 103], 49) := by decide +kernel
theorem d_Y_count_108 : decode prog_11_method_32_code 108 = .ok (.aload_n 0, 1) := by decide +kernel
theorem d_Y_count_109 : decode prog_11_method_32_code 109 = .ok (.getfield 107, 3) := by decide +kernel
theorem d_Y_count_112 : decode prog_11_method_32_code 112 = .ok (.ireturn, 1) := by decide +kernel
theorem d_Y_count_113 : decode prog_11_method_32_code 113 = .ok (.aload_n 0, 1) := by decide +kernel
theorem d_Y_count_114 : decode prog_11_method_32_code 114 = .ok (.aload_n 0, 1) := by decide +kernel
theorem d_Y_count_115 : decode prog_11_method_32_code 115 = .ok (.getfield 96, 3) := by decide +kernel
theorem d_Y_count_118 : decode prog_11_method_32_code 118 = .ok (.invokevirtual 124, 3) := by decide +kernel
theorem d_Y_count_121 : decode prog_11_method_32_code 121 = .ok (.ireturn, 1) := by decide +kernel
theorem d_Y_count_122 : decode prog_11_method_32_code 122 = .ok (.aload_n 0, 1) := by decide +kernel
theorem d_Y_count_123 : decode prog_11_method_32_code 123 = .ok (.getfield 175, 3) := by decide +kernel
theorem d_Y_count_126 : decode prog_11_method_32_code 126 = .ok (.ireturn, 1) := by decide +kernel
theorem d_Y_count_127 : decode prog_11_method_32_code 127 = .ok (.aload_n 0, 1) := by decide +kernel
theorem d_Y_count_128 : decode prog_11_method_32_code 128 = .ok (.aload_n 0, 1) := by decide +kernel
theorem d_Y_count_129 : decode prog_11_method_32_code 129 = .ok (.getfield 110, 3) := by decide +kernel
theorem d_Y_count_132 : decode prog_11_method_32_code 132 = .ok (.invokevirtual 124, 3) := by decide +kernel
theorem d_Y_count_135 : decode prog_11_method_32_code 135 = .ok (.ireturn, 1) := by decide +kernel
theorem d_Y_count_136 : decode prog_11_method_32_code 136 = .ok (.aload_n 0, 1) := by decide +kernel
theorem d_Y_count_137 : decode prog_11_method_32_code 137 = .ok (.getfield 141, 3) := by decide +kernel
theorem d_Y_count_140 : decode prog_11_method_32_code 140 = .ok (.ireturn, 1) := by decide +kernel
theorem d_Y_count_141 : decode prog_11_method_32_code 141 = .ok (.aload_n 0, 1) := by decide +kernel
theorem d_Y_count_142 : decode prog_11_method_32_code 142 = .ok (.getfield 138, 3) := by decide +kernel
theorem d_Y_count_145 : decode prog_11_method_32_code 145 = .ok (.ireturn, 1) := by decide +kernel
theorem d_Y_count_146 : decode prog_11_method_32_code 146 = .ok (.iload_n 3, 1) := by decide +kernel
theorem d_Y_count_147 : decode prog_11_method_32_code 147 = .ok (.ireturn, 1) := by decide +kernel
theorem d_Y_count_148 : decode prog_11_method_32_code 148 = .ok (.aload_n 0, 1) := by decide +kernel
theorem d_Y_count_149 : decode prog_11_method_32_code 149 = .ok (.aload_n 0, 1) := by decide +kernel
theorem d_Y_count_150 : decode prog_11_method_32_code 150 = .ok (.aload_n 0, 1) := by decide +kernel
theorem d_Y_count_151 : decode prog_11_method_32_code 151 = .ok (.getfield 96, 3) := by decide +kernel
theorem d_Y_count_154 : decode prog_11_method_32_code 154 = .ok (.invokevirtual 124, 3) := by decide +kernel
theorem d_Y_count_157 : decode prog_11_method_32_code 157 = .ok (.iconst (-1), 1) := by decide +kernel
theorem d_Y_count_158 : decode prog_11_method_32_code 158 = .ok (.invokevirtual 127, 3) := by decide +kernel
theorem d_Y_count_161 : decode prog_11_method_32_code 161 = .ok (.ireturn, 1) := by decide +kernel
theorem d_Y_count_162 : decode prog_11_method_32_code 162 = .ok (.iload_n 2, 1) := by decide +kernel
theorem d_Y_count_163 : decode prog_11_method_32_code 163 = .ok (.ireturn, 1) := by decide +kernel
theorem d_Y_count_164 : decode prog_11_method_32_code 164 = .ok (.iconst (-1), 1) := by decide +kernel
theorem d_Y_count_165 : decode prog_11_method_32_code 165 = .ok (.ireturn, 1) := by decide +kernel
