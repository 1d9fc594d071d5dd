theorem dL_cell_0 : decode cL_cell 0 = .ok (.iload_n 1, 1) := by decide +kernel
theorem dL_cell_1 : decode cL_cell 1 = .ok (.aload_n 0, 1) := by decide +kernel
theorem dL_cell_2 : decode cL_cell 2 = .ok (.arraylength, 1) := by decide +kernel
theorem dL_cell_3 : decode cL_cell 3 = .ok (.if_icmp .ge 9, 3) := by decide +kernel
theorem dL_cell_6 : decode cL_cell 6 = .ok (.aload_n 0, 1) := by decide +kernel
theorem dL_cell_7 : decode cL_cell 7 = .ok (.iload_n 1, 1) := by decide +kernel
theorem dL_cell_8 : decode cL_cell 8 = .ok (.iaload, 1) := by decide +kernel
theorem dL_cell_9 : decode cL_cell 9 = .ok (.goto 11, 3) := by decide +kernel
theorem dL_cell_12 : decode cL_cell 12 = .ok (.ldc 7, 2) := by decide +kernel
theorem dL_cell_14 : decode cL_cell 14 = .ok (.iload_n 1, 1) := by decide +kernel
theorem dL_cell_15 : decode cL_cell 15 = .ok (.imul, 1) := by decide +kernel
theorem dL_cell_16 : decode cL_cell 16 = .ok (.sipush 7307, 3) := by decide +kernel
theorem dL_cell_19 : decode cL_cell 19 = .ok (.iadd, 1) := by decide +kernel
theorem dL_cell_20 : decode cL_cell 20 = .ok (.ireturn, 1) := by decide +kernel
theorem dL_low_0 : decode cL_low 0 = .ok (.iload_n 0, 1) := by decide +kernel
theorem dL_low_1 : decode cL_low 1 = .ok (.ldc 8, 2) := by decide +kernel
theorem dL_low_3 : decode cL_low 3 = .ok (.iand, 1) := by decide +kernel
theorem dL_low_4 : decode cL_low 4 = .ok (.iload_n 1, 1) := by decide +kernel
theorem dL_low_5 : decode cL_low 5 = .ok (.irem, 1) := by decide +kernel
theorem dL_low_6 : decode cL_low 6 = .ok (.ireturn, 1) := by decide +kernel
theorem dL_bits_0 : decode cL_bits 0 = .ok (.iconst 0, 1) := by decide +kernel
theorem dL_bits_1 : decode cL_bits 1 = .ok (.istore_n 1, 1) := by decide +kernel
theorem dL_bits_2 : decode cL_bits 2 = .ok (.iload_n 0, 1) := by decide +kernel
theorem dL_bits_3 : decode cL_bits 3 = .ok (.istore_n 2, 1) := by decide +kernel
theorem dL_bits_4 : decode cL_bits 4 = .ok (.iload_n 2, 1) := by decide +kernel
theorem dL_bits_5 : decode cL_bits 5 = .ok (.ifCond .le 16, 3) := by decide +kernel
theorem dL_bits_8 : decode cL_bits 8 = .ok (.iload_n 1, 1) := by decide +kernel
theorem dL_bits_9 : decode cL_bits 9 = .ok (.iload_n 2, 1) := by decide +kernel
theorem dL_bits_10 : decode cL_bits 10 = .ok (.iconst 2, 1) := by decide +kernel
theorem dL_bits_11 : decode cL_bits 11 = .ok (.irem, 1) := by decide +kernel
theorem dL_bits_12 : decode cL_bits 12 = .ok (.iadd, 1) := by decide +kernel
theorem dL_bits_13 : decode cL_bits 13 = .ok (.istore_n 1, 1) := by decide +kernel
theorem dL_bits_14 : decode cL_bits 14 = .ok (.iload_n 2, 1) := by decide +kernel
theorem dL_bits_15 : decode cL_bits 15 = .ok (.iconst 2, 1) := by decide +kernel
theorem dL_bits_16 : decode cL_bits 16 = .ok (.idiv, 1) := by decide +kernel
theorem dL_bits_17 : decode cL_bits 17 = .ok (.istore_n 2, 1) := by decide +kernel
theorem dL_bits_18 : decode cL_bits 18 = .ok (.goto (-14), 3) := by decide +kernel
theorem dL_bits_21 : decode cL_bits 21 = .ok (.iload_n 1, 1) := by decide +kernel
theorem dL_bits_22 : decode cL_bits 22 = .ok (.ireturn, 1) := by decide +kernel
set_option maxRecDepth 20000 in
theorem ggL_digits_X5_count : GoodIn wsL_digits wsX5_count := goodIn_r _ [5, 6, 7, 8, 9, 10, 11, 12, 13, 14, 15, 16, 17, 18, 19, 20, 21, 22, 23, 24, 25, 26, 27, 28, 29, 30, 31, 32, 33, 34, 35, 36, 37, 38, 39, 40, 41, 42, 43, 44, 45, 46, 102, 103, 104, 105, 106, 107, 108, 109, 110, 111, 112, 113, 114, 115, 116, 117, 118, 119, 120, 121, 122, 123, 124, 125, 126, 127, 128, 129, 130, 131, 132, 133, 134, 135] (by decide +kernel) (by decide +kernel)
set_option maxRecDepth 20000 in
theorem gL_digits_X5_count : GoodIn wsL_digits (wsV RL 9 RX5 yX5_count wsX5_count) := goodIn_app (goodIn_of _ (by decide +kernel)) ggL_digits_X5_count
set_option maxRecDepth 20000 in
theorem ggL_digits_X5_digit : GoodIn wsL_digits wsX5_digit := goodIn_r _ [50, 6, 51, 52, 53, 54, 55, 13, 56, 57, 58, 59, 60, 21, 61, 23, 28, 62, 4, 63, 64, 65, 66, 67, 68, 69, 70, 71, 72, 73, 74, 75, 76, 25, 26, 27, 29, 77, 78, 79, 80, 81, 82, 83, 84, 85, 86, 87, 88, 89, 90, 102, 103, 104, 105, 106, 127, 128, 129, 130, 131, 132, 133, 134, 135, 107, 108, 109, 110, 111, 112, 113, 114, 115, 116, 117, 118, 119] (by decide +kernel) (by decide +kernel)
set_option maxRecDepth 20000 in
theorem gL_digits_X5_digit : GoodIn wsL_digits (wsV RL 15 RX5 yX5_digit wsX5_digit) := goodIn_app (goodIn_of _ (by decide +kernel)) ggL_digits_X5_digit
set_option maxRecDepth 20000 in
theorem ggL_digits_X5_segment : GoodIn wsL_digits wsX5_segment := goodIn_r _ [94, 6, 95, 96, 56, 13, 58, 59, 60, 21, 61, 23, 28, 62, 4, 63, 97, 77, 78, 79, 67, 80, 81, 102, 103, 104, 105, 106, 127, 128, 129, 130, 131, 132, 133, 134, 135, 107, 108, 109, 110, 111, 112, 113, 114, 115, 116, 117, 118, 119] (by decide +kernel) (by decide +kernel)
set_option maxRecDepth 20000 in
theorem gL_digits_X5_segment : GoodIn wsL_digits (wsV RL 19 RX5 yX5_segment wsX5_segment) := goodIn_app (goodIn_of _ (by decide +kernel)) ggL_digits_X5_segment
set_option maxRecDepth 20000 in
theorem ggL_digits_L_bits : GoodIn wsL_digits wsL_bits := goodIn_r _ [101] (by decide +kernel) (by decide +kernel)
set_option maxRecDepth 20000 in
theorem gL_digits_L_bits : GoodIn wsL_digits (va_wsS RL 23 yL_bits wsL_bits) := goodIn_app (goodIn_of _ (by decide +kernel)) ggL_digits_L_bits
theorem dL_digits_0 : decode cL_digits 0 = .ok (.iconst 0, 1) := by decide +kernel
theorem dL_digits_1 : decode cL_digits 1 = .ok (.istore_n 1, 1) := by decide +kernel
theorem dL_digits_2 : decode cL_digits 2 = .ok (.iconst 0, 1) := by decide +kernel
theorem dL_digits_3 : decode cL_digits 3 = .ok (.istore_n 2, 1) := by decide +kernel
theorem dL_digits_4 : decode cL_digits 4 = .ok (.iconst 0, 1) := by decide +kernel
theorem dL_digits_5 : decode cL_digits 5 = .ok (.istore_n 3, 1) := by decide +kernel
theorem dL_digits_6 : decode cL_digits 6 = .ok (.iconst (-1), 1) := by decide +kernel
theorem dL_digits_7 : decode cL_digits 7 = .ok (.istore 4, 2) := by decide +kernel
theorem dL_digits_9 : decode cL_digits 9 = .ok (.iconst 0, 1) := by decide +kernel
theorem dL_digits_10 : decode cL_digits 10 = .ok (.istore 5, 2) := by decide +kernel
theorem dL_digits_12 : decode cL_digits 12 = .ok (.iload 5, 2) := by decide +kernel
theorem dL_digits_14 : decode cL_digits 14 = .ok (.aload_n 0, 1) := by decide +kernel
theorem dL_digits_15 : decode cL_digits 15 = .ok (.iconst 1, 1) := by decide +kernel
theorem dL_digits_16 : decode cL_digits 16 = .ok (.invokevirtual 9, 3) := by decide +kernel
theorem dL_digits_19 : decode cL_digits 19 = .ok (.if_icmp .ge 367, 3) := by decide +kernel
theorem dL_digits_22 : decode cL_digits 22 = .ok (.aload_n 0, 1) := by decide +kernel
theorem dL_digits_23 : decode cL_digits 23 = .ok (.iload 5, 2) := by decide +kernel
theorem dL_digits_25 : decode cL_digits 25 = .ok (.iconst 1, 1) := by decide +kernel
theorem dL_digits_26 : decode cL_digits 26 = .ok (.invokevirtual 15, 3) := by decide +kernel
theorem dL_digits_29 : decode cL_digits 29 = .ok (.istore 6, 2) := by decide +kernel
theorem dL_digits_31 : decode cL_digits 31 = .ok (.iconst 0, 1) := by decide +kernel
theorem dL_digits_32 : decode cL_digits 32 = .ok (.istore 7, 2) := by decide +kernel
theorem dL_digits_34 : decode cL_digits 34 = .ok (.iconst 0, 1) := by decide +kernel
theorem dL_digits_35 : decode cL_digits 35 = .ok (.istore 8, 2) := by decide +kernel
theorem dL_digits_37 : decode cL_digits 37 = .ok (.iconst 0, 1) := by decide +kernel
theorem dL_digits_38 : decode cL_digits 38 = .ok (.istore 9, 2) := by decide +kernel
theorem dL_digits_40 : decode cL_digits 40 = .ok (.iconst 0, 1) := by decide +kernel
theorem dL_digits_41 : decode cL_digits 41 = .ok (.istore 10, 2) := by decide +kernel
theorem dL_digits_43 : decode cL_digits 43 = .ok (.iload 10, 2) := by decide +kernel
theorem dL_digits_45 : decode cL_digits 45 = .ok (.bipush 8, 2) := by decide +kernel
theorem dL_digits_47 : decode cL_digits 47 = .ok (.if_icmp .ge 168, 3) := by decide +kernel
theorem dL_digits_50 : decode cL_digits 50 = .ok (.aload_n 0, 1) := by decide +kernel
theorem dL_digits_51 : decode cL_digits 51 = .ok (.iload 5, 2) := by decide +kernel
theorem dL_digits_53 : decode cL_digits 53 = .ok (.iload 10, 2) := by decide +kernel
theorem dL_digits_55 : decode cL_digits 55 = .ok (.iconst 0, 1) := by decide +kernel
theorem dL_digits_56 : decode cL_digits 56 = .ok (.invokevirtual 19, 3) := by decide +kernel
theorem dL_digits_59 : decode cL_digits 59 = .ok (.istore 11, 2) := by decide +kernel
theorem dL_digits_61 : decode cL_digits 61 = .ok (.iload 9, 2) := by decide +kernel
theorem dL_digits_63 : decode cL_digits 63 = .ok (.iload 11, 2) := by decide +kernel
theorem dL_digits_65 : decode cL_digits 65 = .ok (.iadd, 1) := by decide +kernel
theorem dL_digits_66 : decode cL_digits 66 = .ok (.istore 9, 2) := by decide +kernel
theorem dL_digits_68 : decode cL_digits 68 = .ok (.iload 7, 2) := by decide +kernel
theorem dL_digits_70 : decode cL_digits 70 = .ok (.iload 11, 2) := by decide +kernel
theorem dL_digits_72 : decode cL_digits 72 = .ok (.aload_n 0, 1) := by decide +kernel
theorem dL_digits_73 : decode cL_digits 73 = .ok (.bipush 10, 2) := by decide +kernel
theorem dL_digits_75 : decode cL_digits 75 = .ok (.invokevirtual 9, 3) := by decide +kernel
theorem dL_digits_78 : decode cL_digits 78 = .ok (.if_icmp .lt 10, 3) := by decide +kernel
theorem dL_digits_81 : decode cL_digits 81 = .ok (.iconst 1, 1) := by decide +kernel
theorem dL_digits_82 : decode cL_digits 82 = .ok (.iload 10, 2) := by decide +kernel
theorem dL_digits_84 : decode cL_digits 84 = .ok (.ishl, 1) := by decide +kernel
theorem dL_digits_85 : decode cL_digits 85 = .ok (.goto 4, 3) := by decide +kernel
theorem dL_digits_88 : decode cL_digits 88 = .ok (.iconst 0, 1) := by decide +kernel
theorem dL_digits_89 : decode cL_digits 89 = .ok (.ior, 1) := by decide +kernel
theorem dL_digits_90 : decode cL_digits 90 = .ok (.istore 7, 2) := by decide +kernel
theorem dL_digits_92 : decode cL_digits 92 = .ok (.iload 8, 2) := by decide +kernel
theorem dL_digits_94 : decode cL_digits 94 = .ok (.aload_n 0, 1) := by decide +kernel
theorem dL_digits_95 : decode cL_digits 95 = .ok (.iload 5, 2) := by decide +kernel
theorem dL_digits_97 : decode cL_digits 97 = .ok (.iload 10, 2) := by decide +kernel
theorem dL_digits_99 : decode cL_digits 99 = .ok (.iconst 2, 1) := by decide +kernel
theorem dL_digits_100 : decode cL_digits 100 = .ok (.invokevirtual 19, 3) := by decide +kernel
theorem dL_digits_103 : decode cL_digits 103 = .ok (.iload 10, 2) := by decide +kernel
theorem dL_digits_105 : decode cL_digits 105 = .ok (.ishl, 1) := by decide +kernel
theorem dL_digits_106 : decode cL_digits 106 = .ok (.ior, 1) := by decide +kernel
theorem dL_digits_107 : decode cL_digits 107 = .ok (.istore 8, 2) := by decide +kernel
theorem dL_digits_109 : decode cL_digits 109 = .ok (.iload 11, 2) := by decide +kernel
theorem dL_digits_111 : decode cL_digits 111 = .ok (.ifCond .lt 96, 3) := by decide +kernel
theorem dL_digits_114 : decode cL_digits 114 = .ok (.iload 11, 2) := by decide +kernel
theorem dL_digits_116 : decode cL_digits 116 = .ok (.sipush 1000, 3) := by decide +kernel
theorem dL_digits_119 : decode cL_digits 119 = .ok (.if_icmp .gt 88, 3) := by decide +kernel
theorem dL_digits_122 : decode cL_digits 122 = .ok (.aload_n 0, 1) := by decide +kernel
theorem dL_digits_123 : decode cL_digits 123 = .ok (.iload 5, 2) := by decide +kernel
theorem dL_digits_125 : decode cL_digits 125 = .ok (.iload 10, 2) := by decide +kernel
theorem dL_digits_127 : decode cL_digits 127 = .ok (.iconst 1, 1) := by decide +kernel
theorem dL_digits_128 : decode cL_digits 128 = .ok (.invokevirtual 19, 3) := by decide +kernel
theorem dL_digits_131 : decode cL_digits 131 = .ok (.ifCond .lt 76, 3) := by decide +kernel
theorem dL_digits_134 : decode cL_digits 134 = .ok (.aload_n 0, 1) := by decide +kernel
theorem dL_digits_135 : decode cL_digits 135 = .ok (.iload 5, 2) := by decide +kernel
theorem dL_digits_137 : decode cL_digits 137 = .ok (.iload 10, 2) := by decide +kernel
theorem dL_digits_139 : decode cL_digits 139 = .ok (.iconst 3, 1) := by decide +kernel
theorem dL_digits_140 : decode cL_digits 140 = .ok (.invokevirtual 19, 3) := by decide +kernel
theorem dL_digits_143 : decode cL_digits 143 = .ok (.iload 11, 2) := by decide +kernel
theorem dL_digits_145 : decode cL_digits 145 = .ok (.aload_n 0, 1) := by decide +kernel
theorem dL_digits_146 : decode cL_digits 146 = .ok (.bipush 10, 2) := by decide +kernel
theorem dL_digits_148 : decode cL_digits 148 = .ok (.invokevirtual 9, 3) := by decide +kernel
theorem dL_digits_151 : decode cL_digits 151 = .ok (.if_icmp .lt 7, 3) := by decide +kernel
theorem dL_digits_154 : decode cL_digits 154 = .ok (.iconst 1, 1) := by decide +kernel
theorem dL_digits_155 : decode cL_digits 155 = .ok (.goto 4, 3) := by decide +kernel
theorem dL_digits_158 : decode cL_digits 158 = .ok (.iconst 0, 1) := by decide +kernel
theorem dL_digits_159 : decode cL_digits 159 = .ok (.if_icmp .ne 48, 3) := by decide +kernel
theorem dL_digits_162 : decode cL_digits 162 = .ok (.aload_n 0, 1) := by decide +kernel
theorem dL_digits_163 : decode cL_digits 163 = .ok (.iload 5, 2) := by decide +kernel
theorem dL_digits_165 : decode cL_digits 165 = .ok (.iload 10, 2) := by decide +kernel
theorem dL_digits_167 : decode cL_digits 167 = .ok (.iconst 2, 1) := by decide +kernel
theorem dL_digits_168 : decode cL_digits 168 = .ok (.invokevirtual 19, 3) := by decide +kernel
theorem dL_digits_171 : decode cL_digits 171 = .ok (.iconst 1, 1) := by decide +kernel
theorem dL_digits_172 : decode cL_digits 172 = .ok (.if_icmp .ne 15, 3) := by decide +kernel
theorem dL_digits_175 : decode cL_digits 175 = .ok (.aload_n 0, 1) := by decide +kernel
theorem dL_digits_176 : decode cL_digits 176 = .ok (.iload 5, 2) := by decide +kernel
theorem dL_digits_178 : decode cL_digits 178 = .ok (.iload 10, 2) := by decide +kernel
theorem dL_digits_180 : decode cL_digits 180 = .ok (.iconst 1, 1) := by decide +kernel
theorem dL_digits_181 : decode cL_digits 181 = .ok (.invokevirtual 19, 3) := by decide +kernel
theorem dL_digits_184 : decode cL_digits 184 = .ok (.ifCond .eq 23, 3) := by decide +kernel
theorem dL_digits_187 : decode cL_digits 187 = .ok (.aload_n 0, 1) := by decide +kernel
theorem dL_digits_188 : decode cL_digits 188 = .ok (.iload 5, 2) := by decide +kernel
theorem dL_digits_190 : decode cL_digits 190 = .ok (.iload 10, 2) := by decide +kernel
theorem dL_digits_192 : decode cL_digits 192 = .ok (.iconst 1, 1) := by decide +kernel
theorem dL_digits_193 : decode cL_digits 193 = .ok (.invokevirtual 19, 3) := by decide +kernel
theorem dL_digits_196 : decode cL_digits 196 = .ok (.aload_n 0, 1) := by decide +kernel
theorem dL_digits_197 : decode cL_digits 197 = .ok (.iload 5, 2) := by decide +kernel
theorem dL_digits_199 : decode cL_digits 199 = .ok (.bipush 11, 2) := by decide +kernel
theorem dL_digits_201 : decode cL_digits 201 = .ok (.invokevirtual 15, 3) := by decide +kernel
theorem dL_digits_204 : decode cL_digits 204 = .ok (.if_icmp .le 5, 3) := by decide +kernel
theorem dL_digits_207 : decode cL_digits 207 = .ok (.iconst 0, 1) := by decide +kernel
theorem dL_digits_208 : decode cL_digits 208 = .ok (.ireturn, 1) := by decide +kernel
theorem dL_digits_209 : decode cL_digits 209 = .ok (.iinc 10 1, 3) := by decide +kernel
theorem dL_digits_212 : decode cL_digits 212 = .ok (.goto (-169), 3) := by decide +kernel
theorem dL_digits_215 : decode cL_digits 215 = .ok (.aload_n 0, 1) := by decide +kernel
theorem dL_digits_216 : decode cL_digits 216 = .ok (.iload 5, 2) := by decide +kernel
theorem dL_digits_218 : decode cL_digits 218 = .ok (.bipush 6, 2) := by decide +kernel
theorem dL_digits_220 : decode cL_digits 220 = .ok (.invokevirtual 15, 3) := by decide +kernel
theorem dL_digits_223 : decode cL_digits 223 = .ok (.iload_n 1, 1) := by decide +kernel
theorem dL_digits_224 : decode cL_digits 224 = .ok (.if_icmp .ne 112, 3) := by decide +kernel
theorem dL_digits_227 : decode cL_digits 227 = .ok (.aload_n 0, 1) := by decide +kernel
theorem dL_digits_228 : decode cL_digits 228 = .ok (.iload 5, 2) := by decide +kernel
theorem dL_digits_230 : decode cL_digits 230 = .ok (.iconst 5, 1) := by decide +kernel
theorem dL_digits_231 : decode cL_digits 231 = .ok (.invokevirtual 15, 3) := by decide +kernel
theorem dL_digits_234 : decode cL_digits 234 = .ok (.iload 6, 2) := by decide +kernel
theorem dL_digits_236 : decode cL_digits 236 = .ok (.aload_n 0, 1) := by decide +kernel
theorem dL_digits_237 : decode cL_digits 237 = .ok (.iload 5, 2) := by decide +kernel
theorem dL_digits_239 : decode cL_digits 239 = .ok (.iconst 2, 1) := by decide +kernel
theorem dL_digits_240 : decode cL_digits 240 = .ok (.invokevirtual 15, 3) := by decide +kernel
theorem dL_digits_243 : decode cL_digits 243 = .ok (.isub, 1) := by decide +kernel
theorem dL_digits_244 : decode cL_digits 244 = .ok (.aload_n 0, 1) := by decide +kernel
theorem dL_digits_245 : decode cL_digits 245 = .ok (.iload 5, 2) := by decide +kernel
theorem dL_digits_247 : decode cL_digits 247 = .ok (.iconst 3, 1) := by decide +kernel
theorem dL_digits_248 : decode cL_digits 248 = .ok (.invokevirtual 15, 3) := by decide +kernel
theorem dL_digits_251 : decode cL_digits 251 = .ok (.imul, 1) := by decide +kernel
theorem dL_digits_252 : decode cL_digits 252 = .ok (.bipush 15, 2) := by decide +kernel
theorem dL_digits_254 : decode cL_digits 254 = .ok (.idiv, 1) := by decide +kernel
theorem dL_digits_255 : decode cL_digits 255 = .ok (.if_icmp .ne 81, 3) := by decide +kernel
theorem dL_digits_258 : decode cL_digits 258 = .ok (.aload_n 0, 1) := by decide +kernel
theorem dL_digits_259 : decode cL_digits 259 = .ok (.iload 5, 2) := by decide +kernel
theorem dL_digits_261 : decode cL_digits 261 = .ok (.bipush 7, 2) := by decide +kernel
theorem dL_digits_263 : decode cL_digits 263 = .ok (.invokevirtual 15, 3) := by decide +kernel
theorem dL_digits_266 : decode cL_digits 266 = .ok (.iload 7, 2) := by decide +kernel
theorem dL_digits_268 : decode cL_digits 268 = .ok (.if_icmp .ne 68, 3) := by decide +kernel
theorem dL_digits_271 : decode cL_digits 271 = .ok (.aload_n 0, 1) := by decide +kernel
theorem dL_digits_272 : decode cL_digits 272 = .ok (.iload 5, 2) := by decide +kernel
theorem dL_digits_274 : decode cL_digits 274 = .ok (.bipush 8, 2) := by decide +kernel
theorem dL_digits_276 : decode cL_digits 276 = .ok (.invokevirtual 15, 3) := by decide +kernel
theorem dL_digits_279 : decode cL_digits 279 = .ok (.iload 8, 2) := by decide +kernel
theorem dL_digits_281 : decode cL_digits 281 = .ok (.if_icmp .ne 55, 3) := by decide +kernel
theorem dL_digits_284 : decode cL_digits 284 = .ok (.aload_n 0, 1) := by decide +kernel
theorem dL_digits_285 : decode cL_digits 285 = .ok (.iload 5, 2) := by decide +kernel
theorem dL_digits_287 : decode cL_digits 287 = .ok (.bipush 9, 2) := by decide +kernel
theorem dL_digits_289 : decode cL_digits 289 = .ok (.invokevirtual 15, 3) := by decide +kernel
theorem dL_digits_292 : decode cL_digits 292 = .ok (.iload 9, 2) := by decide +kernel
theorem dL_digits_294 : decode cL_digits 294 = .ok (.if_icmp .ne 42, 3) := by decide +kernel
theorem dL_digits_297 : decode cL_digits 297 = .ok (.aload_n 0, 1) := by decide +kernel
theorem dL_digits_298 : decode cL_digits 298 = .ok (.iload 5, 2) := by decide +kernel
theorem dL_digits_300 : decode cL_digits 300 = .ok (.bipush 12, 2) := by decide +kernel
theorem dL_digits_302 : decode cL_digits 302 = .ok (.invokevirtual 15, 3) := by decide +kernel
theorem dL_digits_305 : decode cL_digits 305 = .ok (.bipush (-2), 2) := by decide +kernel
theorem dL_digits_307 : decode cL_digits 307 = .ok (.if_icmp .ne 29, 3) := by decide +kernel
theorem dL_digits_310 : decode cL_digits 310 = .ok (.aload_n 0, 1) := by decide +kernel
theorem dL_digits_311 : decode cL_digits 311 = .ok (.iload 5, 2) := by decide +kernel
theorem dL_digits_313 : decode cL_digits 313 = .ok (.bipush 8, 2) := by decide +kernel
theorem dL_digits_315 : decode cL_digits 315 = .ok (.iconst 0, 1) := by decide +kernel
theorem dL_digits_316 : decode cL_digits 316 = .ok (.invokevirtual 19, 3) := by decide +kernel
theorem dL_digits_319 : decode cL_digits 319 = .ok (.iconst (-1), 1) := by decide +kernel
theorem dL_digits_320 : decode cL_digits 320 = .ok (.if_icmp .ne 16, 3) := by decide +kernel
theorem dL_digits_323 : decode cL_digits 323 = .ok (.aload_n 0, 1) := by decide +kernel
theorem dL_digits_324 : decode cL_digits 324 = .ok (.iload 5, 2) := by decide +kernel
theorem dL_digits_326 : decode cL_digits 326 = .ok (.iconst 0, 1) := by decide +kernel
theorem dL_digits_327 : decode cL_digits 327 = .ok (.iconst 4, 1) := by decide +kernel
theorem dL_digits_328 : decode cL_digits 328 = .ok (.invokevirtual 19, 3) := by decide +kernel
theorem dL_digits_331 : decode cL_digits 331 = .ok (.bipush (-2), 2) := by decide +kernel
theorem dL_digits_333 : decode cL_digits 333 = .ok (.if_icmp .eq 5, 3) := by decide +kernel
theorem dL_digits_336 : decode cL_digits 336 = .ok (.iconst 0, 1) := by decide +kernel
theorem dL_digits_337 : decode cL_digits 337 = .ok (.ireturn, 1) := by decide +kernel
theorem dL_digits_338 : decode cL_digits 338 = .ok (.aload_n 0, 1) := by decide +kernel
theorem dL_digits_339 : decode cL_digits 339 = .ok (.iconst 4, 1) := by decide +kernel
theorem dL_digits_340 : decode cL_digits 340 = .ok (.invokevirtual 9, 3) := by decide +kernel
theorem dL_digits_343 : decode cL_digits 343 = .ok (.iload_n 1, 1) := by decide +kernel
theorem dL_digits_344 : decode cL_digits 344 = .ok (.if_icmp .lt 8, 3) := by decide +kernel
theorem dL_digits_347 : decode cL_digits 347 = .ok (.iload 5, 2) := by decide +kernel
theorem dL_digits_349 : decode cL_digits 349 = .ok (.goto 5, 3) := by decide +kernel
theorem dL_digits_352 : decode cL_digits 352 = .ok (.iload 4, 2) := by decide +kernel
theorem dL_digits_354 : decode cL_digits 354 = .ok (.istore 4, 2) := by decide +kernel
theorem dL_digits_356 : decode cL_digits 356 = .ok (.iload_n 1, 1) := by decide +kernel
theorem dL_digits_357 : decode cL_digits 357 = .ok (.iload 6, 2) := by decide +kernel
theorem dL_digits_359 : decode cL_digits 359 = .ok (.iadd, 1) := by decide +kernel
theorem dL_digits_360 : decode cL_digits 360 = .ok (.istore_n 1, 1) := by decide +kernel
theorem dL_digits_361 : decode cL_digits 361 = .ok (.iload_n 2, 1) := by decide +kernel
theorem dL_digits_362 : decode cL_digits 362 = .ok (.iload 8, 2) := by decide +kernel
theorem dL_digits_364 : decode cL_digits 364 = .ok (.invokestatic 23, 3) := by decide +kernel
theorem dL_digits_367 : decode cL_digits 367 = .ok (.iadd, 1) := by decide +kernel
theorem dL_digits_368 : decode cL_digits 368 = .ok (.istore_n 2, 1) := by decide +kernel
theorem dL_digits_369 : decode cL_digits 369 = .ok (.iload_n 3, 1) := by decide +kernel
theorem dL_digits_370 : decode cL_digits 370 = .ok (.aload_n 0, 1) := by decide +kernel
theorem dL_digits_371 : decode cL_digits 371 = .ok (.iload 5, 2) := by decide +kernel
theorem dL_digits_373 : decode cL_digits 373 = .ok (.bipush 11, 2) := by decide +kernel
theorem dL_digits_375 : decode cL_digits 375 = .ok (.invokevirtual 15, 3) := by decide +kernel
theorem dL_digits_378 : decode cL_digits 378 = .ok (.iadd, 1) := by decide +kernel
theorem dL_digits_379 : decode cL_digits 379 = .ok (.istore_n 3, 1) := by decide +kernel
theorem dL_digits_380 : decode cL_digits 380 = .ok (.iinc 5 1, 3) := by decide +kernel
theorem dL_digits_383 : decode cL_digits 383 = .ok (.goto (-371), 3) := by decide +kernel
theorem dL_digits_386 : decode cL_digits 386 = .ok (.aload_n 0, 1) := by decide +kernel
theorem dL_digits_387 : decode cL_digits 387 = .ok (.iconst 2, 1) := by decide +kernel
theorem dL_digits_388 : decode cL_digits 388 = .ok (.invokevirtual 9, 3) := by decide +kernel
theorem dL_digits_391 : decode cL_digits 391 = .ok (.iload_n 1, 1) := by decide +kernel
theorem dL_digits_392 : decode cL_digits 392 = .ok (.if_icmp .ne 74, 3) := by decide +kernel
theorem dL_digits_395 : decode cL_digits 395 = .ok (.aload_n 0, 1) := by decide +kernel
theorem dL_digits_396 : decode cL_digits 396 = .ok (.iconst 5, 1) := by decide +kernel
theorem dL_digits_397 : decode cL_digits 397 = .ok (.invokevirtual 9, 3) := by decide +kernel
theorem dL_digits_400 : decode cL_digits 400 = .ok (.iload 4, 2) := by decide +kernel
theorem dL_digits_402 : decode cL_digits 402 = .ok (.if_icmp .ne 64, 3) := by decide +kernel
theorem dL_digits_405 : decode cL_digits 405 = .ok (.aload_n 0, 1) := by decide +kernel
theorem dL_digits_406 : decode cL_digits 406 = .ok (.iconst 4, 1) := by decide +kernel
theorem dL_digits_407 : decode cL_digits 407 = .ok (.invokevirtual 9, 3) := by decide +kernel
theorem dL_digits_410 : decode cL_digits 410 = .ok (.iload_n 1, 1) := by decide +kernel
theorem dL_digits_411 : decode cL_digits 411 = .ok (.if_icmp .ge 55, 3) := by decide +kernel
theorem dL_digits_414 : decode cL_digits 414 = .ok (.aload_n 0, 1) := by decide +kernel
theorem dL_digits_415 : decode cL_digits 415 = .ok (.bipush 8, 2) := by decide +kernel
theorem dL_digits_417 : decode cL_digits 417 = .ok (.invokevirtual 9, 3) := by decide +kernel
theorem dL_digits_420 : decode cL_digits 420 = .ok (.iload_n 2, 1) := by decide +kernel
theorem dL_digits_421 : decode cL_digits 421 = .ok (.if_icmp .ne 45, 3) := by decide +kernel
theorem dL_digits_424 : decode cL_digits 424 = .ok (.iload_n 3, 1) := by decide +kernel
theorem dL_digits_425 : decode cL_digits 425 = .ok (.aload_n 0, 1) := by decide +kernel
theorem dL_digits_426 : decode cL_digits 426 = .ok (.bipush 7, 2) := by decide +kernel
theorem dL_digits_428 : decode cL_digits 428 = .ok (.invokevirtual 9, 3) := by decide +kernel
theorem dL_digits_431 : decode cL_digits 431 = .ok (.if_icmp .gt 35, 3) := by decide +kernel
theorem dL_digits_434 : decode cL_digits 434 = .ok (.aload_n 0, 1) := by decide +kernel
theorem dL_digits_435 : decode cL_digits 435 = .ok (.bipush 7, 2) := by decide +kernel
theorem dL_digits_437 : decode cL_digits 437 = .ok (.invokevirtual 9, 3) := by decide +kernel
theorem dL_digits_440 : decode cL_digits 440 = .ok (.aload_n 0, 1) := by decide +kernel
theorem dL_digits_441 : decode cL_digits 441 = .ok (.iconst 0, 1) := by decide +kernel
theorem dL_digits_442 : decode cL_digits 442 = .ok (.invokevirtual 9, 3) := by decide +kernel
theorem dL_digits_445 : decode cL_digits 445 = .ok (.if_icmp .gt 21, 3) := by decide +kernel
theorem dL_digits_448 : decode cL_digits 448 = .ok (.aload_n 0, 1) := by decide +kernel
theorem dL_digits_449 : decode cL_digits 449 = .ok (.aload_n 0, 1) := by decide +kernel
theorem dL_digits_450 : decode cL_digits 450 = .ok (.iconst 1, 1) := by decide +kernel
theorem dL_digits_451 : decode cL_digits 451 = .ok (.invokevirtual 9, 3) := by decide +kernel
theorem dL_digits_454 : decode cL_digits 454 = .ok (.iconst 0, 1) := by decide +kernel
theorem dL_digits_455 : decode cL_digits 455 = .ok (.invokevirtual 15, 3) := by decide +kernel
theorem dL_digits_458 : decode cL_digits 458 = .ok (.iconst (-1), 1) := by decide +kernel
theorem dL_digits_459 : decode cL_digits 459 = .ok (.if_icmp .ne 7, 3) := by decide +kernel
theorem dL_digits_462 : decode cL_digits 462 = .ok (.iconst 1, 1) := by decide +kernel
theorem dL_digits_463 : decode cL_digits 463 = .ok (.goto 4, 3) := by decide +kernel
theorem dL_digits_466 : decode cL_digits 466 = .ok (.iconst 0, 1) := by decide +kernel
theorem dL_digits_467 : decode cL_digits 467 = .ok (.ireturn, 1) := by decide +kernel
set_option maxRecDepth 20000 in
theorem ggL_groups_X5_count : GoodIn wsL_groups wsX5_count := goodIn_r _ [5, 6, 7, 8, 9, 10, 11, 12, 13, 14, 15, 16, 17, 18, 19, 20, 21, 22, 23, 24, 25, 26, 27, 28, 29, 30, 31, 32, 33, 34, 35, 36, 37, 38, 39, 40, 41, 42, 43, 44, 45, 46, 110, 111, 112, 113, 114, 115, 116, 117, 118, 119, 120, 121, 122, 123, 124, 125, 126, 127, 128, 129, 130, 131, 132, 133, 134, 135, 136, 137, 138, 139, 140, 141, 142, 143] (by decide +kernel) (by decide +kernel)
set_option maxRecDepth 20000 in
theorem gL_groups_X5_count : GoodIn wsL_groups (wsV RL 9 RX5 yX5_count wsX5_count) := goodIn_app (goodIn_of _ (by decide +kernel)) ggL_groups_X5_count
set_option maxRecDepth 20000 in
theorem ggL_groups_X5_digit : GoodIn wsL_groups wsX5_digit := goodIn_r _ [50, 6, 51, 52, 53, 54, 55, 13, 56, 57, 58, 59, 60, 21, 61, 23, 28, 62, 4, 63, 64, 65, 66, 67, 68, 69, 70, 71, 72, 73, 74, 75, 76, 25, 26, 27, 29, 77, 78, 79, 80, 81, 82, 83, 84, 85, 86, 87, 88, 89, 90, 110, 111, 112, 113, 114, 135, 136, 137, 138, 139, 140, 141, 142, 143, 115, 116, 117, 118, 119, 120, 121, 122, 123, 124, 125, 126, 127] (by decide +kernel) (by decide +kernel)
set_option maxRecDepth 20000 in
theorem gL_groups_X5_digit : GoodIn wsL_groups (wsV RL 15 RX5 yX5_digit wsX5_digit) := goodIn_app (goodIn_of _ (by decide +kernel)) ggL_groups_X5_digit
set_option maxRecDepth 20000 in
theorem ggL_groups_X5_group : GoodIn wsL_groups wsX5_group := goodIn_r _ [94, 6, 95, 96, 97, 62, 4, 63, 98, 99, 100, 21, 101, 102, 103, 104, 105, 106, 107, 108, 23, 28, 109, 110, 111, 112, 113, 114, 115, 116, 117, 118, 119, 120, 121, 122, 123, 124, 125, 126, 127, 135, 136, 137, 138, 139, 140, 141, 142, 143] (by decide +kernel) (by decide +kernel)
set_option maxRecDepth 20000 in
theorem gL_groups_X5_group : GoodIn wsL_groups (wsV RL 28 RX5 yX5_group wsX5_group) := goodIn_app (goodIn_of _ (by decide +kernel)) ggL_groups_X5_group
theorem dL_groups_0 : decode cL_groups 0 = .ok (.iconst 0, 1) := by decide +kernel
theorem dL_groups_1 : decode cL_groups 1 = .ok (.istore_n 1, 1) := by decide +kernel
theorem dL_groups_2 : decode cL_groups 2 = .ok (.iconst 0, 1) := by decide +kernel
theorem dL_groups_3 : decode cL_groups 3 = .ok (.istore_n 2, 1) := by decide +kernel
theorem dL_groups_4 : decode cL_groups 4 = .ok (.iload_n 2, 1) := by decide +kernel
theorem dL_groups_5 : decode cL_groups 5 = .ok (.iconst 4, 1) := by decide +kernel
theorem dL_groups_6 : decode cL_groups 6 = .ok (.if_icmp .ge 130, 3) := by decide +kernel
theorem dL_groups_9 : decode cL_groups 9 = .ok (.iconst 0, 1) := by decide +kernel
theorem dL_groups_10 : decode cL_groups 10 = .ok (.istore_n 3, 1) := by decide +kernel
theorem dL_groups_11 : decode cL_groups 11 = .ok (.iconst 0, 1) := by decide +kernel
theorem dL_groups_12 : decode cL_groups 12 = .ok (.istore 4, 2) := by decide +kernel
theorem dL_groups_14 : decode cL_groups 14 = .ok (.iload 4, 2) := by decide +kernel
theorem dL_groups_16 : decode cL_groups 16 = .ok (.aload_n 0, 1) := by decide +kernel
theorem dL_groups_17 : decode cL_groups 17 = .ok (.iconst 1, 1) := by decide +kernel
theorem dL_groups_18 : decode cL_groups 18 = .ok (.invokevirtual 9, 3) := by decide +kernel
theorem dL_groups_21 : decode cL_groups 21 = .ok (.if_icmp .ge 28, 3) := by decide +kernel
theorem dL_groups_24 : decode cL_groups 24 = .ok (.iload_n 3, 1) := by decide +kernel
theorem dL_groups_25 : decode cL_groups 25 = .ok (.aload_n 0, 1) := by decide +kernel
theorem dL_groups_26 : decode cL_groups 26 = .ok (.iload 4, 2) := by decide +kernel
theorem dL_groups_28 : decode cL_groups 28 = .ok (.iconst 4, 1) := by decide +kernel
theorem dL_groups_29 : decode cL_groups 29 = .ok (.invokevirtual 15, 3) := by decide +kernel
theorem dL_groups_32 : decode cL_groups 32 = .ok (.iload_n 2, 1) := by decide +kernel
theorem dL_groups_33 : decode cL_groups 33 = .ok (.if_icmp .ne 7, 3) := by decide +kernel
theorem dL_groups_36 : decode cL_groups 36 = .ok (.iconst 1, 1) := by decide +kernel
theorem dL_groups_37 : decode cL_groups 37 = .ok (.goto 4, 3) := by decide +kernel
theorem dL_groups_40 : decode cL_groups 40 = .ok (.iconst 0, 1) := by decide +kernel
theorem dL_groups_41 : decode cL_groups 41 = .ok (.iadd, 1) := by decide +kernel
theorem dL_groups_42 : decode cL_groups 42 = .ok (.istore_n 3, 1) := by decide +kernel
theorem dL_groups_43 : decode cL_groups 43 = .ok (.iinc 4 1, 3) := by decide +kernel
theorem dL_groups_46 : decode cL_groups 46 = .ok (.goto (-32), 3) := by decide +kernel
theorem dL_groups_49 : decode cL_groups 49 = .ok (.aload_n 0, 1) := by decide +kernel
theorem dL_groups_50 : decode cL_groups 50 = .ok (.iload_n 2, 1) := by decide +kernel
theorem dL_groups_51 : decode cL_groups 51 = .ok (.iconst 0, 1) := by decide +kernel
theorem dL_groups_52 : decode cL_groups 52 = .ok (.invokevirtual 28, 3) := by decide +kernel
theorem dL_groups_55 : decode cL_groups 55 = .ok (.aload_n 0, 1) := by decide +kernel
theorem dL_groups_56 : decode cL_groups 56 = .ok (.iload_n 2, 1) := by decide +kernel
theorem dL_groups_57 : decode cL_groups 57 = .ok (.iconst 1, 1) := by decide +kernel
theorem dL_groups_58 : decode cL_groups 58 = .ok (.invokevirtual 28, 3) := by decide +kernel
theorem dL_groups_61 : decode cL_groups 61 = .ok (.iadd, 1) := by decide +kernel
theorem dL_groups_62 : decode cL_groups 62 = .ok (.istore 4, 2) := by decide +kernel
theorem dL_groups_64 : decode cL_groups 64 = .ok (.iload_n 2, 1) := by decide +kernel
theorem dL_groups_65 : decode cL_groups 65 = .ok (.ifCond .eq 20, 3) := by decide +kernel
theorem dL_groups_68 : decode cL_groups 68 = .ok (.aload_n 0, 1) := by decide +kernel
theorem dL_groups_69 : decode cL_groups 69 = .ok (.iconst 3, 1) := by decide +kernel
theorem dL_groups_70 : decode cL_groups 70 = .ok (.invokevirtual 9, 3) := by decide +kernel
theorem dL_groups_73 : decode cL_groups 73 = .ok (.iload 4, 2) := by decide +kernel
theorem dL_groups_75 : decode cL_groups 75 = .ok (.irem, 1) := by decide +kernel
theorem dL_groups_76 : decode cL_groups 76 = .ok (.aload_n 0, 1) := by decide +kernel
theorem dL_groups_77 : decode cL_groups 77 = .ok (.iload_n 2, 1) := by decide +kernel
theorem dL_groups_78 : decode cL_groups 78 = .ok (.iconst 0, 1) := by decide +kernel
theorem dL_groups_79 : decode cL_groups 79 = .ok (.invokevirtual 28, 3) := by decide +kernel
theorem dL_groups_82 : decode cL_groups 82 = .ok (.if_icmp .ge 7, 3) := by decide +kernel
theorem dL_groups_85 : decode cL_groups 85 = .ok (.iconst 1, 1) := by decide +kernel
theorem dL_groups_86 : decode cL_groups 86 = .ok (.goto 4, 3) := by decide +kernel
theorem dL_groups_89 : decode cL_groups 89 = .ok (.iconst 0, 1) := by decide +kernel
theorem dL_groups_90 : decode cL_groups 90 = .ok (.istore 5, 2) := by decide +kernel
theorem dL_groups_92 : decode cL_groups 92 = .ok (.iload_n 1, 1) := by decide +kernel
theorem dL_groups_93 : decode cL_groups 93 = .ok (.iload_n 3, 1) := by decide +kernel
theorem dL_groups_94 : decode cL_groups 94 = .ok (.iadd, 1) := by decide +kernel
theorem dL_groups_95 : decode cL_groups 95 = .ok (.istore_n 1, 1) := by decide +kernel
theorem dL_groups_96 : decode cL_groups 96 = .ok (.aload_n 0, 1) := by decide +kernel
theorem dL_groups_97 : decode cL_groups 97 = .ok (.iload_n 2, 1) := by decide +kernel
theorem dL_groups_98 : decode cL_groups 98 = .ok (.iconst 2, 1) := by decide +kernel
theorem dL_groups_99 : decode cL_groups 99 = .ok (.invokevirtual 28, 3) := by decide +kernel
theorem dL_groups_102 : decode cL_groups 102 = .ok (.iload 5, 2) := by decide +kernel
theorem dL_groups_104 : decode cL_groups 104 = .ok (.if_icmp .ne 24, 3) := by decide +kernel
theorem dL_groups_107 : decode cL_groups 107 = .ok (.aload_n 0, 1) := by decide +kernel
theorem dL_groups_108 : decode cL_groups 108 = .ok (.iload_n 2, 1) := by decide +kernel
theorem dL_groups_109 : decode cL_groups 109 = .ok (.iconst 3, 1) := by decide +kernel
theorem dL_groups_110 : decode cL_groups 110 = .ok (.invokevirtual 28, 3) := by decide +kernel
theorem dL_groups_113 : decode cL_groups 113 = .ok (.iload_n 3, 1) := by decide +kernel
theorem dL_groups_114 : decode cL_groups 114 = .ok (.if_icmp .ne 14, 3) := by decide +kernel
theorem dL_groups_117 : decode cL_groups 117 = .ok (.aload_n 0, 1) := by decide +kernel
theorem dL_groups_118 : decode cL_groups 118 = .ok (.iload_n 2, 1) := by decide +kernel
theorem dL_groups_119 : decode cL_groups 119 = .ok (.iconst 4, 1) := by decide +kernel
theorem dL_groups_120 : decode cL_groups 120 = .ok (.invokevirtual 28, 3) := by decide +kernel
theorem dL_groups_123 : decode cL_groups 123 = .ok (.bipush (-2), 2) := by decide +kernel
theorem dL_groups_125 : decode cL_groups 125 = .ok (.if_icmp .eq 5, 3) := by decide +kernel
theorem dL_groups_128 : decode cL_groups 128 = .ok (.iconst 0, 1) := by decide +kernel
theorem dL_groups_129 : decode cL_groups 129 = .ok (.ireturn, 1) := by decide +kernel
theorem dL_groups_130 : decode cL_groups 130 = .ok (.iinc 2 1, 3) := by decide +kernel
theorem dL_groups_133 : decode cL_groups 133 = .ok (.goto (-129), 3) := by decide +kernel
theorem dL_groups_136 : decode cL_groups 136 = .ok (.iload_n 1, 1) := by decide +kernel
theorem dL_groups_137 : decode cL_groups 137 = .ok (.aload_n 0, 1) := by decide +kernel
theorem dL_groups_138 : decode cL_groups 138 = .ok (.iconst 1, 1) := by decide +kernel
theorem dL_groups_139 : decode cL_groups 139 = .ok (.invokevirtual 9, 3) := by decide +kernel
theorem dL_groups_142 : decode cL_groups 142 = .ok (.if_icmp .ne 35, 3) := by decide +kernel
theorem dL_groups_145 : decode cL_groups 145 = .ok (.aload_n 0, 1) := by decide +kernel
theorem dL_groups_146 : decode cL_groups 146 = .ok (.iconst 0, 1) := by decide +kernel
theorem dL_groups_147 : decode cL_groups 147 = .ok (.iconst 0, 1) := by decide +kernel
theorem dL_groups_148 : decode cL_groups 148 = .ok (.invokevirtual 28, 3) := by decide +kernel
theorem dL_groups_151 : decode cL_groups 151 = .ok (.ifCond .ne 26, 3) := by decide +kernel
theorem dL_groups_154 : decode cL_groups 154 = .ok (.aload_n 0, 1) := by decide +kernel
theorem dL_groups_155 : decode cL_groups 155 = .ok (.iconst 0, 1) := by decide +kernel
theorem dL_groups_156 : decode cL_groups 156 = .ok (.iconst 1, 1) := by decide +kernel
theorem dL_groups_157 : decode cL_groups 157 = .ok (.invokevirtual 28, 3) := by decide +kernel
theorem dL_groups_160 : decode cL_groups 160 = .ok (.ifCond .ne 17, 3) := by decide +kernel
theorem dL_groups_163 : decode cL_groups 163 = .ok (.aload_n 0, 1) := by decide +kernel
theorem dL_groups_164 : decode cL_groups 164 = .ok (.iconst 4, 1) := by decide +kernel
theorem dL_groups_165 : decode cL_groups 165 = .ok (.iconst 0, 1) := by decide +kernel
theorem dL_groups_166 : decode cL_groups 166 = .ok (.invokevirtual 28, 3) := by decide +kernel
theorem dL_groups_169 : decode cL_groups 169 = .ok (.iconst (-1), 1) := by decide +kernel
theorem dL_groups_170 : decode cL_groups 170 = .ok (.if_icmp .ne 7, 3) := by decide +kernel
theorem dL_groups_173 : decode cL_groups 173 = .ok (.iconst 1, 1) := by decide +kernel
theorem dL_groups_174 : decode cL_groups 174 = .ok (.goto 4, 3) := by decide +kernel
theorem dL_groups_177 : decode cL_groups 177 = .ok (.iconst 0, 1) := by decide +kernel
theorem dL_groups_178 : decode cL_groups 178 = .ok (.ireturn, 1) := by decide +kernel
set_option maxRecDepth 20000 in
theorem ggL_lit_X5_count : GoodIn wsL_lit wsX5_count := goodIn_r _ [5, 6, 7, 8, 9, 10, 11, 12, 13, 14, 15, 16, 17, 18, 19, 20, 21, 22, 23, 24, 25, 26, 27, 28, 29, 30, 31, 32, 33, 34, 35, 36, 37, 38, 39, 40, 41, 42, 43, 44, 45, 46, 110, 111, 112, 113, 114, 115, 116, 117, 118, 119, 120, 121, 122, 123, 124, 125, 126, 127, 128, 129, 130, 131, 132, 133, 134, 135, 136, 137, 138, 139, 140, 141, 142, 143] (by decide +kernel) (by decide +kernel)
set_option maxRecDepth 20000 in
theorem gL_lit_X5_count : GoodIn wsL_lit (wsV RL 9 RX5 yX5_count wsX5_count) := goodIn_app (goodIn_of _ (by decide +kernel)) ggL_lit_X5_count
set_option maxRecDepth 20000 in
theorem ggL_lit_X5_digit : GoodIn wsL_lit wsX5_digit := goodIn_r _ [50, 6, 51, 52, 53, 54, 55, 13, 56, 57, 58, 59, 60, 21, 61, 23, 28, 62, 4, 63, 64, 65, 66, 67, 68, 69, 70, 71, 72, 73, 74, 75, 76, 25, 26, 27, 29, 77, 78, 79, 80, 81, 82, 83, 84, 85, 86, 87, 88, 89, 90, 110, 111, 112, 113, 114, 135, 136, 137, 138, 139, 140, 141, 142, 143, 115, 116, 117, 118, 119, 120, 121, 122, 123, 124, 125, 126, 127] (by decide +kernel) (by decide +kernel)
set_option maxRecDepth 20000 in
theorem gL_lit_X5_digit : GoodIn wsL_lit (wsV RL 15 RX5 yX5_digit wsX5_digit) := goodIn_app (goodIn_of _ (by decide +kernel)) ggL_lit_X5_digit
set_option maxRecDepth 20000 in
theorem ggL_lit_X5_group : GoodIn wsL_lit wsX5_group := goodIn_r _ [94, 6, 95, 96, 97, 62, 4, 63, 98, 99, 100, 21, 101, 102, 103, 104, 105, 106, 107, 108, 23, 28, 109, 110, 111, 112, 113, 114, 115, 116, 117, 118, 119, 120, 121, 122, 123, 124, 125, 126, 127, 135, 136, 137, 138, 139, 140, 141, 142, 143] (by decide +kernel) (by decide +kernel)
set_option maxRecDepth 20000 in
theorem gL_lit_X5_group : GoodIn wsL_lit (wsV RL 28 RX5 yX5_group wsX5_group) := goodIn_app (goodIn_of _ (by decide +kernel)) ggL_lit_X5_group
theorem dL_lit_0 : decode cL_lit 0 = .ok (.aload_n 0, 1) := by decide +kernel
theorem dL_lit_1 : decode cL_lit 1 = .ok (.iconst 4, 1) := by decide +kernel
theorem dL_lit_2 : decode cL_lit 2 = .ok (.invokevirtual 9, 3) := by decide +kernel
theorem dL_lit_5 : decode cL_lit 5 = .ok (.aload_n 0, 1) := by decide +kernel
theorem dL_lit_6 : decode cL_lit 6 = .ok (.iload_n 1, 1) := by decide +kernel
theorem dL_lit_7 : decode cL_lit 7 = .ok (.bipush 6, 2) := by decide +kernel
theorem dL_lit_9 : decode cL_lit 9 = .ok (.invokevirtual 15, 3) := by decide +kernel
theorem dL_lit_12 : decode cL_lit 12 = .ok (.isub, 1) := by decide +kernel
theorem dL_lit_13 : decode cL_lit 13 = .ok (.istore_n 2, 1) := by decide +kernel
theorem dL_lit_14 : decode cL_lit 14 = .ok (.aload_n 0, 1) := by decide +kernel
theorem dL_lit_15 : decode cL_lit 15 = .ok (.bipush 6, 2) := by decide +kernel
theorem dL_lit_17 : decode cL_lit 17 = .ok (.invokevirtual 9, 3) := by decide +kernel
theorem dL_lit_20 : decode cL_lit 20 = .ok (.ifCond .le 7, 3) := by decide +kernel
theorem dL_lit_23 : decode cL_lit 23 = .ok (.iconst 1, 1) := by decide +kernel
theorem dL_lit_24 : decode cL_lit 24 = .ok (.goto 4, 3) := by decide +kernel
theorem dL_lit_27 : decode cL_lit 27 = .ok (.iconst 0, 1) := by decide +kernel
theorem dL_lit_28 : decode cL_lit 28 = .ok (.istore_n 3, 1) := by decide +kernel
theorem dL_lit_29 : decode cL_lit 29 = .ok (.iload_n 2, 1) := by decide +kernel
theorem dL_lit_30 : decode cL_lit 30 = .ok (.ifCond .lt 17, 3) := by decide +kernel
theorem dL_lit_33 : decode cL_lit 33 = .ok (.iload_n 2, 1) := by decide +kernel
theorem dL_lit_34 : decode cL_lit 34 = .ok (.aload_n 0, 1) := by decide +kernel
theorem dL_lit_35 : decode cL_lit 35 = .ok (.iload_n 1, 1) := by decide +kernel
theorem dL_lit_36 : decode cL_lit 36 = .ok (.iconst 1, 1) := by decide +kernel
theorem dL_lit_37 : decode cL_lit 37 = .ok (.invokevirtual 15, 3) := by decide +kernel
theorem dL_lit_40 : decode cL_lit 40 = .ok (.if_icmp .ge 7, 3) := by decide +kernel
theorem dL_lit_43 : decode cL_lit 43 = .ok (.iconst 1, 1) := by decide +kernel
theorem dL_lit_44 : decode cL_lit 44 = .ok (.goto 4, 3) := by decide +kernel
theorem dL_lit_47 : decode cL_lit 47 = .ok (.iconst 0, 1) := by decide +kernel
theorem dL_lit_48 : decode cL_lit 48 = .ok (.istore 4, 2) := by decide +kernel
theorem dL_lit_50 : decode cL_lit 50 = .ok (.iload 4, 2) := by decide +kernel
theorem dL_lit_52 : decode cL_lit 52 = .ok (.ifCond .eq 56, 3) := by decide +kernel
theorem dL_lit_55 : decode cL_lit 55 = .ok (.iload_n 3, 1) := by decide +kernel
theorem dL_lit_56 : decode cL_lit 56 = .ok (.ifCond .eq 23, 3) := by decide +kernel
theorem dL_lit_59 : decode cL_lit 59 = .ok (.iload_n 2, 1) := by decide +kernel
theorem dL_lit_60 : decode cL_lit 60 = .ok (.aload_n 0, 1) := by decide +kernel
theorem dL_lit_61 : decode cL_lit 61 = .ok (.iload_n 1, 1) := by decide +kernel
theorem dL_lit_62 : decode cL_lit 62 = .ok (.iconst 1, 1) := by decide +kernel
theorem dL_lit_63 : decode cL_lit 63 = .ok (.invokevirtual 15, 3) := by decide +kernel
theorem dL_lit_66 : decode cL_lit 66 = .ok (.aload_n 0, 1) := by decide +kernel
theorem dL_lit_67 : decode cL_lit 67 = .ok (.iload_n 1, 1) := by decide +kernel
theorem dL_lit_68 : decode cL_lit 68 = .ok (.iconst 2, 1) := by decide +kernel
theorem dL_lit_69 : decode cL_lit 69 = .ok (.invokevirtual 15, 3) := by decide +kernel
theorem dL_lit_72 : decode cL_lit 72 = .ok (.isub, 1) := by decide +kernel
theorem dL_lit_73 : decode cL_lit 73 = .ok (.if_icmp .ge 35, 3) := by decide +kernel
theorem dL_lit_76 : decode cL_lit 76 = .ok (.goto 28, 3) := by decide +kernel
theorem dL_lit_79 : decode cL_lit 79 = .ok (.iload_n 2, 1) := by decide +kernel
theorem dL_lit_80 : decode cL_lit 80 = .ok (.aload_n 0, 1) := by decide +kernel
theorem dL_lit_81 : decode cL_lit 81 = .ok (.iload_n 1, 1) := by decide +kernel
theorem dL_lit_82 : decode cL_lit 82 = .ok (.iconst 5, 1) := by decide +kernel
theorem dL_lit_83 : decode cL_lit 83 = .ok (.invokevirtual 15, 3) := by decide +kernel
theorem dL_lit_86 : decode cL_lit 86 = .ok (.if_icmp .ge 22, 3) := by decide +kernel
theorem dL_lit_89 : decode cL_lit 89 = .ok (.aload_n 0, 1) := by decide +kernel
theorem dL_lit_90 : decode cL_lit 90 = .ok (.aload_n 0, 1) := by decide +kernel
theorem dL_lit_91 : decode cL_lit 91 = .ok (.iload_n 1, 1) := by decide +kernel
theorem dL_lit_92 : decode cL_lit 92 = .ok (.iconst 4, 1) := by decide +kernel
theorem dL_lit_93 : decode cL_lit 93 = .ok (.invokevirtual 15, 3) := by decide +kernel
theorem dL_lit_96 : decode cL_lit 96 = .ok (.iconst 2, 1) := by decide +kernel
theorem dL_lit_97 : decode cL_lit 97 = .ok (.invokevirtual 28, 3) := by decide +kernel
theorem dL_lit_100 : decode cL_lit 100 = .ok (.iconst 1, 1) := by decide +kernel
theorem dL_lit_101 : decode cL_lit 101 = .ok (.if_icmp .ne 7, 3) := by decide +kernel
theorem dL_lit_104 : decode cL_lit 104 = .ok (.iconst 1, 1) := by decide +kernel
theorem dL_lit_105 : decode cL_lit 105 = .ok (.goto 4, 3) := by decide +kernel
theorem dL_lit_108 : decode cL_lit 108 = .ok (.iconst 0, 1) := by decide +kernel
theorem dL_lit_109 : decode cL_lit 109 = .ok (.istore 5, 2) := by decide +kernel
theorem dL_lit_111 : decode cL_lit 111 = .ok (.iload 5, 2) := by decide +kernel
theorem dL_lit_113 : decode cL_lit 113 = .ok (.ifCond .eq 32, 3) := by decide +kernel
theorem dL_lit_116 : decode cL_lit 116 = .ok (.iload_n 3, 1) := by decide +kernel
theorem dL_lit_117 : decode cL_lit 117 = .ok (.ifCond .eq 9, 3) := by decide +kernel
theorem dL_lit_120 : decode cL_lit 120 = .ok (.sipush 255, 3) := by decide +kernel
theorem dL_lit_123 : decode cL_lit 123 = .ok (.goto 9, 3) := by decide +kernel
theorem dL_lit_126 : decode cL_lit 126 = .ok (.aload_n 0, 1) := by decide +kernel
theorem dL_lit_127 : decode cL_lit 127 = .ok (.iload_n 1, 1) := by decide +kernel
theorem dL_lit_128 : decode cL_lit 128 = .ok (.iconst 0, 1) := by decide +kernel
theorem dL_lit_129 : decode cL_lit 129 = .ok (.invokevirtual 15, 3) := by decide +kernel
theorem dL_lit_132 : decode cL_lit 132 = .ok (.aload_n 0, 1) := by decide +kernel
theorem dL_lit_133 : decode cL_lit 133 = .ok (.iload_n 1, 1) := by decide +kernel
theorem dL_lit_134 : decode cL_lit 134 = .ok (.bipush 8, 2) := by decide +kernel
theorem dL_lit_136 : decode cL_lit 136 = .ok (.invokevirtual 15, 3) := by decide +kernel
theorem dL_lit_139 : decode cL_lit 139 = .ok (.iconst (-1), 1) := by decide +kernel
theorem dL_lit_140 : decode cL_lit 140 = .ok (.ixor, 1) := by decide +kernel
theorem dL_lit_141 : decode cL_lit 141 = .ok (.iand, 1) := by decide +kernel
theorem dL_lit_142 : decode cL_lit 142 = .ok (.goto 4, 3) := by decide +kernel
theorem dL_lit_145 : decode cL_lit 145 = .ok (.iconst 0, 1) := by decide +kernel
theorem dL_lit_146 : decode cL_lit 146 = .ok (.ireturn, 1) := by decide +kernel
set_option maxRecDepth 20000 in
theorem ggL_ticks_X5_count : GoodIn wsL_ticks wsX5_count := goodIn_r _ [6, 7, 8, 9, 10, 11, 12, 13, 14, 15, 16, 17, 18, 19, 20, 21, 22, 23, 24, 25, 26, 27, 28, 29, 30, 31, 32, 33, 34, 35, 36, 37, 38, 39, 40, 41, 42, 43, 44, 45, 46, 47, 230, 231, 232, 233, 234, 235, 236, 237, 238, 239, 240, 241, 242, 243, 244, 245, 246, 247, 248, 249, 250, 251, 252, 253, 254, 255, 256, 257, 258, 259, 260, 261, 262, 263] (by decide +kernel) (by decide +kernel)
set_option maxRecDepth 20000 in
theorem gL_ticks_X5_count : GoodIn wsL_ticks (wsV RL 9 RX5 yX5_count wsX5_count) := goodIn_app (goodIn_of _ (by decide +kernel)) ggL_ticks_X5_count
set_option maxRecDepth 20000 in
theorem ggL_ticks_L_lit : GoodIn wsL_ticks wsL_lit := goodIn_r _ [51, 2, 3, 4, 5, 6, 7, 8, 9, 10, 11, 12, 13, 14, 15, 16, 17, 18, 19, 20, 21, 22, 23, 24, 25, 26, 27, 28, 29, 30, 31, 32, 33, 34, 35, 36, 37, 38, 39, 40, 41, 42, 43, 44, 45, 46, 47, 52, 53, 54, 55, 56, 57, 58, 59, 60, 61, 62, 63, 64, 65, 66, 67, 68, 69, 70, 71, 72, 73, 74, 75, 76, 77, 78, 79, 80, 81, 82, 83, 84, 85, 86, 87, 88, 89, 90, 91, 92, 93, 94, 95, 96, 97, 98, 99, 100, 101, 102, 103, 104, 105, 106, 107, 108, 109, 110, 111, 112, 113, 114, 230, 231, 232, 233, 234, 235, 236, 237, 238, 239, 240, 241, 242, 243, 244, 245, 246, 247, 248, 249, 250, 251, 252, 253, 254, 255, 256, 257, 258, 259, 260, 261, 262, 263] (by decide +kernel) (by decide +kernel)
set_option maxRecDepth 20000 in
theorem gL_ticks_L_lit : GoodIn wsL_ticks (va_wsS RL 31 yL_lit wsL_lit) := goodIn_app (goodIn_of _ (by decide +kernel)) ggL_ticks_L_lit
set_option maxRecDepth 20000 in
theorem ggL_ticks_X5_litIn : GoodIn wsL_ticks wsX5_litIn := goodIn_r _ [118, 7, 119, 63, 64, 65, 22, 66, 24, 29, 67, 5, 68, 102, 120, 121, 122, 123, 107, 124, 125, 126, 127, 108, 128, 129, 109, 35, 130, 131, 132, 133, 134, 135, 136, 137, 72, 138, 79, 80, 74, 139, 140, 141, 142, 86, 143, 144, 145, 146, 147, 148, 149, 150, 151, 152, 153, 154, 32, 33, 34, 30, 155, 156, 157, 158, 159, 40, 160, 161, 162, 163, 164, 114, 165, 76, 77, 78, 25, 26, 27, 28, 166, 104, 105, 106, 167, 168, 169, 170, 171, 172, 173, 174, 175, 176, 177, 178, 179, 180, 181, 41, 42, 43, 44, 45, 46, 47, 182, 183, 184, 185, 186, 187, 188, 189, 20, 21, 23, 190, 191, 192, 193, 31, 194, 230, 231, 232, 233, 234, 235, 236, 237, 238, 239, 240, 241, 242, 243, 244, 245, 246, 247, 255, 256, 257, 258, 259, 260, 261, 262, 263] (by decide +kernel) (by decide +kernel)
set_option maxRecDepth 20000 in
theorem gL_ticks_X5_litIn : GoodIn wsL_ticks (wsV RL 35 RX5 yX5_litIn wsX5_litIn) := goodIn_app (goodIn_of _ (by decide +kernel)) ggL_ticks_X5_litIn
set_option maxRecDepth 20000 in
theorem ggL_ticks_L_bits : GoodIn wsL_ticks wsL_bits := goodIn_r _ [197] (by decide +kernel) (by decide +kernel)
set_option maxRecDepth 20000 in
theorem gL_ticks_L_bits : GoodIn wsL_ticks (va_wsS RL 23 yL_bits wsL_bits) := goodIn_app (goodIn_of _ (by decide +kernel)) ggL_ticks_L_bits
set_option maxRecDepth 20000 in
theorem ggL_ticks_X5_segment : GoodIn wsL_ticks wsX5_segment := goodIn_r _ [201, 7, 202, 203, 61, 14, 63, 64, 65, 22, 66, 24, 29, 67, 5, 68, 102, 82, 83, 84, 72, 85, 86, 230, 231, 232, 233, 234, 255, 256, 257, 258, 259, 260, 261, 262, 263, 235, 236, 237, 238, 239, 240, 241, 242, 243, 244, 245, 246, 247] (by decide +kernel) (by decide +kernel)
set_option maxRecDepth 20000 in
theorem gL_ticks_X5_segment : GoodIn wsL_ticks (wsV RL 19 RX5 yX5_segment wsX5_segment) := goodIn_app (goodIn_of _ (by decide +kernel)) ggL_ticks_X5_segment
set_option maxRecDepth 20000 in
theorem ggL_ticks_X5_thousandths : GoodIn wsL_ticks wsX5_thousandths := goodIn_r _ [207, 208, 102, 67, 5, 68, 209, 210, 211, 212, 7, 213, 214, 215, 230, 231, 232, 233, 234, 235, 236, 237, 238, 239, 240, 241, 242, 243, 244, 245, 246, 247] (by decide +kernel) (by decide +kernel)
set_option maxRecDepth 20000 in
theorem gL_ticks_X5_thousandths : GoodIn wsL_ticks (wsV RL 38 RX5 yX5_thousandths wsX5_thousandths) := goodIn_app (goodIn_of _ (by decide +kernel)) ggL_ticks_X5_thousandths
set_option maxRecDepth 20000 in
theorem ggL_ticks_X5_pass : GoodIn wsL_ticks wsX5_pass := goodIn_r _ [219, 15, 7, 102, 67, 5, 68, 220, 221, 222, 223, 224, 225, 226, 227, 228, 180, 175, 181, 229, 121, 122, 22, 123, 29, 24, 107, 124, 125, 126, 127, 108, 128, 129, 109, 35, 130, 131, 132, 133, 134, 135, 136, 137, 72, 138, 79, 80, 74, 139, 140, 141, 142, 86, 143, 144, 145, 146, 147, 148, 149, 150, 151, 152, 153, 154, 32, 33, 34, 30, 155, 156, 157, 158, 159, 40, 160, 161, 162, 163, 164, 114, 165, 76, 77, 78, 25, 26, 27, 28, 166, 104, 105, 106, 167, 168, 169, 170, 171, 172, 173, 174, 176, 177, 178, 179, 41, 42, 43, 44, 45, 46, 47, 182, 183, 184, 185, 186, 187, 188, 189, 20, 21, 23, 190, 191, 192, 193, 230, 231, 232, 233, 234, 248, 249, 250, 235, 236, 237, 238, 239, 240, 241, 242, 243, 244, 245, 246, 247, 255, 256, 257, 258, 259, 260, 261, 262, 263] (by decide +kernel) (by decide +kernel)
set_option maxRecDepth 20000 in
theorem gL_ticks_X5_pass : GoodIn wsL_ticks (wsV RL 41 RX5 yX5_pass wsX5_pass) := goodIn_app (goodIn_of _ (by decide +kernel)) ggL_ticks_X5_pass
theorem dL_ticks_0 : decode cL_ticks 0 = .ok (.aload_n 0, 1) := by decide +kernel
theorem dL_ticks_1 : decode cL_ticks 1 = .ok (.iconst 1, 1) := by decide +kernel
theorem dL_ticks_2 : decode cL_ticks 2 = .ok (.invokevirtual 9, 3) := by decide +kernel
theorem dL_ticks_5 : decode cL_ticks 5 = .ok (.istore_n 1, 1) := by decide +kernel
theorem dL_ticks_6 : decode cL_ticks 6 = .ok (.bipush 64, 2) := by decide +kernel
theorem dL_ticks_8 : decode cL_ticks 8 = .ok (.newarray .int, 2) := by decide +kernel
theorem dL_ticks_10 : decode cL_ticks 10 = .ok (.astore_n 2, 1) := by decide +kernel
theorem dL_ticks_11 : decode cL_ticks 11 = .ok (.bipush 64, 2) := by decide +kernel
theorem dL_ticks_13 : decode cL_ticks 13 = .ok (.newarray .int, 2) := by decide +kernel
theorem dL_ticks_15 : decode cL_ticks 15 = .ok (.astore_n 3, 1) := by decide +kernel
theorem dL_ticks_16 : decode cL_ticks 16 = .ok (.iconst 0, 1) := by decide +kernel
theorem dL_ticks_17 : decode cL_ticks 17 = .ok (.istore 4, 2) := by decide +kernel
theorem dL_ticks_19 : decode cL_ticks 19 = .ok (.iconst 0, 1) := by decide +kernel
theorem dL_ticks_20 : decode cL_ticks 20 = .ok (.istore 5, 2) := by decide +kernel
theorem dL_ticks_22 : decode cL_ticks 22 = .ok (.iload 5, 2) := by decide +kernel
theorem dL_ticks_24 : decode cL_ticks 24 = .ok (.iload_n 1, 1) := by decide +kernel
theorem dL_ticks_25 : decode cL_ticks 25 = .ok (.if_icmp .ge 202, 3) := by decide +kernel
theorem dL_ticks_28 : decode cL_ticks 28 = .ok (.aload_n 0, 1) := by decide +kernel
theorem dL_ticks_29 : decode cL_ticks 29 = .ok (.iload 5, 2) := by decide +kernel
theorem dL_ticks_31 : decode cL_ticks 31 = .ok (.invokestatic 31, 3) := by decide +kernel
theorem dL_ticks_34 : decode cL_ticks 34 = .ok (.istore 6, 2) := by decide +kernel
theorem dL_ticks_36 : decode cL_ticks 36 = .ok (.aload_n 0, 1) := by decide +kernel
theorem dL_ticks_37 : decode cL_ticks 37 = .ok (.iload 5, 2) := by decide +kernel
theorem dL_ticks_39 : decode cL_ticks 39 = .ok (.iconst 0, 1) := by decide +kernel
theorem dL_ticks_40 : decode cL_ticks 40 = .ok (.invokevirtual 35, 3) := by decide +kernel
theorem dL_ticks_43 : decode cL_ticks 43 = .ok (.iload 6, 2) := by decide +kernel
theorem dL_ticks_45 : decode cL_ticks 45 = .ok (.if_icmp .eq 5, 3) := by decide +kernel
theorem dL_ticks_48 : decode cL_ticks 48 = .ok (.iconst 0, 1) := by decide +kernel
theorem dL_ticks_49 : decode cL_ticks 49 = .ok (.ireturn, 1) := by decide +kernel
theorem dL_ticks_50 : decode cL_ticks 50 = .ok (.iload 4, 2) := by decide +kernel
theorem dL_ticks_52 : decode cL_ticks 52 = .ok (.iload 6, 2) := by decide +kernel
theorem dL_ticks_54 : decode cL_ticks 54 = .ok (.invokestatic 23, 3) := by decide +kernel
theorem dL_ticks_57 : decode cL_ticks 57 = .ok (.iadd, 1) := by decide +kernel
theorem dL_ticks_58 : decode cL_ticks 58 = .ok (.istore 4, 2) := by decide +kernel
theorem dL_ticks_60 : decode cL_ticks 60 = .ok (.iconst 0, 1) := by decide +kernel
theorem dL_ticks_61 : decode cL_ticks 61 = .ok (.istore 7, 2) := by decide +kernel
theorem dL_ticks_63 : decode cL_ticks 63 = .ok (.iload 7, 2) := by decide +kernel
theorem dL_ticks_65 : decode cL_ticks 65 = .ok (.bipush 8, 2) := by decide +kernel
theorem dL_ticks_67 : decode cL_ticks 67 = .ok (.if_icmp .ge 154, 3) := by decide +kernel
theorem dL_ticks_70 : decode cL_ticks 70 = .ok (.aload_n 0, 1) := by decide +kernel
theorem dL_ticks_71 : decode cL_ticks 71 = .ok (.iload 5, 2) := by decide +kernel
theorem dL_ticks_73 : decode cL_ticks 73 = .ok (.iload 7, 2) := by decide +kernel
theorem dL_ticks_75 : decode cL_ticks 75 = .ok (.iconst 0, 1) := by decide +kernel
theorem dL_ticks_76 : decode cL_ticks 76 = .ok (.invokevirtual 19, 3) := by decide +kernel
theorem dL_ticks_79 : decode cL_ticks 79 = .ok (.istore 8, 2) := by decide +kernel
theorem dL_ticks_81 : decode cL_ticks 81 = .ok (.iload 6, 2) := by decide +kernel
theorem dL_ticks_83 : decode cL_ticks 83 = .ok (.iload 7, 2) := by decide +kernel
theorem dL_ticks_85 : decode cL_ticks 85 = .ok (.ishr, 1) := by decide +kernel
theorem dL_ticks_86 : decode cL_ticks 86 = .ok (.iconst 1, 1) := by decide +kernel
theorem dL_ticks_87 : decode cL_ticks 87 = .ok (.iand, 1) := by decide +kernel
theorem dL_ticks_88 : decode cL_ticks 88 = .ok (.iconst 1, 1) := by decide +kernel
theorem dL_ticks_89 : decode cL_ticks 89 = .ok (.if_icmp .ne 7, 3) := by decide +kernel
theorem dL_ticks_92 : decode cL_ticks 92 = .ok (.iconst 1, 1) := by decide +kernel
theorem dL_ticks_93 : decode cL_ticks 93 = .ok (.goto 4, 3) := by decide +kernel
theorem dL_ticks_96 : decode cL_ticks 96 = .ok (.iconst 0, 1) := by decide +kernel
theorem dL_ticks_97 : decode cL_ticks 97 = .ok (.istore 9, 2) := by decide +kernel
theorem dL_ticks_99 : decode cL_ticks 99 = .ok (.iload 8, 2) := by decide +kernel
theorem dL_ticks_101 : decode cL_ticks 101 = .ok (.iload 8, 2) := by decide +kernel
theorem dL_ticks_103 : decode cL_ticks 103 = .ok (.sipush 996, 3) := by decide +kernel
theorem dL_ticks_106 : decode cL_ticks 106 = .ok (.if_icmp .le 7, 3) := by decide +kernel
theorem dL_ticks_109 : decode cL_ticks 109 = .ok (.iconst 1, 1) := by decide +kernel
theorem dL_ticks_110 : decode cL_ticks 110 = .ok (.goto 11, 3) := by decide +kernel
theorem dL_ticks_113 : decode cL_ticks 113 = .ok (.sipush 1000, 3) := by decide +kernel
theorem dL_ticks_116 : decode cL_ticks 116 = .ok (.iload 8, 2) := by decide +kernel
theorem dL_ticks_118 : decode cL_ticks 118 = .ok (.isub, 1) := by decide +kernel
theorem dL_ticks_119 : decode cL_ticks 119 = .ok (.iconst 4, 1) := by decide +kernel
theorem dL_ticks_120 : decode cL_ticks 120 = .ok (.idiv, 1) := by decide +kernel
theorem dL_ticks_121 : decode cL_ticks 121 = .ok (.iadd, 1) := by decide +kernel
theorem dL_ticks_122 : decode cL_ticks 122 = .ok (.istore 10, 2) := by decide +kernel
theorem dL_ticks_124 : decode cL_ticks 124 = .ok (.iload 8, 2) := by decide +kernel
theorem dL_ticks_126 : decode cL_ticks 126 = .ok (.iload 8, 2) := by decide +kernel
theorem dL_ticks_128 : decode cL_ticks 128 = .ok (.aload_n 0, 1) := by decide +kernel
theorem dL_ticks_129 : decode cL_ticks 129 = .ok (.bipush 9, 2) := by decide +kernel
theorem dL_ticks_131 : decode cL_ticks 131 = .ok (.invokevirtual 9, 3) := by decide +kernel
theorem dL_ticks_134 : decode cL_ticks 134 = .ok (.idiv, 1) := by decide +kernel
theorem dL_ticks_135 : decode cL_ticks 135 = .ok (.isub, 1) := by decide +kernel
theorem dL_ticks_136 : decode cL_ticks 136 = .ok (.iconst 1, 1) := by decide +kernel
theorem dL_ticks_137 : decode cL_ticks 137 = .ok (.isub, 1) := by decide +kernel
theorem dL_ticks_138 : decode cL_ticks 138 = .ok (.istore 11, 2) := by decide +kernel
theorem dL_ticks_140 : decode cL_ticks 140 = .ok (.aload_n 2, 1) := by decide +kernel
theorem dL_ticks_141 : decode cL_ticks 141 = .ok (.bipush 8, 2) := by decide +kernel
theorem dL_ticks_143 : decode cL_ticks 143 = .ok (.iload 5, 2) := by decide +kernel
theorem dL_ticks_145 : decode cL_ticks 145 = .ok (.imul, 1) := by decide +kernel
theorem dL_ticks_146 : decode cL_ticks 146 = .ok (.iload 7, 2) := by decide +kernel
theorem dL_ticks_148 : decode cL_ticks 148 = .ok (.iadd, 1) := by decide +kernel
theorem dL_ticks_149 : decode cL_ticks 149 = .ok (.iload 9, 2) := by decide +kernel
theorem dL_ticks_151 : decode cL_ticks 151 = .ok (.ifCond .eq 22, 3) := by decide +kernel
theorem dL_ticks_154 : decode cL_ticks 154 = .ok (.iload 10, 2) := by decide +kernel
theorem dL_ticks_156 : decode cL_ticks 156 = .ok (.sipush 1000, 3) := by decide +kernel
theorem dL_ticks_159 : decode cL_ticks 159 = .ok (.if_icmp .le 9, 3) := by decide +kernel
theorem dL_ticks_162 : decode cL_ticks 162 = .ok (.sipush 1000, 3) := by decide +kernel
theorem dL_ticks_165 : decode cL_ticks 165 = .ok (.goto 19, 3) := by decide +kernel
theorem dL_ticks_168 : decode cL_ticks 168 = .ok (.iload 10, 2) := by decide +kernel
theorem dL_ticks_170 : decode cL_ticks 170 = .ok (.goto 14, 3) := by decide +kernel
theorem dL_ticks_173 : decode cL_ticks 173 = .ok (.iload 11, 2) := by decide +kernel
theorem dL_ticks_175 : decode cL_ticks 175 = .ok (.ifCond .ge 7, 3) := by decide +kernel
theorem dL_ticks_178 : decode cL_ticks 178 = .ok (.iconst 0, 1) := by decide +kernel
theorem dL_ticks_179 : decode cL_ticks 179 = .ok (.goto 5, 3) := by decide +kernel
theorem dL_ticks_182 : decode cL_ticks 182 = .ok (.iload 11, 2) := by decide +kernel
theorem dL_ticks_184 : decode cL_ticks 184 = .ok (.iastore, 1) := by decide +kernel
theorem dL_ticks_185 : decode cL_ticks 185 = .ok (.aload_n 3, 1) := by decide +kernel
theorem dL_ticks_186 : decode cL_ticks 186 = .ok (.bipush 8, 2) := by decide +kernel
theorem dL_ticks_188 : decode cL_ticks 188 = .ok (.iload 5, 2) := by decide +kernel
theorem dL_ticks_190 : decode cL_ticks 190 = .ok (.imul, 1) := by decide +kernel
theorem dL_ticks_191 : decode cL_ticks 191 = .ok (.iload 7, 2) := by decide +kernel
theorem dL_ticks_193 : decode cL_ticks 193 = .ok (.iadd, 1) := by decide +kernel
theorem dL_ticks_194 : decode cL_ticks 194 = .ok (.aload_n 0, 1) := by decide +kernel
theorem dL_ticks_195 : decode cL_ticks 195 = .ok (.iload 5, 2) := by decide +kernel
theorem dL_ticks_197 : decode cL_ticks 197 = .ok (.iload 7, 2) := by decide +kernel
theorem dL_ticks_199 : decode cL_ticks 199 = .ok (.iconst 1, 1) := by decide +kernel
theorem dL_ticks_200 : decode cL_ticks 200 = .ok (.invokevirtual 19, 3) := by decide +kernel
theorem dL_ticks_203 : decode cL_ticks 203 = .ok (.iload 9, 2) := by decide +kernel
theorem dL_ticks_205 : decode cL_ticks 205 = .ok (.ifCond .eq 7, 3) := by decide +kernel
theorem dL_ticks_208 : decode cL_ticks 208 = .ok (.iconst 1, 1) := by decide +kernel
theorem dL_ticks_209 : decode cL_ticks 209 = .ok (.goto 4, 3) := by decide +kernel
theorem dL_ticks_212 : decode cL_ticks 212 = .ok (.iconst 0, 1) := by decide +kernel
theorem dL_ticks_213 : decode cL_ticks 213 = .ok (.iadd, 1) := by decide +kernel
theorem dL_ticks_214 : decode cL_ticks 214 = .ok (.iastore, 1) := by decide +kernel
theorem dL_ticks_215 : decode cL_ticks 215 = .ok (.iinc 7 1, 3) := by decide +kernel
theorem dL_ticks_218 : decode cL_ticks 218 = .ok (.goto (-155), 3) := by decide +kernel
theorem dL_ticks_221 : decode cL_ticks 221 = .ok (.iinc 5 1, 3) := by decide +kernel
theorem dL_ticks_224 : decode cL_ticks 224 = .ok (.goto (-202), 3) := by decide +kernel
theorem dL_ticks_227 : decode cL_ticks 227 = .ok (.aload_n 0, 1) := by decide +kernel
theorem dL_ticks_228 : decode cL_ticks 228 = .ok (.iconst 0, 1) := by decide +kernel
theorem dL_ticks_229 : decode cL_ticks 229 = .ok (.invokevirtual 9, 3) := by decide +kernel
theorem dL_ticks_232 : decode cL_ticks 232 = .ok (.istore 5, 2) := by decide +kernel
theorem dL_ticks_234 : decode cL_ticks 234 = .ok (.aload_n 0, 1) := by decide +kernel
theorem dL_ticks_235 : decode cL_ticks 235 = .ok (.iconst 3, 1) := by decide +kernel
theorem dL_ticks_236 : decode cL_ticks 236 = .ok (.invokevirtual 9, 3) := by decide +kernel
theorem dL_ticks_239 : decode cL_ticks 239 = .ok (.istore 6, 2) := by decide +kernel
theorem dL_ticks_241 : decode cL_ticks 241 = .ok (.aload_n 0, 1) := by decide +kernel
theorem dL_ticks_242 : decode cL_ticks 242 = .ok (.iconst 4, 1) := by decide +kernel
theorem dL_ticks_243 : decode cL_ticks 243 = .ok (.invokevirtual 9, 3) := by decide +kernel
theorem dL_ticks_246 : decode cL_ticks 246 = .ok (.istore 7, 2) := by decide +kernel
theorem dL_ticks_248 : decode cL_ticks 248 = .ok (.aload_n 0, 1) := by decide +kernel
theorem dL_ticks_249 : decode cL_ticks 249 = .ok (.bipush 6, 2) := by decide +kernel
theorem dL_ticks_251 : decode cL_ticks 251 = .ok (.invokevirtual 9, 3) := by decide +kernel
theorem dL_ticks_254 : decode cL_ticks 254 = .ok (.istore 8, 2) := by decide +kernel
theorem dL_ticks_256 : decode cL_ticks 256 = .ok (.iload 7, 2) := by decide +kernel
theorem dL_ticks_258 : decode cL_ticks 258 = .ok (.iconst 1, 1) := by decide +kernel
theorem dL_ticks_259 : decode cL_ticks 259 = .ok (.iadd, 1) := by decide +kernel
theorem dL_ticks_260 : decode cL_ticks 260 = .ok (.aload_n 0, 1) := by decide +kernel
theorem dL_ticks_261 : decode cL_ticks 261 = .ok (.iconst 2, 1) := by decide +kernel
theorem dL_ticks_262 : decode cL_ticks 262 = .ok (.invokevirtual 9, 3) := by decide +kernel
theorem dL_ticks_265 : decode cL_ticks 265 = .ok (.if_icmp .ne 7, 3) := by decide +kernel
theorem dL_ticks_268 : decode cL_ticks 268 = .ok (.iconst 1, 1) := by decide +kernel
theorem dL_ticks_269 : decode cL_ticks 269 = .ok (.goto 4, 3) := by decide +kernel
theorem dL_ticks_272 : decode cL_ticks 272 = .ok (.iconst 0, 1) := by decide +kernel
theorem dL_ticks_273 : decode cL_ticks 273 = .ok (.istore 9, 2) := by decide +kernel
theorem dL_ticks_275 : decode cL_ticks 275 = .ok (.aload_n 0, 1) := by decide +kernel
theorem dL_ticks_276 : decode cL_ticks 276 = .ok (.iconst 1, 1) := by decide +kernel
theorem dL_ticks_277 : decode cL_ticks 277 = .ok (.invokevirtual 38, 3) := by decide +kernel
theorem dL_ticks_280 : decode cL_ticks 280 = .ok (.istore 10, 2) := by decide +kernel
theorem dL_ticks_282 : decode cL_ticks 282 = .ok (.aload_n 0, 1) := by decide +kernel
theorem dL_ticks_283 : decode cL_ticks 283 = .ok (.iconst 2, 1) := by decide +kernel
theorem dL_ticks_284 : decode cL_ticks 284 = .ok (.invokevirtual 38, 3) := by decide +kernel
theorem dL_ticks_287 : decode cL_ticks 287 = .ok (.istore 11, 2) := by decide +kernel
theorem dL_ticks_289 : decode cL_ticks 289 = .ok (.aload_n 0, 1) := by decide +kernel
theorem dL_ticks_290 : decode cL_ticks 290 = .ok (.iconst 1, 1) := by decide +kernel
theorem dL_ticks_291 : decode cL_ticks 291 = .ok (.invokevirtual 41, 3) := by decide +kernel
theorem dL_ticks_294 : decode cL_ticks 294 = .ok (.iload 4, 2) := by decide +kernel
theorem dL_ticks_296 : decode cL_ticks 296 = .ok (.if_icmp .ne 85, 3) := by decide +kernel
theorem dL_ticks_299 : decode cL_ticks 299 = .ok (.aload_n 0, 1) := by decide +kernel
theorem dL_ticks_300 : decode cL_ticks 300 = .ok (.iconst 0, 1) := by decide +kernel
theorem dL_ticks_301 : decode cL_ticks 301 = .ok (.invokevirtual 9, 3) := by decide +kernel
theorem dL_ticks_304 : decode cL_ticks 304 = .ok (.iload 5, 2) := by decide +kernel
theorem dL_ticks_306 : decode cL_ticks 306 = .ok (.iconst 1, 1) := by decide +kernel
theorem dL_ticks_307 : decode cL_ticks 307 = .ok (.iadd, 1) := by decide +kernel
theorem dL_ticks_308 : decode cL_ticks 308 = .ok (.if_icmp .ne 73, 3) := by decide +kernel
theorem dL_ticks_311 : decode cL_ticks 311 = .ok (.aload_n 0, 1) := by decide +kernel
theorem dL_ticks_312 : decode cL_ticks 312 = .ok (.iconst 3, 1) := by decide +kernel
theorem dL_ticks_313 : decode cL_ticks 313 = .ok (.invokevirtual 9, 3) := by decide +kernel
theorem dL_ticks_316 : decode cL_ticks 316 = .ok (.iload 6, 2) := by decide +kernel
theorem dL_ticks_318 : decode cL_ticks 318 = .ok (.iload 9, 2) := by decide +kernel
theorem dL_ticks_320 : decode cL_ticks 320 = .ok (.ifCond .eq 7, 3) := by decide +kernel
theorem dL_ticks_323 : decode cL_ticks 323 = .ok (.iconst 1, 1) := by decide +kernel
theorem dL_ticks_324 : decode cL_ticks 324 = .ok (.goto 4, 3) := by decide +kernel
theorem dL_ticks_327 : decode cL_ticks 327 = .ok (.iconst 0, 1) := by decide +kernel
theorem dL_ticks_328 : decode cL_ticks 328 = .ok (.iadd, 1) := by decide +kernel
theorem dL_ticks_329 : decode cL_ticks 329 = .ok (.if_icmp .ne 52, 3) := by decide +kernel
theorem dL_ticks_332 : decode cL_ticks 332 = .ok (.aload_n 0, 1) := by decide +kernel
theorem dL_ticks_333 : decode cL_ticks 333 = .ok (.iconst 4, 1) := by decide +kernel
theorem dL_ticks_334 : decode cL_ticks 334 = .ok (.invokevirtual 9, 3) := by decide +kernel
theorem dL_ticks_337 : decode cL_ticks 337 = .ok (.iload 9, 2) := by decide +kernel
theorem dL_ticks_339 : decode cL_ticks 339 = .ok (.ifCond .eq 7, 3) := by decide +kernel
theorem dL_ticks_342 : decode cL_ticks 342 = .ok (.iconst 0, 1) := by decide +kernel
theorem dL_ticks_343 : decode cL_ticks 343 = .ok (.goto 7, 3) := by decide +kernel
theorem dL_ticks_346 : decode cL_ticks 346 = .ok (.iload 7, 2) := by decide +kernel
theorem dL_ticks_348 : decode cL_ticks 348 = .ok (.iconst 1, 1) := by decide +kernel
theorem dL_ticks_349 : decode cL_ticks 349 = .ok (.iadd, 1) := by decide +kernel
theorem dL_ticks_350 : decode cL_ticks 350 = .ok (.if_icmp .ne 31, 3) := by decide +kernel
theorem dL_ticks_353 : decode cL_ticks 353 = .ok (.aload_n 0, 1) := by decide +kernel
theorem dL_ticks_354 : decode cL_ticks 354 = .ok (.bipush 6, 2) := by decide +kernel
theorem dL_ticks_356 : decode cL_ticks 356 = .ok (.invokevirtual 9, 3) := by decide +kernel
theorem dL_ticks_359 : decode cL_ticks 359 = .ok (.iload 9, 2) := by decide +kernel
theorem dL_ticks_361 : decode cL_ticks 361 = .ok (.ifCond .eq 15, 3) := by decide +kernel
theorem dL_ticks_364 : decode cL_ticks 364 = .ok (.iload 8, 2) := by decide +kernel
theorem dL_ticks_366 : decode cL_ticks 366 = .ok (.ifCond .le 10, 3) := by decide +kernel
theorem dL_ticks_369 : decode cL_ticks 369 = .ok (.iload 8, 2) := by decide +kernel
theorem dL_ticks_371 : decode cL_ticks 371 = .ok (.iconst 1, 1) := by decide +kernel
theorem dL_ticks_372 : decode cL_ticks 372 = .ok (.isub, 1) := by decide +kernel
theorem dL_ticks_373 : decode cL_ticks 373 = .ok (.goto 5, 3) := by decide +kernel
theorem dL_ticks_376 : decode cL_ticks 376 = .ok (.iload 8, 2) := by decide +kernel
theorem dL_ticks_378 : decode cL_ticks 378 = .ok (.if_icmp .eq 5, 3) := by decide +kernel
theorem dL_ticks_381 : decode cL_ticks 381 = .ok (.iconst 0, 1) := by decide +kernel
theorem dL_ticks_382 : decode cL_ticks 382 = .ok (.ireturn, 1) := by decide +kernel
theorem dL_ticks_383 : decode cL_ticks 383 = .ok (.iconst 0, 1) := by decide +kernel
theorem dL_ticks_384 : decode cL_ticks 384 = .ok (.istore 12, 2) := by decide +kernel
theorem dL_ticks_386 : decode cL_ticks 386 = .ok (.iload 12, 2) := by decide +kernel
theorem dL_ticks_388 : decode cL_ticks 388 = .ok (.iload_n 1, 1) := by decide +kernel
theorem dL_ticks_389 : decode cL_ticks 389 = .ok (.if_icmp .ge 135, 3) := by decide +kernel
theorem dL_ticks_392 : decode cL_ticks 392 = .ok (.iconst 0, 1) := by decide +kernel
theorem dL_ticks_393 : decode cL_ticks 393 = .ok (.istore 13, 2) := by decide +kernel
theorem dL_ticks_395 : decode cL_ticks 395 = .ok (.iload 13, 2) := by decide +kernel
theorem dL_ticks_397 : decode cL_ticks 397 = .ok (.bipush 8, 2) := by decide +kernel
theorem dL_ticks_399 : decode cL_ticks 399 = .ok (.if_icmp .ge 119, 3) := by decide +kernel
theorem dL_ticks_402 : decode cL_ticks 402 = .ok (.aload_n 3, 1) := by decide +kernel
theorem dL_ticks_403 : decode cL_ticks 403 = .ok (.bipush 8, 2) := by decide +kernel
theorem dL_ticks_405 : decode cL_ticks 405 = .ok (.iload 12, 2) := by decide +kernel
theorem dL_ticks_407 : decode cL_ticks 407 = .ok (.imul, 1) := by decide +kernel
theorem dL_ticks_408 : decode cL_ticks 408 = .ok (.iload 13, 2) := by decide +kernel
theorem dL_ticks_410 : decode cL_ticks 410 = .ok (.iadd, 1) := by decide +kernel
theorem dL_ticks_411 : decode cL_ticks 411 = .ok (.iaload, 1) := by decide +kernel
theorem dL_ticks_412 : decode cL_ticks 412 = .ok (.aload_n 0, 1) := by decide +kernel
theorem dL_ticks_413 : decode cL_ticks 413 = .ok (.bipush 11, 2) := by decide +kernel
theorem dL_ticks_415 : decode cL_ticks 415 = .ok (.invokevirtual 9, 3) := by decide +kernel
theorem dL_ticks_418 : decode cL_ticks 418 = .ok (.if_icmp .lt 7, 3) := by decide +kernel
theorem dL_ticks_421 : decode cL_ticks 421 = .ok (.iconst 1, 1) := by decide +kernel
theorem dL_ticks_422 : decode cL_ticks 422 = .ok (.goto 4, 3) := by decide +kernel
theorem dL_ticks_425 : decode cL_ticks 425 = .ok (.iconst 0, 1) := by decide +kernel
theorem dL_ticks_426 : decode cL_ticks 426 = .ok (.istore 14, 2) := by decide +kernel
theorem dL_ticks_428 : decode cL_ticks 428 = .ok (.aload_n 0, 1) := by decide +kernel
theorem dL_ticks_429 : decode cL_ticks 429 = .ok (.iload 12, 2) := by decide +kernel
theorem dL_ticks_431 : decode cL_ticks 431 = .ok (.iload 13, 2) := by decide +kernel
theorem dL_ticks_433 : decode cL_ticks 433 = .ok (.iconst 2, 1) := by decide +kernel
theorem dL_ticks_434 : decode cL_ticks 434 = .ok (.invokevirtual 19, 3) := by decide +kernel
theorem dL_ticks_437 : decode cL_ticks 437 = .ok (.iconst 1, 1) := by decide +kernel
theorem dL_ticks_438 : decode cL_ticks 438 = .ok (.if_icmp .ne 7, 3) := by decide +kernel
theorem dL_ticks_441 : decode cL_ticks 441 = .ok (.iconst 1, 1) := by decide +kernel
theorem dL_ticks_442 : decode cL_ticks 442 = .ok (.goto 4, 3) := by decide +kernel
theorem dL_ticks_445 : decode cL_ticks 445 = .ok (.iconst 0, 1) := by decide +kernel
theorem dL_ticks_446 : decode cL_ticks 446 = .ok (.istore 15, 2) := by decide +kernel
theorem dL_ticks_448 : decode cL_ticks 448 = .ok (.aload_n 0, 1) := by decide +kernel
theorem dL_ticks_449 : decode cL_ticks 449 = .ok (.iload 12, 2) := by decide +kernel
theorem dL_ticks_451 : decode cL_ticks 451 = .ok (.iload 13, 2) := by decide +kernel
theorem dL_ticks_453 : decode cL_ticks 453 = .ok (.iconst 0, 1) := by decide +kernel
theorem dL_ticks_454 : decode cL_ticks 454 = .ok (.invokevirtual 19, 3) := by decide +kernel
theorem dL_ticks_457 : decode cL_ticks 457 = .ok (.aload_n 2, 1) := by decide +kernel
theorem dL_ticks_458 : decode cL_ticks 458 = .ok (.bipush 8, 2) := by decide +kernel
theorem dL_ticks_460 : decode cL_ticks 460 = .ok (.iload 12, 2) := by decide +kernel
theorem dL_ticks_462 : decode cL_ticks 462 = .ok (.imul, 1) := by decide +kernel
theorem dL_ticks_463 : decode cL_ticks 463 = .ok (.iload 13, 2) := by decide +kernel
theorem dL_ticks_465 : decode cL_ticks 465 = .ok (.iadd, 1) := by decide +kernel
theorem dL_ticks_466 : decode cL_ticks 466 = .ok (.iaload, 1) := by decide +kernel
theorem dL_ticks_467 : decode cL_ticks 467 = .ok (.if_icmp .ne 43, 3) := by decide +kernel
theorem dL_ticks_470 : decode cL_ticks 470 = .ok (.aload_n 0, 1) := by decide +kernel
theorem dL_ticks_471 : decode cL_ticks 471 = .ok (.iload 12, 2) := by decide +kernel
theorem dL_ticks_473 : decode cL_ticks 473 = .ok (.iload 13, 2) := by decide +kernel
theorem dL_ticks_475 : decode cL_ticks 475 = .ok (.iconst 1, 1) := by decide +kernel
theorem dL_ticks_476 : decode cL_ticks 476 = .ok (.invokevirtual 19, 3) := by decide +kernel
theorem dL_ticks_479 : decode cL_ticks 479 = .ok (.aload_n 3, 1) := by decide +kernel
theorem dL_ticks_480 : decode cL_ticks 480 = .ok (.bipush 8, 2) := by decide +kernel
theorem dL_ticks_482 : decode cL_ticks 482 = .ok (.iload 12, 2) := by decide +kernel
theorem dL_ticks_484 : decode cL_ticks 484 = .ok (.imul, 1) := by decide +kernel
theorem dL_ticks_485 : decode cL_ticks 485 = .ok (.iload 13, 2) := by decide +kernel
theorem dL_ticks_487 : decode cL_ticks 487 = .ok (.iadd, 1) := by decide +kernel
theorem dL_ticks_488 : decode cL_ticks 488 = .ok (.iaload, 1) := by decide +kernel
theorem dL_ticks_489 : decode cL_ticks 489 = .ok (.if_icmp .ne 21, 3) := by decide +kernel
theorem dL_ticks_492 : decode cL_ticks 492 = .ok (.iload 15, 2) := by decide +kernel
theorem dL_ticks_494 : decode cL_ticks 494 = .ok (.ifCond .eq 18, 3) := by decide +kernel
theorem dL_ticks_497 : decode cL_ticks 497 = .ok (.aload_n 3, 1) := by decide +kernel
theorem dL_ticks_498 : decode cL_ticks 498 = .ok (.bipush 8, 2) := by decide +kernel
theorem dL_ticks_500 : decode cL_ticks 500 = .ok (.iload 12, 2) := by decide +kernel
theorem dL_ticks_502 : decode cL_ticks 502 = .ok (.imul, 1) := by decide +kernel
theorem dL_ticks_503 : decode cL_ticks 503 = .ok (.iload 13, 2) := by decide +kernel
theorem dL_ticks_505 : decode cL_ticks 505 = .ok (.iadd, 1) := by decide +kernel
theorem dL_ticks_506 : decode cL_ticks 506 = .ok (.iaload, 1) := by decide +kernel
theorem dL_ticks_507 : decode cL_ticks 507 = .ok (.ifCond .ne 5, 3) := by decide +kernel
theorem dL_ticks_510 : decode cL_ticks 510 = .ok (.iconst 0, 1) := by decide +kernel
theorem dL_ticks_511 : decode cL_ticks 511 = .ok (.ireturn, 1) := by decide +kernel
theorem dL_ticks_512 : decode cL_ticks 512 = .ok (.iinc 13 1, 3) := by decide +kernel
theorem dL_ticks_515 : decode cL_ticks 515 = .ok (.goto (-120), 3) := by decide +kernel
theorem dL_ticks_518 : decode cL_ticks 518 = .ok (.iinc 12 1, 3) := by decide +kernel
theorem dL_ticks_521 : decode cL_ticks 521 = .ok (.goto (-135), 3) := by decide +kernel
theorem dL_ticks_524 : decode cL_ticks 524 = .ok (.aload_n 0, 1) := by decide +kernel
theorem dL_ticks_525 : decode cL_ticks 525 = .ok (.iconst 1, 1) := by decide +kernel
theorem dL_ticks_526 : decode cL_ticks 526 = .ok (.invokevirtual 38, 3) := by decide +kernel
theorem dL_ticks_529 : decode cL_ticks 529 = .ok (.iload 10, 2) := by decide +kernel
theorem dL_ticks_531 : decode cL_ticks 531 = .ok (.if_icmp .lt 59, 3) := by decide +kernel
theorem dL_ticks_534 : decode cL_ticks 534 = .ok (.aload_n 0, 1) := by decide +kernel
theorem dL_ticks_535 : decode cL_ticks 535 = .ok (.iconst 2, 1) := by decide +kernel
theorem dL_ticks_536 : decode cL_ticks 536 = .ok (.invokevirtual 38, 3) := by decide +kernel
theorem dL_ticks_539 : decode cL_ticks 539 = .ok (.iload 11, 2) := by decide +kernel
theorem dL_ticks_541 : decode cL_ticks 541 = .ok (.if_icmp .lt 49, 3) := by decide +kernel
theorem dL_ticks_544 : decode cL_ticks 544 = .ok (.aload_n 0, 1) := by decide +kernel
theorem dL_ticks_545 : decode cL_ticks 545 = .ok (.iconst 0, 1) := by decide +kernel
theorem dL_ticks_546 : decode cL_ticks 546 = .ok (.invokevirtual 38, 3) := by decide +kernel
theorem dL_ticks_549 : decode cL_ticks 549 = .ok (.aload_n 0, 1) := by decide +kernel
theorem dL_ticks_550 : decode cL_ticks 550 = .ok (.iconst 1, 1) := by decide +kernel
theorem dL_ticks_551 : decode cL_ticks 551 = .ok (.invokevirtual 38, 3) := by decide +kernel
theorem dL_ticks_554 : decode cL_ticks 554 = .ok (.if_icmp .gt 36, 3) := by decide +kernel
theorem dL_ticks_557 : decode cL_ticks 557 = .ok (.aload_n 0, 1) := by decide +kernel
theorem dL_ticks_558 : decode cL_ticks 558 = .ok (.iconst 1, 1) := by decide +kernel
theorem dL_ticks_559 : decode cL_ticks 559 = .ok (.invokevirtual 38, 3) := by decide +kernel
theorem dL_ticks_562 : decode cL_ticks 562 = .ok (.sipush 20000, 3) := by decide +kernel
theorem dL_ticks_565 : decode cL_ticks 565 = .ok (.if_icmp .gt 25, 3) := by decide +kernel
theorem dL_ticks_568 : decode cL_ticks 568 = .ok (.aload_n 0, 1) := by decide +kernel
theorem dL_ticks_569 : decode cL_ticks 569 = .ok (.iconst 0, 1) := by decide +kernel
theorem dL_ticks_570 : decode cL_ticks 570 = .ok (.invokevirtual 38, 3) := by decide +kernel
theorem dL_ticks_573 : decode cL_ticks 573 = .ok (.ifCond .lt 17, 3) := by decide +kernel
theorem dL_ticks_576 : decode cL_ticks 576 = .ok (.aload_n 0, 1) := by decide +kernel
theorem dL_ticks_577 : decode cL_ticks 577 = .ok (.iconst 3, 1) := by decide +kernel
theorem dL_ticks_578 : decode cL_ticks 578 = .ok (.invokevirtual 38, 3) := by decide +kernel
theorem dL_ticks_581 : decode cL_ticks 581 = .ok (.bipush (-2), 2) := by decide +kernel
theorem dL_ticks_583 : decode cL_ticks 583 = .ok (.if_icmp .ne 7, 3) := by decide +kernel
theorem dL_ticks_586 : decode cL_ticks 586 = .ok (.iconst 1, 1) := by decide +kernel
theorem dL_ticks_587 : decode cL_ticks 587 = .ok (.goto 4, 3) := by decide +kernel
theorem dL_ticks_590 : decode cL_ticks 590 = .ok (.iconst 0, 1) := by decide +kernel
theorem dL_ticks_591 : decode cL_ticks 591 = .ok (.ireturn, 1) := by decide +kernel
set_option maxRecDepth 20000 in
theorem ggL_ahead_X5_litIn : GoodIn wsL_ahead wsX5_litIn := goodIn_r _ [5, 6, 7, 8, 9, 10, 11, 12, 13, 14, 15, 4, 16, 17, 18, 19, 20, 21, 22, 23, 24, 25, 26, 27, 28, 29, 30, 31, 32, 33, 34, 35, 36, 37, 38, 39, 40, 41, 42, 43, 44, 45, 46, 47, 48, 49, 50, 51, 52, 53, 54, 55, 56, 57, 58, 59, 60, 61, 62, 63, 64, 65, 66, 67, 68, 69, 70, 71, 72, 73, 74, 75, 76, 77, 78, 79, 80, 81, 82, 83, 84, 85, 86, 87, 88, 89, 90, 91, 92, 93, 94, 95, 96, 97, 98, 99, 100, 101, 102, 103, 104, 105, 106, 107, 108, 109, 110, 111, 112, 113, 114, 115, 116, 117, 118, 119, 120, 121, 122, 123, 124, 125, 126, 127, 128, 153, 154, 155, 156, 157, 158, 159, 160, 161, 162, 163, 164, 165, 166, 167, 168, 169, 170, 171, 172, 173, 174, 175, 176, 177, 178, 179] (by decide +kernel) (by decide +kernel)
set_option maxRecDepth 20000 in
theorem gL_ahead_X5_litIn : GoodIn wsL_ahead (wsV RL 35 RX5 yX5_litIn wsX5_litIn) := goodIn_app (goodIn_of _ (by decide +kernel)) ggL_ahead_X5_litIn
set_option maxRecDepth 20000 in
theorem ggL_ahead_X5_pass : GoodIn wsL_ahead wsX5_pass := goodIn_r _ [132, 133, 6, 17, 15, 4, 16, 134, 135, 136, 137, 138, 139, 140, 141, 142, 103, 98, 104, 143, 19, 20, 11, 21, 14, 13, 22, 23, 24, 25, 26, 27, 28, 29, 30, 31, 32, 33, 34, 35, 36, 37, 38, 39, 40, 41, 42, 43, 44, 45, 46, 47, 48, 49, 50, 51, 52, 53, 54, 55, 56, 57, 58, 59, 60, 61, 62, 63, 64, 65, 66, 67, 68, 69, 70, 71, 72, 73, 74, 75, 76, 77, 78, 79, 80, 81, 82, 83, 84, 85, 86, 87, 88, 89, 90, 91, 92, 93, 94, 95, 96, 97, 99, 100, 101, 102, 105, 106, 107, 108, 109, 110, 111, 112, 113, 114, 115, 116, 117, 118, 119, 120, 121, 122, 123, 124, 125, 126, 153, 154, 155, 156, 157, 180, 181, 182, 158, 159, 160, 161, 162, 163, 164, 165, 166, 167, 168, 169, 170, 171, 172, 173, 174, 175, 176, 177, 178, 179] (by decide +kernel) (by decide +kernel)
set_option maxRecDepth 20000 in
theorem gL_ahead_X5_pass : GoodIn wsL_ahead (wsV RL 41 RX5 yX5_pass wsX5_pass) := goodIn_app (goodIn_of _ (by decide +kernel)) ggL_ahead_X5_pass
set_option maxRecDepth 20000 in
theorem ggL_ahead_X5_undo : GoodIn wsL_ahead wsX5_undo := goodIn_r _ [147, 133, 148, 6, 149, 150, 151, 137, 152, 140, 139, 141, 143, 19, 20, 11, 21, 14, 13, 22, 23, 24, 25, 26, 27, 28, 29, 30, 31, 32, 33, 34, 35, 36, 37, 38, 39, 40, 41, 42, 43, 44, 45, 46, 47, 48, 49, 50, 51, 153, 154, 155, 156, 157, 180, 181, 182, 158, 159, 160, 161, 162, 163, 164, 165, 166, 167, 168, 169, 170, 171, 172, 173, 174, 175, 176, 177, 178, 179] (by decide +kernel) (by decide +kernel)
set_option maxRecDepth 20000 in
theorem gL_ahead_X5_undo : GoodIn wsL_ahead (wsV RL 44 RX5 yX5_undo wsX5_undo) := goodIn_app (goodIn_of _ (by decide +kernel)) ggL_ahead_X5_undo
theorem dL_ahead_0 : decode cL_ahead 0 = .ok (.aload_n 0, 1) := by decide +kernel
theorem dL_ahead_1 : decode cL_ahead 1 = .ok (.iload_n 1, 1) := by decide +kernel
theorem dL_ahead_2 : decode cL_ahead 2 = .ok (.iload_n 2, 1) := by decide +kernel
theorem dL_ahead_3 : decode cL_ahead 3 = .ok (.invokevirtual 35, 3) := by decide +kernel
theorem dL_ahead_6 : decode cL_ahead 6 = .ok (.istore_n 3, 1) := by decide +kernel
theorem dL_ahead_7 : decode cL_ahead 7 = .ok (.iload_n 2, 1) := by decide +kernel
theorem dL_ahead_8 : decode cL_ahead 8 = .ok (.ifCond .le 13, 3) := by decide +kernel
theorem dL_ahead_11 : decode cL_ahead 11 = .ok (.aload_n 0, 1) := by decide +kernel
theorem dL_ahead_12 : decode cL_ahead 12 = .ok (.iload_n 2, 1) := by decide +kernel
theorem dL_ahead_13 : decode cL_ahead 13 = .ok (.invokevirtual 41, 3) := by decide +kernel
theorem dL_ahead_16 : decode cL_ahead 16 = .ok (.ifCond .ge 5, 3) := by decide +kernel
theorem dL_ahead_19 : decode cL_ahead 19 = .ok (.iconst 0, 1) := by decide +kernel
theorem dL_ahead_20 : decode cL_ahead 20 = .ok (.ireturn, 1) := by decide +kernel
theorem dL_ahead_21 : decode cL_ahead 21 = .ok (.aload_n 0, 1) := by decide +kernel
theorem dL_ahead_22 : decode cL_ahead 22 = .ok (.iload_n 1, 1) := by decide +kernel
theorem dL_ahead_23 : decode cL_ahead 23 = .ok (.iconst 0, 1) := by decide +kernel
theorem dL_ahead_24 : decode cL_ahead 24 = .ok (.invokevirtual 35, 3) := by decide +kernel
theorem dL_ahead_27 : decode cL_ahead 27 = .ok (.iload_n 3, 1) := by decide +kernel
theorem dL_ahead_28 : decode cL_ahead 28 = .ok (.if_icmp .ne 7, 3) := by decide +kernel
theorem dL_ahead_31 : decode cL_ahead 31 = .ok (.iconst 1, 1) := by decide +kernel
theorem dL_ahead_32 : decode cL_ahead 32 = .ok (.goto 4, 3) := by decide +kernel
theorem dL_ahead_35 : decode cL_ahead 35 = .ok (.iconst 0, 1) := by decide +kernel
theorem dL_ahead_36 : decode cL_ahead 36 = .ok (.istore 4, 2) := by decide +kernel
theorem dL_ahead_38 : decode cL_ahead 38 = .ok (.iload 4, 2) := by decide +kernel
theorem dL_ahead_40 : decode cL_ahead 40 = .ok (.ifCond .eq 52, 3) := by decide +kernel
theorem dL_ahead_43 : decode cL_ahead 43 = .ok (.iload_n 2, 1) := by decide +kernel
theorem dL_ahead_44 : decode cL_ahead 44 = .ok (.ifCond .eq 20, 3) := by decide +kernel
theorem dL_ahead_47 : decode cL_ahead 47 = .ok (.aload_n 0, 1) := by decide +kernel
theorem dL_ahead_48 : decode cL_ahead 48 = .ok (.invokevirtual 44, 3) := by decide +kernel
theorem dL_ahead_51 : decode cL_ahead 51 = .ok (.ifCond .lt 41, 3) := by decide +kernel
theorem dL_ahead_54 : decode cL_ahead 54 = .ok (.aload_n 0, 1) := by decide +kernel
theorem dL_ahead_55 : decode cL_ahead 55 = .ok (.iload_n 1, 1) := by decide +kernel
theorem dL_ahead_56 : decode cL_ahead 56 = .ok (.iload_n 2, 1) := by decide +kernel
theorem dL_ahead_57 : decode cL_ahead 57 = .ok (.invokevirtual 35, 3) := by decide +kernel
theorem dL_ahead_60 : decode cL_ahead 60 = .ok (.iload_n 3, 1) := by decide +kernel
theorem dL_ahead_61 : decode cL_ahead 61 = .ok (.if_icmp .ne 31, 3) := by decide +kernel
theorem dL_ahead_64 : decode cL_ahead 64 = .ok (.aload_n 0, 1) := by decide +kernel
theorem dL_ahead_65 : decode cL_ahead 65 = .ok (.iload_n 1, 1) := by decide +kernel
theorem dL_ahead_66 : decode cL_ahead 66 = .ok (.sipush 501, 3) := by decide +kernel
theorem dL_ahead_69 : decode cL_ahead 69 = .ok (.invokevirtual 35, 3) := by decide +kernel
theorem dL_ahead_72 : decode cL_ahead 72 = .ok (.bipush (-2), 2) := by decide +kernel
theorem dL_ahead_74 : decode cL_ahead 74 = .ok (.if_icmp .ne 18, 3) := by decide +kernel
theorem dL_ahead_77 : decode cL_ahead 77 = .ok (.aload_n 0, 1) := by decide +kernel
theorem dL_ahead_78 : decode cL_ahead 78 = .ok (.iload_n 1, 1) := by decide +kernel
theorem dL_ahead_79 : decode cL_ahead 79 = .ok (.iconst (-1), 1) := by decide +kernel
theorem dL_ahead_80 : decode cL_ahead 80 = .ok (.invokevirtual 35, 3) := by decide +kernel
theorem dL_ahead_83 : decode cL_ahead 83 = .ok (.bipush (-2), 2) := by decide +kernel
theorem dL_ahead_85 : decode cL_ahead 85 = .ok (.if_icmp .ne 7, 3) := by decide +kernel
theorem dL_ahead_88 : decode cL_ahead 88 = .ok (.iconst 1, 1) := by decide +kernel
theorem dL_ahead_89 : decode cL_ahead 89 = .ok (.goto 4, 3) := by decide +kernel
theorem dL_ahead_92 : decode cL_ahead 92 = .ok (.iconst 0, 1) := by decide +kernel
theorem dL_ahead_93 : decode cL_ahead 93 = .ok (.ireturn, 1) := by decide +kernel
set_option maxRecDepth 20000 in
theorem ggL_steady_X5_digit : GoodIn wsL_steady wsX5_digit := goodIn_r _ [5, 6, 7, 8, 9, 10, 11, 12, 13, 14, 15, 16, 17, 18, 19, 20, 21, 22, 4, 23, 24, 25, 26, 27, 28, 29, 30, 31, 32, 33, 34, 35, 36, 37, 38, 39, 40, 41, 42, 43, 44, 45, 46, 47, 48, 49, 50, 51, 52, 53, 54, 111, 112, 113, 114, 115, 116, 117, 118, 119, 120, 121, 122, 123, 124, 125, 126, 127, 128, 129, 130, 131, 132, 133, 134, 135, 136, 137] (by decide +kernel) (by decide +kernel)
set_option maxRecDepth 20000 in
theorem gL_steady_X5_digit : GoodIn wsL_steady (wsV RL 15 RX5 yX5_digit wsX5_digit) := goodIn_app (goodIn_of _ (by decide +kernel)) ggL_steady_X5_digit
set_option maxRecDepth 20000 in
theorem ggL_steady_X5_count : GoodIn wsL_steady wsX5_count := goodIn_r _ [58, 6, 59, 60, 61, 62, 63, 64, 12, 65, 66, 67, 68, 69, 70, 71, 18, 72, 20, 73, 37, 38, 39, 21, 40, 74, 75, 76, 77, 78, 79, 80, 81, 82, 83, 84, 85, 86, 87, 88, 89, 90, 111, 112, 113, 114, 115, 125, 126, 127, 128, 129, 130, 131, 132, 133, 134, 135, 136, 137, 138, 139, 140, 141, 142, 143, 144, 116, 117, 118, 119, 120, 121, 122, 123, 124] (by decide +kernel) (by decide +kernel)
set_option maxRecDepth 20000 in
theorem gL_steady_X5_count : GoodIn wsL_steady (wsV RL 9 RX5 yX5_count wsX5_count) := goodIn_app (goodIn_of _ (by decide +kernel)) ggL_steady_X5_count
set_option maxRecDepth 20000 in
theorem ggL_steady_X5_steadyGlow : GoodIn wsL_steady wsX5_steadyGlow := goodIn_r _ [94, 6, 12, 15, 16, 17, 18, 19, 20, 21, 22, 4, 23, 24, 25, 26, 27, 28, 29, 30, 31, 32, 33, 34, 35, 69, 70, 71, 72, 73, 37, 38, 39, 40, 95, 96, 97, 98, 99, 100, 101, 102, 103, 104, 105, 106, 107, 108, 109, 110, 111, 112, 113, 114, 115, 125, 126, 127, 128, 129, 130, 131, 132, 133, 134, 135, 136, 137, 116, 117, 118, 119, 120, 121, 122, 123, 124] (by decide +kernel) (by decide +kernel)
set_option maxRecDepth 20000 in
theorem gL_steady_X5_steadyGlow : GoodIn wsL_steady (wsV RL 48 RX5 yX5_steadyGlow wsX5_steadyGlow) := goodIn_app (goodIn_of _ (by decide +kernel)) ggL_steady_X5_steadyGlow
theorem dL_steady_0 : decode cL_steady 0 = .ok (.aload_n 0, 1) := by decide +kernel
theorem dL_steady_1 : decode cL_steady 1 = .ok (.iload_n 1, 1) := by decide +kernel
theorem dL_steady_2 : decode cL_steady 2 = .ok (.iconst 5, 1) := by decide +kernel
theorem dL_steady_3 : decode cL_steady 3 = .ok (.invokevirtual 15, 3) := by decide +kernel
theorem dL_steady_6 : decode cL_steady 6 = .ok (.istore_n 2, 1) := by decide +kernel
theorem dL_steady_7 : decode cL_steady 7 = .ok (.aload_n 0, 1) := by decide +kernel
theorem dL_steady_8 : decode cL_steady 8 = .ok (.iconst 2, 1) := by decide +kernel
theorem dL_steady_9 : decode cL_steady 9 = .ok (.invokevirtual 9, 3) := by decide +kernel
theorem dL_steady_12 : decode cL_steady 12 = .ok (.iload_n 2, 1) := by decide +kernel
theorem dL_steady_13 : decode cL_steady 13 = .ok (.isub, 1) := by decide +kernel
theorem dL_steady_14 : decode cL_steady 14 = .ok (.istore_n 3, 1) := by decide +kernel
theorem dL_steady_15 : decode cL_steady 15 = .ok (.aload_n 0, 1) := by decide +kernel
theorem dL_steady_16 : decode cL_steady 16 = .ok (.iload_n 1, 1) := by decide +kernel
theorem dL_steady_17 : decode cL_steady 17 = .ok (.invokevirtual 48, 3) := by decide +kernel
theorem dL_steady_20 : decode cL_steady 20 = .ok (.istore 4, 2) := by decide +kernel
theorem dL_steady_22 : decode cL_steady 22 = .ok (.iload_n 2, 1) := by decide +kernel
theorem dL_steady_23 : decode cL_steady 23 = .ok (.ifCond .ne 14, 3) := by decide +kernel
theorem dL_steady_26 : decode cL_steady 26 = .ok (.iload 4, 2) := by decide +kernel
theorem dL_steady_28 : decode cL_steady 28 = .ok (.ifCond .ne 7, 3) := by decide +kernel
theorem dL_steady_31 : decode cL_steady 31 = .ok (.iconst 1, 1) := by decide +kernel
theorem dL_steady_32 : decode cL_steady 32 = .ok (.goto 4, 3) := by decide +kernel
theorem dL_steady_35 : decode cL_steady 35 = .ok (.iconst 0, 1) := by decide +kernel
theorem dL_steady_36 : decode cL_steady 36 = .ok (.ireturn, 1) := by decide +kernel
theorem dL_steady_37 : decode cL_steady 37 = .ok (.iload 4, 2) := by decide +kernel
theorem dL_steady_39 : decode cL_steady 39 = .ok (.istore 5, 2) := by decide +kernel
theorem dL_steady_41 : decode cL_steady 41 = .ok (.iconst 0, 1) := by decide +kernel
theorem dL_steady_42 : decode cL_steady 42 = .ok (.istore 6, 2) := by decide +kernel
theorem dL_steady_44 : decode cL_steady 44 = .ok (.iload 6, 2) := by decide +kernel
theorem dL_steady_46 : decode cL_steady 46 = .ok (.iload_n 3, 1) := by decide +kernel
theorem dL_steady_47 : decode cL_steady 47 = .ok (.if_icmp .ge 38, 3) := by decide +kernel
theorem dL_steady_50 : decode cL_steady 50 = .ok (.iload 5, 2) := by decide +kernel
theorem dL_steady_52 : decode cL_steady 52 = .ok (.iload 5, 2) := by decide +kernel
theorem dL_steady_54 : decode cL_steady 54 = .ok (.aload_n 0, 1) := by decide +kernel
theorem dL_steady_55 : decode cL_steady 55 = .ok (.bipush 9, 2) := by decide +kernel
theorem dL_steady_57 : decode cL_steady 57 = .ok (.invokevirtual 9, 3) := by decide +kernel
theorem dL_steady_60 : decode cL_steady 60 = .ok (.idiv, 1) := by decide +kernel
theorem dL_steady_61 : decode cL_steady 61 = .ok (.iconst 1, 1) := by decide +kernel
theorem dL_steady_62 : decode cL_steady 62 = .ok (.iadd, 1) := by decide +kernel
theorem dL_steady_63 : decode cL_steady 63 = .ok (.isub, 1) := by decide +kernel
theorem dL_steady_64 : decode cL_steady 64 = .ok (.istore 5, 2) := by decide +kernel
theorem dL_steady_66 : decode cL_steady 66 = .ok (.iload 5, 2) := by decide +kernel
theorem dL_steady_68 : decode cL_steady 68 = .ok (.ifCond .ge 7, 3) := by decide +kernel
theorem dL_steady_71 : decode cL_steady 71 = .ok (.iconst 0, 1) := by decide +kernel
theorem dL_steady_72 : decode cL_steady 72 = .ok (.goto 5, 3) := by decide +kernel
theorem dL_steady_75 : decode cL_steady 75 = .ok (.iload 5, 2) := by decide +kernel
theorem dL_steady_77 : decode cL_steady 77 = .ok (.istore 5, 2) := by decide +kernel
theorem dL_steady_79 : decode cL_steady 79 = .ok (.iinc 6 1, 3) := by decide +kernel
theorem dL_steady_82 : decode cL_steady 82 = .ok (.goto (-38), 3) := by decide +kernel
theorem dL_steady_85 : decode cL_steady 85 = .ok (.iconst 0, 1) := by decide +kernel
theorem dL_steady_86 : decode cL_steady 86 = .ok (.istore 6, 2) := by decide +kernel
theorem dL_steady_88 : decode cL_steady 88 = .ok (.iload 6, 2) := by decide +kernel
theorem dL_steady_90 : decode cL_steady 90 = .ok (.iload_n 2, 1) := by decide +kernel
theorem dL_steady_91 : decode cL_steady 91 = .ok (.if_icmp .ge 52, 3) := by decide +kernel
theorem dL_steady_94 : decode cL_steady 94 = .ok (.iload 5, 2) := by decide +kernel
theorem dL_steady_96 : decode cL_steady 96 = .ok (.iload 5, 2) := by decide +kernel
theorem dL_steady_98 : decode cL_steady 98 = .ok (.sipush 996, 3) := by decide +kernel
theorem dL_steady_101 : decode cL_steady 101 = .ok (.if_icmp .le 7, 3) := by decide +kernel
theorem dL_steady_104 : decode cL_steady 104 = .ok (.iconst 1, 1) := by decide +kernel
theorem dL_steady_105 : decode cL_steady 105 = .ok (.goto 11, 3) := by decide +kernel
theorem dL_steady_108 : decode cL_steady 108 = .ok (.sipush 1000, 3) := by decide +kernel
theorem dL_steady_111 : decode cL_steady 111 = .ok (.iload 5, 2) := by decide +kernel
theorem dL_steady_113 : decode cL_steady 113 = .ok (.isub, 1) := by decide +kernel
theorem dL_steady_114 : decode cL_steady 114 = .ok (.iconst 4, 1) := by decide +kernel
theorem dL_steady_115 : decode cL_steady 115 = .ok (.idiv, 1) := by decide +kernel
theorem dL_steady_116 : decode cL_steady 116 = .ok (.iadd, 1) := by decide +kernel
theorem dL_steady_117 : decode cL_steady 117 = .ok (.istore 5, 2) := by decide +kernel
theorem dL_steady_119 : decode cL_steady 119 = .ok (.iload 5, 2) := by decide +kernel
theorem dL_steady_121 : decode cL_steady 121 = .ok (.sipush 1000, 3) := by decide +kernel
theorem dL_steady_124 : decode cL_steady 124 = .ok (.if_icmp .le 9, 3) := by decide +kernel
theorem dL_steady_127 : decode cL_steady 127 = .ok (.sipush 1000, 3) := by decide +kernel
theorem dL_steady_130 : decode cL_steady 130 = .ok (.goto 5, 3) := by decide +kernel
theorem dL_steady_133 : decode cL_steady 133 = .ok (.iload 5, 2) := by decide +kernel
theorem dL_steady_135 : decode cL_steady 135 = .ok (.istore 5, 2) := by decide +kernel
theorem dL_steady_137 : decode cL_steady 137 = .ok (.iinc 6 1, 3) := by decide +kernel
theorem dL_steady_140 : decode cL_steady 140 = .ok (.goto (-52), 3) := by decide +kernel
theorem dL_steady_143 : decode cL_steady 143 = .ok (.iload 5, 2) := by decide +kernel
theorem dL_steady_145 : decode cL_steady 145 = .ok (.iload 4, 2) := by decide +kernel
theorem dL_steady_147 : decode cL_steady 147 = .ok (.if_icmp .ne 15, 3) := by decide +kernel
theorem dL_steady_150 : decode cL_steady 150 = .ok (.iload 4, 2) := by decide +kernel
theorem dL_steady_152 : decode cL_steady 152 = .ok (.sipush 250, 3) := by decide +kernel
theorem dL_steady_155 : decode cL_steady 155 = .ok (.if_icmp .lt 7, 3) := by decide +kernel
theorem dL_steady_158 : decode cL_steady 158 = .ok (.iconst 1, 1) := by decide +kernel
theorem dL_steady_159 : decode cL_steady 159 = .ok (.goto 4, 3) := by decide +kernel
theorem dL_steady_162 : decode cL_steady 162 = .ok (.iconst 0, 1) := by decide +kernel
theorem dL_steady_163 : decode cL_steady 163 = .ok (.ireturn, 1) := by decide +kernel
set_option maxRecDepth 20000 in
theorem ggL_frames_X5_count : GoodIn wsL_frames wsX5_count := goodIn_r _ [5, 6, 7, 8, 9, 10, 11, 12, 13, 14, 15, 16, 17, 18, 19, 20, 21, 22, 23, 24, 25, 26, 27, 28, 29, 30, 31, 32, 33, 34, 35, 36, 37, 38, 39, 40, 41, 42, 43, 44, 45, 46, 152, 153, 154, 155, 156, 157, 158, 159, 160, 161, 162, 163, 164, 165, 166, 167, 168, 169, 170, 171, 172, 173, 174, 175, 176, 177, 178, 179, 180, 181, 182, 183, 184, 185] (by decide +kernel) (by decide +kernel)
set_option maxRecDepth 20000 in
theorem gL_frames_X5_count : GoodIn wsL_frames (wsV RL 9 RX5 yX5_count wsX5_count) := goodIn_app (goodIn_of _ (by decide +kernel)) ggL_frames_X5_count
set_option maxRecDepth 20000 in
theorem ggL_frames_X5_passFrames : GoodIn wsL_frames wsX5_passFrames := goodIn_r _ [50, 14, 6, 10, 7, 51, 52, 4, 53, 54, 55, 56, 57, 58, 59, 60, 61, 62, 63, 64, 65, 66, 67, 68, 21, 69, 28, 23, 70, 71, 72, 73, 74, 75, 76, 77, 78, 34, 79, 80, 81, 82, 83, 84, 85, 86, 87, 88, 89, 90, 91, 92, 93, 94, 95, 96, 97, 98, 18, 19, 20, 22, 24, 25, 26, 27, 29, 99, 100, 101, 102, 103, 104, 105, 106, 107, 108, 31, 32, 33, 109, 110, 111, 112, 113, 39, 114, 115, 116, 117, 118, 119, 120, 121, 122, 123, 124, 125, 126, 127, 128, 129, 130, 131, 132, 133, 134, 135, 136, 137, 138, 139, 40, 41, 42, 43, 44, 45, 46, 140, 141, 142, 143, 144, 145, 146, 147, 148, 149, 150, 151, 152, 153, 154, 155, 156, 157, 158, 159, 160, 161, 162, 163, 164, 165, 166, 167, 168, 169, 170, 171, 172, 177, 178, 179, 180, 181, 182, 183, 184, 185] (by decide +kernel) (by decide +kernel)
set_option maxRecDepth 20000 in
theorem gL_frames_X5_passFrames : GoodIn wsL_frames (wsV RL 51 RX5 yX5_passFrames wsX5_passFrames) := goodIn_app (goodIn_of _ (by decide +kernel)) ggL_frames_X5_passFrames
theorem dL_frames_0 : decode cL_frames 0 = .ok (.aload_n 0, 1) := by decide +kernel
theorem dL_frames_1 : decode cL_frames 1 = .ok (.iconst 3, 1) := by decide +kernel
theorem dL_frames_2 : decode cL_frames 2 = .ok (.invokevirtual 9, 3) := by decide +kernel
theorem dL_frames_5 : decode cL_frames 5 = .ok (.istore_n 2, 1) := by decide +kernel
theorem dL_frames_6 : decode cL_frames 6 = .ok (.aload_n 0, 1) := by decide +kernel
theorem dL_frames_7 : decode cL_frames 7 = .ok (.iconst 2, 1) := by decide +kernel
theorem dL_frames_8 : decode cL_frames 8 = .ok (.invokevirtual 9, 3) := by decide +kernel
theorem dL_frames_11 : decode cL_frames 11 = .ok (.aload_n 0, 1) := by decide +kernel
theorem dL_frames_12 : decode cL_frames 12 = .ok (.iconst 4, 1) := by decide +kernel
theorem dL_frames_13 : decode cL_frames 13 = .ok (.invokevirtual 9, 3) := by decide +kernel
theorem dL_frames_16 : decode cL_frames 16 = .ok (.isub, 1) := by decide +kernel
theorem dL_frames_17 : decode cL_frames 17 = .ok (.istore_n 3, 1) := by decide +kernel
theorem dL_frames_18 : decode cL_frames 18 = .ok (.aload_n 0, 1) := by decide +kernel
theorem dL_frames_19 : decode cL_frames 19 = .ok (.iconst 0, 1) := by decide +kernel
theorem dL_frames_20 : decode cL_frames 20 = .ok (.invokevirtual 9, 3) := by decide +kernel
theorem dL_frames_23 : decode cL_frames 23 = .ok (.istore 4, 2) := by decide +kernel
theorem dL_frames_25 : decode cL_frames 25 = .ok (.aload_n 0, 1) := by decide +kernel
theorem dL_frames_26 : decode cL_frames 26 = .ok (.bipush 6, 2) := by decide +kernel
theorem dL_frames_28 : decode cL_frames 28 = .ok (.invokevirtual 9, 3) := by decide +kernel
theorem dL_frames_31 : decode cL_frames 31 = .ok (.istore 5, 2) := by decide +kernel
theorem dL_frames_33 : decode cL_frames 33 = .ok (.iload 4, 2) := by decide +kernel
theorem dL_frames_35 : decode cL_frames 35 = .ok (.iload_n 3, 1) := by decide +kernel
theorem dL_frames_36 : decode cL_frames 36 = .ok (.iadd, 1) := by decide +kernel
theorem dL_frames_37 : decode cL_frames 37 = .ok (.iload_n 1, 1) := by decide +kernel
theorem dL_frames_38 : decode cL_frames 38 = .ok (.iconst 1, 1) := by decide +kernel
theorem dL_frames_39 : decode cL_frames 39 = .ok (.isub, 1) := by decide +kernel
theorem dL_frames_40 : decode cL_frames 40 = .ok (.aload_n 0, 1) := by decide +kernel
theorem dL_frames_41 : decode cL_frames 41 = .ok (.iconst 2, 1) := by decide +kernel
theorem dL_frames_42 : decode cL_frames 42 = .ok (.invokevirtual 9, 3) := by decide +kernel
theorem dL_frames_45 : decode cL_frames 45 = .ok (.imul, 1) := by decide +kernel
theorem dL_frames_46 : decode cL_frames 46 = .ok (.iadd, 1) := by decide +kernel
theorem dL_frames_47 : decode cL_frames 47 = .ok (.istore 6, 2) := by decide +kernel
theorem dL_frames_49 : decode cL_frames 49 = .ok (.aload_n 0, 1) := by decide +kernel
theorem dL_frames_50 : decode cL_frames 50 = .ok (.iload_n 1, 1) := by decide +kernel
theorem dL_frames_51 : decode cL_frames 51 = .ok (.invokevirtual 51, 3) := by decide +kernel
theorem dL_frames_54 : decode cL_frames 54 = .ok (.iload 6, 2) := by decide +kernel
theorem dL_frames_56 : decode cL_frames 56 = .ok (.if_icmp .ne 80, 3) := by decide +kernel
theorem dL_frames_59 : decode cL_frames 59 = .ok (.aload_n 0, 1) := by decide +kernel
theorem dL_frames_60 : decode cL_frames 60 = .ok (.iconst 0, 1) := by decide +kernel
theorem dL_frames_61 : decode cL_frames 61 = .ok (.invokevirtual 9, 3) := by decide +kernel
theorem dL_frames_64 : decode cL_frames 64 = .ok (.iload 6, 2) := by decide +kernel
theorem dL_frames_66 : decode cL_frames 66 = .ok (.if_icmp .ne 70, 3) := by decide +kernel
theorem dL_frames_69 : decode cL_frames 69 = .ok (.aload_n 0, 1) := by decide +kernel
theorem dL_frames_70 : decode cL_frames 70 = .ok (.iconst 3, 1) := by decide +kernel
theorem dL_frames_71 : decode cL_frames 71 = .ok (.invokevirtual 9, 3) := by decide +kernel
theorem dL_frames_74 : decode cL_frames 74 = .ok (.iload_n 2, 1) := by decide +kernel
theorem dL_frames_75 : decode cL_frames 75 = .ok (.iload_n 1, 1) := by decide +kernel
theorem dL_frames_76 : decode cL_frames 76 = .ok (.iadd, 1) := by decide +kernel
theorem dL_frames_77 : decode cL_frames 77 = .ok (.if_icmp .ne 59, 3) := by decide +kernel
