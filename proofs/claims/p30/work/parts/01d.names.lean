theorem dL_frames_80 : decode cL_frames 80 = .ok (.aload_n 0, 1) := by decide +kernel
theorem dL_frames_81 : decode cL_frames 81 = .ok (.iconst 4, 1) := by decide +kernel
theorem dL_frames_82 : decode cL_frames 82 = .ok (.invokevirtual 9, 3) := by decide +kernel
theorem dL_frames_85 : decode cL_frames 85 = .ok (.ifCond .ne 51, 3) := by decide +kernel
theorem dL_frames_88 : decode cL_frames 88 = .ok (.aload_n 0, 1) := by decide +kernel
theorem dL_frames_89 : decode cL_frames 89 = .ok (.bipush 6, 2) := by decide +kernel
theorem dL_frames_91 : decode cL_frames 91 = .ok (.invokevirtual 9, 3) := by decide +kernel
theorem dL_frames_94 : decode cL_frames 94 = .ok (.iload 5, 2) := by decide +kernel
theorem dL_frames_96 : decode cL_frames 96 = .ok (.iload_n 1, 1) := by decide +kernel
theorem dL_frames_97 : decode cL_frames 97 = .ok (.if_icmp .le 10, 3) := by decide +kernel
theorem dL_frames_100 : decode cL_frames 100 = .ok (.iload 5, 2) := by decide +kernel
theorem dL_frames_102 : decode cL_frames 102 = .ok (.iload_n 1, 1) := by decide +kernel
theorem dL_frames_103 : decode cL_frames 103 = .ok (.isub, 1) := by decide +kernel
theorem dL_frames_104 : decode cL_frames 104 = .ok (.goto 4, 3) := by decide +kernel
theorem dL_frames_107 : decode cL_frames 107 = .ok (.iconst 0, 1) := by decide +kernel
theorem dL_frames_108 : decode cL_frames 108 = .ok (.if_icmp .ne 28, 3) := by decide +kernel
theorem dL_frames_111 : decode cL_frames 111 = .ok (.aload_n 0, 1) := by decide +kernel
theorem dL_frames_112 : decode cL_frames 112 = .ok (.iconst 0, 1) := by decide +kernel
theorem dL_frames_113 : decode cL_frames 113 = .ok (.invokevirtual 51, 3) := by decide +kernel
theorem dL_frames_116 : decode cL_frames 116 = .ok (.bipush (-2), 2) := by decide +kernel
theorem dL_frames_118 : decode cL_frames 118 = .ok (.if_icmp .ne 18, 3) := by decide +kernel
theorem dL_frames_121 : decode cL_frames 121 = .ok (.aload_n 0, 1) := by decide +kernel
theorem dL_frames_122 : decode cL_frames 122 = .ok (.bipush 21, 2) := by decide +kernel
theorem dL_frames_124 : decode cL_frames 124 = .ok (.invokevirtual 51, 3) := by decide +kernel
theorem dL_frames_127 : decode cL_frames 127 = .ok (.bipush (-2), 2) := by decide +kernel
theorem dL_frames_129 : decode cL_frames 129 = .ok (.if_icmp .ne 7, 3) := by decide +kernel
theorem dL_frames_132 : decode cL_frames 132 = .ok (.iconst 1, 1) := by decide +kernel
theorem dL_frames_133 : decode cL_frames 133 = .ok (.goto 4, 3) := by decide +kernel
theorem dL_frames_136 : decode cL_frames 136 = .ok (.iconst 0, 1) := by decide +kernel
theorem dL_frames_137 : decode cL_frames 137 = .ok (.ireturn, 1) := by decide +kernel
set_option maxRecDepth 20000 in
theorem ggL_shows_X5_count : GoodIn wsL_shows wsX5_count := goodIn_r _ [6, 7, 8, 9, 10, 11, 12, 13, 14, 15, 16, 17, 18, 19, 20, 21, 22, 23, 24, 25, 26, 27, 28, 29, 30, 31, 32, 33, 34, 35, 36, 37, 38, 39, 40, 41, 42, 43, 44, 45, 46, 47, 175, 176, 177, 178, 179, 180, 181, 182, 183, 184, 185, 186, 187, 188, 189, 190, 191, 192, 193, 194, 195, 196, 197, 198, 199, 200, 201, 202, 203, 204, 205, 206, 207, 208] (by decide +kernel) (by decide +kernel)
set_option maxRecDepth 20000 in
theorem gL_shows_X5_count : GoodIn wsL_shows (wsV RL 9 RX5 yX5_count wsX5_count) := goodIn_app (goodIn_of _ (by decide +kernel)) ggL_shows_X5_count
set_option maxRecDepth 20000 in
theorem ggL_shows_X5_clearText : GoodIn wsL_shows wsX5_clearText := goodIn_r _ [51, 17, 18, 175, 176, 177, 178, 179, 196, 197, 198, 199] (by decide +kernel) (by decide +kernel)
set_option maxRecDepth 20000 in
theorem gL_shows_X5_clearText : GoodIn wsL_shows (wsV RL 54 RX5 yX5_clearText wsX5_clearText) := goodIn_app (goodIn_of _ (by decide +kernel)) ggL_shows_X5_clearText
set_option maxRecDepth 20000 in
theorem ggL_shows_L_low : GoodIn wsL_shows wsL_low := goodIn_r _ [55, 56] (by decide +kernel) (by decide +kernel)
set_option maxRecDepth 20000 in
theorem gL_shows_L_low : GoodIn wsL_shows (va_wsS RL 57 yL_low wsL_low) := goodIn_app (goodIn_of _ (by decide +kernel)) ggL_shows_L_low
set_option maxRecDepth 20000 in
theorem ggL_shows_X5_type : GoodIn wsL_shows wsX5_type := goodIn_r _ [60, 17, 18, 61, 62, 63, 64, 65, 66, 67, 68, 69, 70, 71, 175, 176, 177, 178, 179, 196, 197, 198, 199] (by decide +kernel) (by decide +kernel)
set_option maxRecDepth 20000 in
theorem gL_shows_X5_type : GoodIn wsL_shows (wsV RL 60 RX5 yX5_type wsX5_type) := goodIn_app (goodIn_of _ (by decide +kernel)) ggL_shows_X5_type
set_option maxRecDepth 20000 in
theorem ggL_shows_X5_show : GoodIn wsL_shows wsX5_show := goodIn_r _ [75, 17, 7, 9, 15, 76, 77, 78, 79, 80, 64, 81, 82, 83, 66, 71, 84, 5, 85, 86, 87, 88, 89, 90, 91, 92, 93, 94, 95, 96, 97, 98, 99, 100, 101, 102, 22, 103, 29, 24, 104, 105, 106, 107, 108, 109, 110, 111, 112, 35, 113, 114, 115, 116, 117, 118, 119, 120, 121, 122, 123, 124, 125, 126, 127, 128, 129, 130, 131, 132, 133, 134, 135, 136, 137, 175, 176, 177, 178, 179, 180, 181, 182, 183, 184, 185, 186, 187, 188, 189, 190, 191, 192, 196, 197, 198, 199, 193, 194, 195, 200, 201, 202, 203, 204, 205, 206, 207, 208] (by decide +kernel) (by decide +kernel)
set_option maxRecDepth 20000 in
theorem gL_shows_X5_show : GoodIn wsL_shows (wsV RL 64 RX5 yX5_show wsX5_show) := goodIn_app (goodIn_of _ (by decide +kernel)) ggL_shows_X5_show
set_option maxRecDepth 20000 in
theorem ggL_shows_X5_digit : GoodIn wsL_shows wsX5_digit := goodIn_r _ [141, 7, 142, 143, 144, 145, 146, 14, 147, 148, 149, 150, 151, 22, 152, 24, 29, 153, 5, 154, 155, 156, 157, 121, 158, 125, 159, 160, 161, 162, 123, 124, 163, 26, 27, 28, 30, 164, 165, 166, 167, 130, 168, 169, 170, 171, 172, 173, 174, 87, 86, 175, 176, 177, 178, 179, 200, 201, 202, 203, 204, 205, 206, 207, 208, 180, 181, 182, 183, 184, 185, 186, 187, 188, 189, 190, 191, 192] (by decide +kernel) (by decide +kernel)
set_option maxRecDepth 20000 in
theorem gL_shows_X5_digit : GoodIn wsL_shows (wsV RL 15 RX5 yX5_digit wsX5_digit) := goodIn_app (goodIn_of _ (by decide +kernel)) ggL_shows_X5_digit
theorem dL_shows_0 : decode cL_shows 0 = .ok (.aload_n 0, 1) := by decide +kernel
theorem dL_shows_1 : decode cL_shows 1 = .ok (.iconst 1, 1) := by decide +kernel
theorem dL_shows_2 : decode cL_shows 2 = .ok (.invokevirtual 9, 3) := by decide +kernel
theorem dL_shows_5 : decode cL_shows 5 = .ok (.istore_n 3, 1) := by decide +kernel
theorem dL_shows_6 : decode cL_shows 6 = .ok (.aload_n 0, 1) := by decide +kernel
theorem dL_shows_7 : decode cL_shows 7 = .ok (.invokevirtual 54, 3) := by decide +kernel
theorem dL_shows_10 : decode cL_shows 10 = .ok (.pop, 1) := by decide +kernel
theorem dL_shows_11 : decode cL_shows 11 = .ok (.iconst 0, 1) := by decide +kernel
theorem dL_shows_12 : decode cL_shows 12 = .ok (.istore 4, 2) := by decide +kernel
theorem dL_shows_14 : decode cL_shows 14 = .ok (.iconst 0, 1) := by decide +kernel
theorem dL_shows_15 : decode cL_shows 15 = .ok (.istore 5, 2) := by decide +kernel
theorem dL_shows_17 : decode cL_shows 17 = .ok (.bipush 8, 2) := by decide +kernel
theorem dL_shows_19 : decode cL_shows 19 = .ok (.newarray .int, 2) := by decide +kernel
theorem dL_shows_21 : decode cL_shows 21 = .ok (.astore 6, 2) := by decide +kernel
theorem dL_shows_23 : decode cL_shows 23 = .ok (.iload 4, 2) := by decide +kernel
theorem dL_shows_25 : decode cL_shows 25 = .ok (.iload_n 3, 1) := by decide +kernel
theorem dL_shows_26 : decode cL_shows 26 = .ok (.if_icmp .ge 210, 3) := by decide +kernel
theorem dL_shows_29 : decode cL_shows 29 = .ok (.iload 5, 2) := by decide +kernel
theorem dL_shows_31 : decode cL_shows 31 = .ok (.bipush 20, 2) := by decide +kernel
theorem dL_shows_33 : decode cL_shows 33 = .ok (.if_icmp .ge 203, 3) := by decide +kernel
theorem dL_shows_36 : decode cL_shows 36 = .ok (.iload_n 1, 1) := by decide +kernel
theorem dL_shows_37 : decode cL_shows 37 = .ok (.iload 4, 2) := by decide +kernel
theorem dL_shows_39 : decode cL_shows 39 = .ok (.ishr, 1) := by decide +kernel
theorem dL_shows_40 : decode cL_shows 40 = .ok (.bipush 10, 2) := by decide +kernel
theorem dL_shows_42 : decode cL_shows 42 = .ok (.invokestatic 57, 3) := by decide +kernel
theorem dL_shows_45 : decode cL_shows 45 = .ok (.istore 7, 2) := by decide +kernel
theorem dL_shows_47 : decode cL_shows 47 = .ok (.aload_n 0, 1) := by decide +kernel
theorem dL_shows_48 : decode cL_shows 48 = .ok (.bipush 48, 2) := by decide +kernel
theorem dL_shows_50 : decode cL_shows 50 = .ok (.iload 7, 2) := by decide +kernel
theorem dL_shows_52 : decode cL_shows 52 = .ok (.iadd, 1) := by decide +kernel
theorem dL_shows_53 : decode cL_shows 53 = .ok (.i2c, 1) := by decide +kernel
theorem dL_shows_54 : decode cL_shows 54 = .ok (.invokevirtual 60, 3) := by decide +kernel
theorem dL_shows_57 : decode cL_shows 57 = .ok (.istore 5, 2) := by decide +kernel
theorem dL_shows_59 : decode cL_shows 59 = .ok (.iload 7, 2) := by decide +kernel
theorem dL_shows_61 : decode cL_shows 61 = .ok (.ifCond .ne 8, 3) := by decide +kernel
theorem dL_shows_64 : decode cL_shows 64 = .ok (.bipush 63, 2) := by decide +kernel
theorem dL_shows_66 : decode cL_shows 66 = .ok (.goto 96, 3) := by decide +kernel
theorem dL_shows_69 : decode cL_shows 69 = .ok (.iload 7, 2) := by decide +kernel
theorem dL_shows_71 : decode cL_shows 71 = .ok (.iconst 1, 1) := by decide +kernel
theorem dL_shows_72 : decode cL_shows 72 = .ok (.if_icmp .ne 8, 3) := by decide +kernel
theorem dL_shows_75 : decode cL_shows 75 = .ok (.bipush 6, 2) := by decide +kernel
theorem dL_shows_77 : decode cL_shows 77 = .ok (.goto 85, 3) := by decide +kernel
theorem dL_shows_80 : decode cL_shows 80 = .ok (.iload 7, 2) := by decide +kernel
theorem dL_shows_82 : decode cL_shows 82 = .ok (.iconst 2, 1) := by decide +kernel
theorem dL_shows_83 : decode cL_shows 83 = .ok (.if_icmp .ne 8, 3) := by decide +kernel
theorem dL_shows_86 : decode cL_shows 86 = .ok (.bipush 91, 2) := by decide +kernel
theorem dL_shows_88 : decode cL_shows 88 = .ok (.goto 74, 3) := by decide +kernel
theorem dL_shows_91 : decode cL_shows 91 = .ok (.iload 7, 2) := by decide +kernel
theorem dL_shows_93 : decode cL_shows 93 = .ok (.iconst 3, 1) := by decide +kernel
theorem dL_shows_94 : decode cL_shows 94 = .ok (.if_icmp .ne 8, 3) := by decide +kernel
theorem dL_shows_97 : decode cL_shows 97 = .ok (.bipush 79, 2) := by decide +kernel
theorem dL_shows_99 : decode cL_shows 99 = .ok (.goto 63, 3) := by decide +kernel
theorem dL_shows_102 : decode cL_shows 102 = .ok (.iload 7, 2) := by decide +kernel
theorem dL_shows_104 : decode cL_shows 104 = .ok (.iconst 4, 1) := by decide +kernel
theorem dL_shows_105 : decode cL_shows 105 = .ok (.if_icmp .ne 8, 3) := by decide +kernel
theorem dL_shows_108 : decode cL_shows 108 = .ok (.bipush 102, 2) := by decide +kernel
theorem dL_shows_110 : decode cL_shows 110 = .ok (.goto 52, 3) := by decide +kernel
theorem dL_shows_113 : decode cL_shows 113 = .ok (.iload 7, 2) := by decide +kernel
theorem dL_shows_115 : decode cL_shows 115 = .ok (.iconst 5, 1) := by decide +kernel
theorem dL_shows_116 : decode cL_shows 116 = .ok (.if_icmp .ne 8, 3) := by decide +kernel
theorem dL_shows_119 : decode cL_shows 119 = .ok (.bipush 109, 2) := by decide +kernel
theorem dL_shows_121 : decode cL_shows 121 = .ok (.goto 41, 3) := by decide +kernel
theorem dL_shows_124 : decode cL_shows 124 = .ok (.iload 7, 2) := by decide +kernel
theorem dL_shows_126 : decode cL_shows 126 = .ok (.bipush 6, 2) := by decide +kernel
theorem dL_shows_128 : decode cL_shows 128 = .ok (.if_icmp .ne 8, 3) := by decide +kernel
theorem dL_shows_131 : decode cL_shows 131 = .ok (.bipush 125, 2) := by decide +kernel
theorem dL_shows_133 : decode cL_shows 133 = .ok (.goto 29, 3) := by decide +kernel
theorem dL_shows_136 : decode cL_shows 136 = .ok (.iload 7, 2) := by decide +kernel
theorem dL_shows_138 : decode cL_shows 138 = .ok (.bipush 7, 2) := by decide +kernel
theorem dL_shows_140 : decode cL_shows 140 = .ok (.if_icmp .ne 8, 3) := by decide +kernel
theorem dL_shows_143 : decode cL_shows 143 = .ok (.bipush 7, 2) := by decide +kernel
theorem dL_shows_145 : decode cL_shows 145 = .ok (.goto 17, 3) := by decide +kernel
theorem dL_shows_148 : decode cL_shows 148 = .ok (.iload 7, 2) := by decide +kernel
theorem dL_shows_150 : decode cL_shows 150 = .ok (.bipush 8, 2) := by decide +kernel
theorem dL_shows_152 : decode cL_shows 152 = .ok (.if_icmp .ne 8, 3) := by decide +kernel
theorem dL_shows_155 : decode cL_shows 155 = .ok (.bipush 127, 2) := by decide +kernel
theorem dL_shows_157 : decode cL_shows 157 = .ok (.goto 5, 3) := by decide +kernel
theorem dL_shows_160 : decode cL_shows 160 = .ok (.bipush 111, 2) := by decide +kernel
theorem dL_shows_162 : decode cL_shows 162 = .ok (.istore 8, 2) := by decide +kernel
theorem dL_shows_164 : decode cL_shows 164 = .ok (.iload_n 2, 1) := by decide +kernel
theorem dL_shows_165 : decode cL_shows 165 = .ok (.iload 4, 2) := by decide +kernel
theorem dL_shows_167 : decode cL_shows 167 = .ok (.ishr, 1) := by decide +kernel
theorem dL_shows_168 : decode cL_shows 168 = .ok (.iconst 1, 1) := by decide +kernel
theorem dL_shows_169 : decode cL_shows 169 = .ok (.iand, 1) := by decide +kernel
theorem dL_shows_170 : decode cL_shows 170 = .ok (.iconst 1, 1) := by decide +kernel
theorem dL_shows_171 : decode cL_shows 171 = .ok (.if_icmp .ne 7, 3) := by decide +kernel
theorem dL_shows_174 : decode cL_shows 174 = .ok (.iconst 1, 1) := by decide +kernel
theorem dL_shows_175 : decode cL_shows 175 = .ok (.goto 4, 3) := by decide +kernel
theorem dL_shows_178 : decode cL_shows 178 = .ok (.iconst 0, 1) := by decide +kernel
theorem dL_shows_179 : decode cL_shows 179 = .ok (.istore 9, 2) := by decide +kernel
theorem dL_shows_181 : decode cL_shows 181 = .ok (.iload 9, 2) := by decide +kernel
theorem dL_shows_183 : decode cL_shows 183 = .ok (.ifCond .eq 11, 3) := by decide +kernel
theorem dL_shows_186 : decode cL_shows 186 = .ok (.aload_n 0, 1) := by decide +kernel
theorem dL_shows_187 : decode cL_shows 187 = .ok (.bipush 46, 2) := by decide +kernel
theorem dL_shows_189 : decode cL_shows 189 = .ok (.invokevirtual 60, 3) := by decide +kernel
theorem dL_shows_192 : decode cL_shows 192 = .ok (.istore 5, 2) := by decide +kernel
theorem dL_shows_194 : decode cL_shows 194 = .ok (.aload 6, 2) := by decide +kernel
theorem dL_shows_196 : decode cL_shows 196 = .ok (.iload 4, 2) := by decide +kernel
theorem dL_shows_198 : decode cL_shows 198 = .ok (.iload 9, 2) := by decide +kernel
theorem dL_shows_200 : decode cL_shows 200 = .ok (.ifCond .eq 12, 3) := by decide +kernel
theorem dL_shows_203 : decode cL_shows 203 = .ok (.iload 8, 2) := by decide +kernel
theorem dL_shows_205 : decode cL_shows 205 = .ok (.sipush 128, 3) := by decide +kernel
theorem dL_shows_208 : decode cL_shows 208 = .ok (.iadd, 1) := by decide +kernel
theorem dL_shows_209 : decode cL_shows 209 = .ok (.goto 5, 3) := by decide +kernel
theorem dL_shows_212 : decode cL_shows 212 = .ok (.iload 8, 2) := by decide +kernel
theorem dL_shows_214 : decode cL_shows 214 = .ok (.iastore, 1) := by decide +kernel
theorem dL_shows_215 : decode cL_shows 215 = .ok (.iinc 4 1, 3) := by decide +kernel
theorem dL_shows_218 : decode cL_shows 218 = .ok (.iload_n 2, 1) := by decide +kernel
theorem dL_shows_219 : decode cL_shows 219 = .ok (.bipush 9, 2) := by decide +kernel
theorem dL_shows_221 : decode cL_shows 221 = .ok (.iload 4, 2) := by decide +kernel
theorem dL_shows_223 : decode cL_shows 223 = .ok (.iadd, 1) := by decide +kernel
theorem dL_shows_224 : decode cL_shows 224 = .ok (.ishr, 1) := by decide +kernel
theorem dL_shows_225 : decode cL_shows 225 = .ok (.iconst 3, 1) := by decide +kernel
theorem dL_shows_226 : decode cL_shows 226 = .ok (.iand, 1) := by decide +kernel
theorem dL_shows_227 : decode cL_shows 227 = .ok (.ifCond .ne 6, 3) := by decide +kernel
theorem dL_shows_230 : decode cL_shows 230 = .ok (.goto 6, 3) := by decide +kernel
theorem dL_shows_233 : decode cL_shows 233 = .ok (.goto (-210), 3) := by decide +kernel
theorem dL_shows_236 : decode cL_shows 236 = .ok (.aload_n 0, 1) := by decide +kernel
theorem dL_shows_237 : decode cL_shows 237 = .ok (.invokevirtual 64, 3) := by decide +kernel
theorem dL_shows_240 : decode cL_shows 240 = .ok (.iload 4, 2) := by decide +kernel
theorem dL_shows_242 : decode cL_shows 242 = .ok (.if_icmp .eq 5, 3) := by decide +kernel
theorem dL_shows_245 : decode cL_shows 245 = .ok (.iconst 0, 1) := by decide +kernel
theorem dL_shows_246 : decode cL_shows 246 = .ok (.ireturn, 1) := by decide +kernel
theorem dL_shows_247 : decode cL_shows 247 = .ok (.iconst 0, 1) := by decide +kernel
theorem dL_shows_248 : decode cL_shows 248 = .ok (.istore 7, 2) := by decide +kernel
theorem dL_shows_250 : decode cL_shows 250 = .ok (.iload 7, 2) := by decide +kernel
theorem dL_shows_252 : decode cL_shows 252 = .ok (.iload_n 3, 1) := by decide +kernel
theorem dL_shows_253 : decode cL_shows 253 = .ok (.if_icmp .ge 76, 3) := by decide +kernel
theorem dL_shows_256 : decode cL_shows 256 = .ok (.aload_n 0, 1) := by decide +kernel
theorem dL_shows_257 : decode cL_shows 257 = .ok (.iload 7, 2) := by decide +kernel
theorem dL_shows_259 : decode cL_shows 259 = .ok (.iconst 0, 1) := by decide +kernel
theorem dL_shows_260 : decode cL_shows 260 = .ok (.invokevirtual 15, 3) := by decide +kernel
theorem dL_shows_263 : decode cL_shows 263 = .ok (.aload 6, 2) := by decide +kernel
theorem dL_shows_265 : decode cL_shows 265 = .ok (.iload 7, 2) := by decide +kernel
theorem dL_shows_267 : decode cL_shows 267 = .ok (.iaload, 1) := by decide +kernel
theorem dL_shows_268 : decode cL_shows 268 = .ok (.if_icmp .ne 53, 3) := by decide +kernel
theorem dL_shows_271 : decode cL_shows 271 = .ok (.iload 7, 2) := by decide +kernel
theorem dL_shows_273 : decode cL_shows 273 = .ok (.iload 4, 2) := by decide +kernel
theorem dL_shows_275 : decode cL_shows 275 = .ok (.if_icmp .ge 26, 3) := by decide +kernel
theorem dL_shows_278 : decode cL_shows 278 = .ok (.aload_n 0, 1) := by decide +kernel
theorem dL_shows_279 : decode cL_shows 279 = .ok (.iload 7, 2) := by decide +kernel
theorem dL_shows_281 : decode cL_shows 281 = .ok (.bipush 10, 2) := by decide +kernel
theorem dL_shows_283 : decode cL_shows 283 = .ok (.invokevirtual 15, 3) := by decide +kernel
theorem dL_shows_286 : decode cL_shows 286 = .ok (.bipush 48, 2) := by decide +kernel
theorem dL_shows_288 : decode cL_shows 288 = .ok (.iload_n 1, 1) := by decide +kernel
theorem dL_shows_289 : decode cL_shows 289 = .ok (.iload 7, 2) := by decide +kernel
theorem dL_shows_291 : decode cL_shows 291 = .ok (.ishr, 1) := by decide +kernel
theorem dL_shows_292 : decode cL_shows 292 = .ok (.bipush 10, 2) := by decide +kernel
theorem dL_shows_294 : decode cL_shows 294 = .ok (.invokestatic 57, 3) := by decide +kernel
theorem dL_shows_297 : decode cL_shows 297 = .ok (.iadd, 1) := by decide +kernel
theorem dL_shows_298 : decode cL_shows 298 = .ok (.if_icmp .ne 23, 3) := by decide +kernel
theorem dL_shows_301 : decode cL_shows 301 = .ok (.iload 7, 2) := by decide +kernel
theorem dL_shows_303 : decode cL_shows 303 = .ok (.iload 4, 2) := by decide +kernel
theorem dL_shows_305 : decode cL_shows 305 = .ok (.if_icmp .lt 18, 3) := by decide +kernel
theorem dL_shows_308 : decode cL_shows 308 = .ok (.aload_n 0, 1) := by decide +kernel
theorem dL_shows_309 : decode cL_shows 309 = .ok (.iload 7, 2) := by decide +kernel
theorem dL_shows_311 : decode cL_shows 311 = .ok (.bipush 10, 2) := by decide +kernel
theorem dL_shows_313 : decode cL_shows 313 = .ok (.invokevirtual 15, 3) := by decide +kernel
theorem dL_shows_316 : decode cL_shows 316 = .ok (.bipush 32, 2) := by decide +kernel
theorem dL_shows_318 : decode cL_shows 318 = .ok (.if_icmp .eq 5, 3) := by decide +kernel
theorem dL_shows_321 : decode cL_shows 321 = .ok (.iconst 0, 1) := by decide +kernel
theorem dL_shows_322 : decode cL_shows 322 = .ok (.ireturn, 1) := by decide +kernel
theorem dL_shows_323 : decode cL_shows 323 = .ok (.iinc 7 1, 3) := by decide +kernel
theorem dL_shows_326 : decode cL_shows 326 = .ok (.goto (-76), 3) := by decide +kernel
theorem dL_shows_329 : decode cL_shows 329 = .ok (.iload 4, 2) := by decide +kernel
theorem dL_shows_331 : decode cL_shows 331 = .ok (.iload_n 3, 1) := by decide +kernel
theorem dL_shows_332 : decode cL_shows 332 = .ok (.if_icmp .ge 17, 3) := by decide +kernel
theorem dL_shows_335 : decode cL_shows 335 = .ok (.aload_n 0, 1) := by decide +kernel
theorem dL_shows_336 : decode cL_shows 336 = .ok (.bipush 45, 2) := by decide +kernel
theorem dL_shows_338 : decode cL_shows 338 = .ok (.invokevirtual 60, 3) := by decide +kernel
theorem dL_shows_341 : decode cL_shows 341 = .ok (.istore 5, 2) := by decide +kernel
theorem dL_shows_343 : decode cL_shows 343 = .ok (.iinc 4 1, 3) := by decide +kernel
theorem dL_shows_346 : decode cL_shows 346 = .ok (.goto (-17), 3) := by decide +kernel
theorem dL_shows_349 : decode cL_shows 349 = .ok (.aload_n 0, 1) := by decide +kernel
theorem dL_shows_350 : decode cL_shows 350 = .ok (.bipush 69, 2) := by decide +kernel
theorem dL_shows_352 : decode cL_shows 352 = .ok (.invokevirtual 60, 3) := by decide +kernel
theorem dL_shows_355 : decode cL_shows 355 = .ok (.istore 5, 2) := by decide +kernel
theorem dL_shows_357 : decode cL_shows 357 = .ok (.aload_n 0, 1) := by decide +kernel
theorem dL_shows_358 : decode cL_shows 358 = .ok (.invokevirtual 64, 3) := by decide +kernel
theorem dL_shows_361 : decode cL_shows 361 = .ok (.bipush (-99), 2) := by decide +kernel
theorem dL_shows_363 : decode cL_shows 363 = .ok (.iload 5, 2) := by decide +kernel
theorem dL_shows_365 : decode cL_shows 365 = .ok (.isub, 1) := by decide +kernel
theorem dL_shows_366 : decode cL_shows 366 = .ok (.if_icmp .ne 7, 3) := by decide +kernel
theorem dL_shows_369 : decode cL_shows 369 = .ok (.iconst 1, 1) := by decide +kernel
theorem dL_shows_370 : decode cL_shows 370 = .ok (.goto 4, 3) := by decide +kernel
theorem dL_shows_373 : decode cL_shows 373 = .ok (.iconst 0, 1) := by decide +kernel
theorem dL_shows_374 : decode cL_shows 374 = .ok (.istore 7, 2) := by decide +kernel
theorem dL_shows_376 : decode cL_shows 376 = .ok (.aload_n 0, 1) := by decide +kernel
theorem dL_shows_377 : decode cL_shows 377 = .ok (.invokevirtual 54, 3) := by decide +kernel
theorem dL_shows_380 : decode cL_shows 380 = .ok (.pop, 1) := by decide +kernel
theorem dL_shows_381 : decode cL_shows 381 = .ok (.aload_n 0, 1) := by decide +kernel
theorem dL_shows_382 : decode cL_shows 382 = .ok (.bipush 111, 2) := by decide +kernel
theorem dL_shows_384 : decode cL_shows 384 = .ok (.invokevirtual 60, 3) := by decide +kernel
theorem dL_shows_387 : decode cL_shows 387 = .ok (.pop, 1) := by decide +kernel
theorem dL_shows_388 : decode cL_shows 388 = .ok (.aload_n 0, 1) := by decide +kernel
theorem dL_shows_389 : decode cL_shows 389 = .ok (.bipush 120, 2) := by decide +kernel
theorem dL_shows_391 : decode cL_shows 391 = .ok (.invokevirtual 60, 3) := by decide +kernel
theorem dL_shows_394 : decode cL_shows 394 = .ok (.pop, 1) := by decide +kernel
theorem dL_shows_395 : decode cL_shows 395 = .ok (.iload 7, 2) := by decide +kernel
theorem dL_shows_397 : decode cL_shows 397 = .ok (.ifCond .eq 16, 3) := by decide +kernel
theorem dL_shows_400 : decode cL_shows 400 = .ok (.aload_n 0, 1) := by decide +kernel
theorem dL_shows_401 : decode cL_shows 401 = .ok (.invokevirtual 64, 3) := by decide +kernel
theorem dL_shows_404 : decode cL_shows 404 = .ok (.bipush (-101), 2) := by decide +kernel
theorem dL_shows_406 : decode cL_shows 406 = .ok (.if_icmp .ne 7, 3) := by decide +kernel
theorem dL_shows_409 : decode cL_shows 409 = .ok (.iconst 1, 1) := by decide +kernel
theorem dL_shows_410 : decode cL_shows 410 = .ok (.goto 4, 3) := by decide +kernel
theorem dL_shows_413 : decode cL_shows 413 = .ok (.iconst 0, 1) := by decide +kernel
theorem dL_shows_414 : decode cL_shows 414 = .ok (.ireturn, 1) := by decide +kernel
set_option maxRecDepth 20000 in
theorem ggL_errors_X5_count : GoodIn wsL_errors wsX5_count := goodIn_r _ [5, 6, 7, 8, 9, 10, 11, 12, 13, 14, 15, 16, 17, 18, 19, 20, 21, 22, 23, 24, 25, 26, 27, 28, 29, 30, 31, 32, 33, 34, 35, 36, 37, 38, 39, 40, 41, 42, 43, 44, 45, 46, 259, 260, 261, 262, 263, 264, 265, 266, 267, 268, 269, 270, 271, 272, 273, 274, 275, 276, 277, 278, 279, 280, 281, 282, 283, 284, 285, 286, 287, 288, 289, 290, 291, 292] (by decide +kernel) (by decide +kernel)
set_option maxRecDepth 20000 in
theorem gL_errors_X5_count : GoodIn wsL_errors (wsV RL 9 RX5 yX5_count wsX5_count) := goodIn_app (goodIn_of _ (by decide +kernel)) ggL_errors_X5_count
set_option maxRecDepth 20000 in
theorem ggL_errors_X5_setDigits : GoodIn wsL_errors wsX5_setDigits := goodIn_r _ [50, 14, 6, 8, 51, 52, 4, 53, 54, 55, 56, 57, 58, 59, 60, 61, 62, 63, 64, 65, 66, 67, 68, 21, 69, 28, 23, 70, 71, 72, 73, 74, 75, 76, 77, 78, 34, 79, 80, 81, 82, 83, 84, 85, 86, 87, 88, 89, 90, 91, 92, 93, 94, 95, 96, 97, 98, 99, 100, 101, 102, 103, 104, 105, 106, 107, 108, 109, 110, 111, 112, 113, 114, 259, 260, 261, 262, 263, 264, 265, 266, 267, 268, 269, 270, 271, 272, 273, 274, 275, 276, 277, 278, 279, 284, 285, 286, 287, 288, 289, 290, 291, 292] (by decide +kernel) (by decide +kernel)
set_option maxRecDepth 20000 in
theorem gL_errors_X5_setDigits : GoodIn wsL_errors (wsV RL 67 RX5 yX5_setDigits wsX5_setDigits) := goodIn_app (goodIn_of _ (by decide +kernel)) ggL_errors_X5_setDigits
set_option maxRecDepth 20000 in
theorem ggL_errors_X5_setWidth : GoodIn wsL_errors wsX5_setWidth := goodIn_r _ [118, 6, 14, 119, 120, 121, 21, 122, 23, 28, 52, 4, 53, 51, 54, 55, 56, 57, 58, 59, 60, 61, 62, 63, 64, 65, 66, 67, 68, 69, 70, 71, 72, 73, 74, 75, 76, 77, 78, 34, 79, 80, 81, 82, 83, 84, 85, 86, 87, 88, 89, 90, 91, 92, 93, 94, 95, 96, 97, 98, 123, 124, 125, 126, 29, 111, 112, 113, 114, 18, 19, 20, 22, 24, 25, 26, 27, 259, 260, 261, 262, 263, 264, 265, 266, 267, 268, 269, 270, 271, 272, 273, 274, 275, 276, 277, 278, 279, 284, 285, 286, 287, 288, 289, 290, 291, 292] (by decide +kernel) (by decide +kernel)
set_option maxRecDepth 20000 in
theorem gL_errors_X5_setWidth : GoodIn wsL_errors (wsV RL 70 RX5 yX5_setWidth wsX5_setWidth) := goodIn_app (goodIn_of _ (by decide +kernel)) ggL_errors_X5_setWidth
set_option maxRecDepth 20000 in
theorem ggL_errors_X5_setGuard : GoodIn wsL_errors wsX5_setGuard := goodIn_r _ [130, 6, 14, 131, 119, 120, 121, 21, 122, 23, 28, 52, 4, 53, 51, 54, 55, 56, 57, 58, 59, 60, 61, 62, 63, 64, 65, 66, 67, 68, 69, 70, 71, 72, 73, 74, 75, 76, 77, 78, 34, 79, 80, 81, 82, 83, 84, 85, 86, 87, 88, 89, 90, 91, 92, 93, 94, 95, 96, 97, 98, 132, 133, 134, 135, 136, 137, 138, 139, 259, 260, 261, 262, 263, 284, 285, 286, 287, 288, 289, 290, 291, 292, 264, 265, 266, 267, 268, 269, 270, 271, 272, 273, 274, 275, 276, 277, 278, 279] (by decide +kernel) (by decide +kernel)
set_option maxRecDepth 20000 in
theorem gL_errors_X5_setGuard : GoodIn wsL_errors (wsV RL 73 RX5 yX5_setGuard wsX5_setGuard) := goodIn_app (goodIn_of _ (by decide +kernel)) ggL_errors_X5_setGuard
set_option maxRecDepth 20000 in
theorem ggL_errors_X5_setBrightness : GoodIn wsL_errors wsX5_setBrightness := goodIn_r _ [143, 6, 14, 144, 119, 120, 121, 21, 122, 23, 28, 52, 4, 53, 51, 54, 55, 56, 57, 58, 59, 60, 61, 62, 63, 64, 65, 66, 67, 68, 69, 70, 71, 72, 73, 74, 75, 76, 77, 78, 34, 79, 80, 81, 82, 83, 84, 85, 86, 87, 88, 89, 90, 91, 92, 93, 94, 95, 96, 97, 98, 132, 133, 134, 135, 136, 137, 138, 139, 259, 260, 261, 262, 263, 284, 285, 286, 287, 288, 289, 290, 291, 292, 264, 265, 266, 267, 268, 269, 270, 271, 272, 273, 274, 275, 276, 277, 278, 279] (by decide +kernel) (by decide +kernel)
set_option maxRecDepth 20000 in
theorem gL_errors_X5_setBrightness : GoodIn wsL_errors (wsV RL 76 RX5 yX5_setBrightness wsX5_setBrightness) := goodIn_app (goodIn_of _ (by decide +kernel)) ggL_errors_X5_setBrightness
set_option maxRecDepth 20000 in
theorem ggL_errors_X5_setPattern : GoodIn wsL_errors wsX5_setPattern := goodIn_r _ [148, 6, 14, 149, 119, 120, 121, 21, 122, 23, 28, 52, 4, 53, 51, 54, 55, 56, 57, 58, 59, 60, 61, 62, 63, 64, 65, 66, 67, 68, 69, 70, 71, 72, 73, 74, 75, 76, 77, 78, 34, 79, 80, 81, 82, 83, 84, 85, 86, 87, 88, 89, 90, 91, 92, 93, 94, 95, 96, 97, 98, 259, 260, 261, 262, 263, 284, 285, 286, 287, 288, 289, 290, 291, 292, 264, 265, 266, 267, 268, 269, 270, 271, 272, 273, 274, 275, 276, 277, 278, 279] (by decide +kernel) (by decide +kernel)
set_option maxRecDepth 20000 in
theorem gL_errors_X5_setPattern : GoodIn wsL_errors (wsV RL 79 RX5 yX5_setPattern wsX5_setPattern) := goodIn_app (goodIn_of _ (by decide +kernel)) ggL_errors_X5_setPattern
set_option maxRecDepth 20000 in
theorem ggL_errors_X5_setGroup : GoodIn wsL_errors wsX5_setGroup := goodIn_r _ [153, 6, 14, 154, 119, 120, 121, 21, 122, 23, 28, 52, 4, 53, 51, 54, 55, 56, 57, 58, 59, 60, 61, 62, 63, 64, 65, 66, 67, 68, 69, 70, 71, 72, 73, 74, 75, 76, 77, 78, 34, 79, 80, 81, 82, 83, 84, 85, 86, 87, 88, 89, 90, 91, 92, 93, 94, 95, 96, 97, 98, 259, 260, 261, 262, 263, 284, 285, 286, 287, 288, 289, 290, 291, 292, 264, 265, 266, 267, 268, 269, 270, 271, 272, 273, 274, 275, 276, 277, 278, 279] (by decide +kernel) (by decide +kernel)
set_option maxRecDepth 20000 in
theorem gL_errors_X5_setGroup : GoodIn wsL_errors (wsV RL 82 RX5 yX5_setGroup wsX5_setGroup) := goodIn_app (goodIn_of _ (by decide +kernel)) ggL_errors_X5_setGroup
set_option maxRecDepth 20000 in
theorem ggL_errors_X5_setBlink : GoodIn wsL_errors wsX5_setBlink := goodIn_r _ [158, 14, 6, 159, 160, 51, 52, 4, 53, 54, 55, 56, 57, 58, 59, 60, 61, 62, 63, 64, 65, 66, 67, 68, 21, 69, 28, 23, 70, 71, 72, 73, 74, 75, 76, 77, 78, 34, 79, 80, 81, 82, 83, 84, 85, 86, 87, 88, 89, 90, 91, 92, 93, 94, 95, 96, 97, 98, 161, 162, 163, 164, 165, 259, 260, 261, 262, 263, 264, 265, 266, 267, 268, 269, 270, 271, 272, 273, 274, 275, 276, 277, 278, 279, 284, 285, 286, 287, 288, 289, 290, 291, 292] (by decide +kernel) (by decide +kernel)
set_option maxRecDepth 20000 in
theorem gL_errors_X5_setBlink : GoodIn wsL_errors (wsV RL 85 RX5 yX5_setBlink wsX5_setBlink) := goodIn_app (goodIn_of _ (by decide +kernel)) ggL_errors_X5_setBlink
set_option maxRecDepth 20000 in
theorem ggL_errors_X5_set : GoodIn wsL_errors wsX5_set := goodIn_r _ [169, 170, 171, 14, 6, 13, 51, 52, 4, 53, 54, 55, 56, 57, 58, 59, 60, 61, 62, 63, 64, 65, 66, 67, 68, 21, 69, 28, 23, 70, 71, 72, 73, 74, 75, 76, 77, 78, 34, 79, 80, 81, 82, 83, 84, 85, 86, 87, 88, 89, 90, 91, 92, 93, 94, 95, 96, 97, 98, 259, 260, 261, 262, 263, 264, 265, 266, 267, 268, 269, 270, 271, 272, 273, 274, 275, 276, 277, 278, 279, 284, 285, 286, 287, 288, 289, 290, 291, 292] (by decide +kernel) (by decide +kernel)
set_option maxRecDepth 20000 in
theorem gL_errors_X5_set : GoodIn wsL_errors (wsV RL 88 RX5 yX5_set wsX5_set) := goodIn_app (goodIn_of _ (by decide +kernel)) ggL_errors_X5_set
set_option maxRecDepth 20000 in
theorem ggL_errors_X5_replace : GoodIn wsL_errors wsX5_replace := goodIn_r _ [175, 6, 14, 176, 119, 120, 121, 21, 122, 23, 28, 52, 4, 53, 54, 55, 56, 57, 58, 59, 60, 61, 62, 63, 64, 65, 66, 67, 68, 69, 70, 71, 72, 73, 74, 75, 76, 77, 78, 34, 79, 80, 81, 82, 83, 84, 85, 86, 87, 88, 89, 90, 91, 92, 93, 94, 95, 96, 97, 98, 177, 41, 42, 43, 44, 45, 46, 178, 108, 109, 110, 259, 260, 261, 262, 263, 284, 285, 286, 287, 288, 289, 290, 291, 292, 264, 265, 266, 267, 268, 269, 270, 271, 272, 273, 274, 275, 276, 277, 278, 279] (by decide +kernel) (by decide +kernel)
set_option maxRecDepth 20000 in
theorem gL_errors_X5_replace : GoodIn wsL_errors (wsV RL 91 RX5 yX5_replace wsX5_replace) := goodIn_app (goodIn_of _ (by decide +kernel)) ggL_errors_X5_replace
set_option maxRecDepth 20000 in
theorem ggL_errors_X5_test : GoodIn wsL_errors wsX5_test := goodIn_r _ [182, 14, 6, 11, 51, 52, 4, 53, 54, 55, 56, 57, 58, 59, 60, 61, 62, 63, 64, 65, 66, 67, 68, 21, 69, 28, 23, 70, 71, 72, 73, 74, 75, 76, 77, 78, 34, 79, 80, 81, 82, 83, 84, 85, 86, 87, 88, 89, 90, 91, 92, 93, 94, 95, 96, 97, 98, 259, 260, 261, 262, 263, 264, 265, 266, 267, 268, 269, 270, 271, 272, 273, 274, 275, 276, 277, 278, 279, 284, 285, 286, 287, 288, 289, 290, 291, 292] (by decide +kernel) (by decide +kernel)
set_option maxRecDepth 20000 in
theorem gL_errors_X5_test : GoodIn wsL_errors (wsV RL 94 RX5 yX5_test wsX5_test) := goodIn_app (goodIn_of _ (by decide +kernel)) ggL_errors_X5_test
set_option maxRecDepth 20000 in
theorem ggL_errors_X5_pass : GoodIn wsL_errors wsX5_pass := goodIn_r _ [186, 14, 6, 51, 52, 4, 53, 54, 55, 56, 57, 58, 59, 60, 61, 62, 63, 64, 65, 66, 67, 68, 21, 69, 28, 23, 70, 71, 72, 73, 74, 75, 76, 77, 78, 34, 79, 80, 81, 82, 83, 84, 85, 86, 87, 88, 89, 90, 91, 92, 93, 94, 95, 96, 97, 98, 187, 188, 189, 190, 191, 192, 193, 194, 195, 196, 31, 32, 33, 29, 197, 198, 199, 200, 201, 39, 202, 203, 204, 205, 206, 165, 207, 137, 138, 139, 24, 25, 26, 27, 208, 209, 210, 211, 212, 213, 214, 215, 216, 217, 218, 219, 220, 221, 222, 223, 40, 41, 42, 43, 44, 45, 46, 224, 225, 226, 227, 228, 229, 230, 231, 19, 20, 22, 111, 112, 113, 114, 259, 260, 261, 262, 263, 277, 278, 279, 264, 265, 266, 267, 268, 269, 270, 271, 272, 273, 274, 275, 276, 284, 285, 286, 287, 288, 289, 290, 291, 292] (by decide +kernel) (by decide +kernel)
set_option maxRecDepth 20000 in
theorem gL_errors_X5_pass : GoodIn wsL_errors (wsV RL 41 RX5 yX5_pass wsX5_pass) := goodIn_app (goodIn_of _ (by decide +kernel)) ggL_errors_X5_pass
set_option maxRecDepth 20000 in
theorem ggL_errors_X5_keep : GoodIn wsL_errors wsX5_keep := goodIn_r _ [235, 236, 237, 6, 238, 7, 51, 52, 4, 53, 239, 67, 68, 21, 69, 28, 23, 70, 71, 72, 73, 74, 75, 76, 77, 78, 34, 79, 80, 81, 82, 83, 84, 85, 86, 87, 88, 89, 90, 91, 92, 93, 94, 95, 96, 97, 98, 259, 260, 261, 262, 263, 293, 294, 264, 265, 266, 267, 268, 269, 270, 271, 272, 273, 274, 275, 276, 284, 285, 286, 287, 288, 289, 290, 291, 292] (by decide +kernel) (by decide +kernel)
set_option maxRecDepth 20000 in
theorem gL_errors_X5_keep : GoodIn wsL_errors (wsV RL 97 RX5 yX5_keep wsX5_keep) := goodIn_app (goodIn_of _ (by decide +kernel)) ggL_errors_X5_keep
set_option maxRecDepth 20000 in
theorem ggL_errors_X5_restore : GoodIn wsL_errors wsX5_restore := goodIn_r _ [243, 236, 238, 14, 6, 237, 7, 51, 52, 4, 53, 54, 55, 56, 57, 58, 59, 60, 61, 62, 63, 64, 65, 66, 67, 68, 21, 69, 28, 23, 70, 71, 72, 73, 74, 75, 76, 77, 78, 34, 79, 80, 81, 82, 83, 84, 85, 86, 87, 88, 89, 90, 91, 92, 93, 94, 95, 96, 97, 98, 239, 259, 260, 261, 262, 263, 293, 294, 264, 265, 266, 267, 268, 269, 270, 271, 272, 273, 274, 275, 276, 277, 278, 279, 284, 285, 286, 287, 288, 289, 290, 291, 292] (by decide +kernel) (by decide +kernel)
set_option maxRecDepth 20000 in
theorem gL_errors_X5_restore : GoodIn wsL_errors (wsV RL 100 RX5 yX5_restore wsX5_restore) := goodIn_app (goodIn_of _ (by decide +kernel)) ggL_errors_X5_restore
set_option maxRecDepth 20000 in
theorem ggL_errors_X5_steadyGlow : GoodIn wsL_errors wsX5_steadyGlow := goodIn_r _ [247, 6, 13, 119, 120, 121, 21, 122, 23, 28, 52, 4, 53, 132, 133, 134, 87, 135, 91, 136, 137, 138, 139, 89, 90, 18, 19, 20, 22, 24, 25, 26, 27, 29, 248, 249, 250, 251, 221, 222, 218, 219, 64, 220, 223, 63, 65, 252, 216, 217, 259, 260, 261, 262, 263, 264, 265, 266, 267, 268, 269, 270, 271, 272, 273, 274, 275, 276, 284, 285, 286, 287, 288, 289, 290, 291, 292] (by decide +kernel) (by decide +kernel)
set_option maxRecDepth 20000 in
theorem gL_errors_X5_steadyGlow : GoodIn wsL_errors (wsV RL 48 RX5 yX5_steadyGlow wsX5_steadyGlow) := goodIn_app (goodIn_of _ (by decide +kernel)) ggL_errors_X5_steadyGlow
set_option maxRecDepth 20000 in
theorem ggL_errors_X5_litIn : GoodIn wsL_errors wsX5_litIn := goodIn_r _ [256, 6, 257, 119, 120, 121, 21, 122, 23, 28, 52, 4, 53, 51, 239, 67, 68, 69, 70, 71, 72, 73, 74, 75, 76, 77, 78, 34, 79, 80, 81, 82, 83, 84, 85, 86, 87, 88, 89, 90, 91, 92, 93, 94, 95, 96, 97, 98, 187, 188, 189, 190, 191, 192, 193, 194, 195, 196, 31, 32, 33, 29, 197, 198, 199, 200, 201, 39, 202, 203, 204, 205, 206, 165, 207, 137, 138, 139, 24, 25, 26, 27, 208, 209, 210, 211, 212, 213, 214, 215, 216, 217, 218, 219, 64, 220, 221, 222, 223, 63, 65, 40, 41, 42, 43, 44, 45, 46, 224, 225, 226, 227, 228, 229, 230, 231, 19, 20, 22, 111, 112, 113, 114, 30, 258, 259, 260, 261, 262, 263, 264, 265, 266, 267, 268, 269, 270, 271, 272, 273, 274, 275, 276, 284, 285, 286, 287, 288, 289, 290, 291, 292] (by decide +kernel) (by decide +kernel)
set_option maxRecDepth 20000 in
theorem gL_errors_X5_litIn : GoodIn wsL_errors (wsV RL 35 RX5 yX5_litIn wsX5_litIn) := goodIn_app (goodIn_of _ (by decide +kernel)) ggL_errors_X5_litIn
theorem dL_errors_0 : decode cL_errors 0 = .ok (.aload_n 0, 1) := by decide +kernel
theorem dL_errors_1 : decode cL_errors 1 = .ok (.iconst 1, 1) := by decide +kernel
theorem dL_errors_2 : decode cL_errors 2 = .ok (.invokevirtual 9, 3) := by decide +kernel
theorem dL_errors_5 : decode cL_errors 5 = .ok (.istore_n 1, 1) := by decide +kernel
theorem dL_errors_6 : decode cL_errors 6 = .ok (.aload_n 0, 1) := by decide +kernel
theorem dL_errors_7 : decode cL_errors 7 = .ok (.iconst 0, 1) := by decide +kernel
theorem dL_errors_8 : decode cL_errors 8 = .ok (.invokevirtual 67, 3) := by decide +kernel
theorem dL_errors_11 : decode cL_errors 11 = .ok (.bipush (-2), 2) := by decide +kernel
theorem dL_errors_13 : decode cL_errors 13 = .ok (.if_icmp .ne 154, 3) := by decide +kernel
theorem dL_errors_16 : decode cL_errors 16 = .ok (.aload_n 0, 1) := by decide +kernel
theorem dL_errors_17 : decode cL_errors 17 = .ok (.bipush 9, 2) := by decide +kernel
theorem dL_errors_19 : decode cL_errors 19 = .ok (.invokevirtual 67, 3) := by decide +kernel
theorem dL_errors_22 : decode cL_errors 22 = .ok (.bipush (-2), 2) := by decide +kernel
theorem dL_errors_24 : decode cL_errors 24 = .ok (.if_icmp .ne 143, 3) := by decide +kernel
theorem dL_errors_27 : decode cL_errors 27 = .ok (.aload_n 0, 1) := by decide +kernel
theorem dL_errors_28 : decode cL_errors 28 = .ok (.iload_n 1, 1) := by decide +kernel
theorem dL_errors_29 : decode cL_errors 29 = .ok (.bipush 10, 2) := by decide +kernel
theorem dL_errors_31 : decode cL_errors 31 = .ok (.invokevirtual 70, 3) := by decide +kernel
theorem dL_errors_34 : decode cL_errors 34 = .ok (.iconst (-1), 1) := by decide +kernel
theorem dL_errors_35 : decode cL_errors 35 = .ok (.if_icmp .ne 132, 3) := by decide +kernel
theorem dL_errors_38 : decode cL_errors 38 = .ok (.aload_n 0, 1) := by decide +kernel
theorem dL_errors_39 : decode cL_errors 39 = .ok (.iconst 0, 1) := by decide +kernel
theorem dL_errors_40 : decode cL_errors 40 = .ok (.iconst 3, 1) := by decide +kernel
theorem dL_errors_41 : decode cL_errors 41 = .ok (.invokevirtual 70, 3) := by decide +kernel
theorem dL_errors_44 : decode cL_errors 44 = .ok (.bipush (-2), 2) := by decide +kernel
theorem dL_errors_46 : decode cL_errors 46 = .ok (.if_icmp .ne 121, 3) := by decide +kernel
theorem dL_errors_49 : decode cL_errors 49 = .ok (.aload_n 0, 1) := by decide +kernel
theorem dL_errors_50 : decode cL_errors 50 = .ok (.iconst 0, 1) := by decide +kernel
theorem dL_errors_51 : decode cL_errors 51 = .ok (.bipush 41, 2) := by decide +kernel
theorem dL_errors_53 : decode cL_errors 53 = .ok (.invokevirtual 70, 3) := by decide +kernel
theorem dL_errors_56 : decode cL_errors 56 = .ok (.bipush (-2), 2) := by decide +kernel
theorem dL_errors_58 : decode cL_errors 58 = .ok (.if_icmp .ne 109, 3) := by decide +kernel
theorem dL_errors_61 : decode cL_errors 61 = .ok (.aload_n 0, 1) := by decide +kernel
theorem dL_errors_62 : decode cL_errors 62 = .ok (.iconst 0, 1) := by decide +kernel
theorem dL_errors_63 : decode cL_errors 63 = .ok (.iconst 4, 1) := by decide +kernel
theorem dL_errors_64 : decode cL_errors 64 = .ok (.invokevirtual 73, 3) := by decide +kernel
theorem dL_errors_67 : decode cL_errors 67 = .ok (.bipush (-2), 2) := by decide +kernel
theorem dL_errors_69 : decode cL_errors 69 = .ok (.if_icmp .ne 98, 3) := by decide +kernel
theorem dL_errors_72 : decode cL_errors 72 = .ok (.aload_n 0, 1) := by decide +kernel
theorem dL_errors_73 : decode cL_errors 73 = .ok (.iconst 0, 1) := by decide +kernel
theorem dL_errors_74 : decode cL_errors 74 = .ok (.bipush 16, 2) := by decide +kernel
theorem dL_errors_76 : decode cL_errors 76 = .ok (.invokevirtual 76, 3) := by decide +kernel
theorem dL_errors_79 : decode cL_errors 79 = .ok (.bipush (-2), 2) := by decide +kernel
theorem dL_errors_81 : decode cL_errors 81 = .ok (.if_icmp .ne 86, 3) := by decide +kernel
theorem dL_errors_84 : decode cL_errors 84 = .ok (.aload_n 0, 1) := by decide +kernel
theorem dL_errors_85 : decode cL_errors 85 = .ok (.iconst 0, 1) := by decide +kernel
theorem dL_errors_86 : decode cL_errors 86 = .ok (.sipush 256, 3) := by decide +kernel
theorem dL_errors_89 : decode cL_errors 89 = .ok (.invokevirtual 79, 3) := by decide +kernel
theorem dL_errors_92 : decode cL_errors 92 = .ok (.bipush (-2), 2) := by decide +kernel
theorem dL_errors_94 : decode cL_errors 94 = .ok (.if_icmp .ne 73, 3) := by decide +kernel
theorem dL_errors_97 : decode cL_errors 97 = .ok (.aload_n 0, 1) := by decide +kernel
theorem dL_errors_98 : decode cL_errors 98 = .ok (.iconst (-1), 1) := by decide +kernel
theorem dL_errors_99 : decode cL_errors 99 = .ok (.iconst 0, 1) := by decide +kernel
theorem dL_errors_100 : decode cL_errors 100 = .ok (.invokevirtual 79, 3) := by decide +kernel
theorem dL_errors_103 : decode cL_errors 103 = .ok (.iconst (-1), 1) := by decide +kernel
theorem dL_errors_104 : decode cL_errors 104 = .ok (.if_icmp .ne 63, 3) := by decide +kernel
theorem dL_errors_107 : decode cL_errors 107 = .ok (.aload_n 0, 1) := by decide +kernel
theorem dL_errors_108 : decode cL_errors 108 = .ok (.iconst 0, 1) := by decide +kernel
theorem dL_errors_109 : decode cL_errors 109 = .ok (.iconst 4, 1) := by decide +kernel
theorem dL_errors_110 : decode cL_errors 110 = .ok (.invokevirtual 82, 3) := by decide +kernel
theorem dL_errors_113 : decode cL_errors 113 = .ok (.iconst (-1), 1) := by decide +kernel
theorem dL_errors_114 : decode cL_errors 114 = .ok (.if_icmp .ne 53, 3) := by decide +kernel
theorem dL_errors_117 : decode cL_errors 117 = .ok (.aload_n 0, 1) := by decide +kernel
theorem dL_errors_118 : decode cL_errors 118 = .ok (.iload_n 1, 1) := by decide +kernel
theorem dL_errors_119 : decode cL_errors 119 = .ok (.iconst 0, 1) := by decide +kernel
theorem dL_errors_120 : decode cL_errors 120 = .ok (.invokevirtual 82, 3) := by decide +kernel
theorem dL_errors_123 : decode cL_errors 123 = .ok (.iconst (-1), 1) := by decide +kernel
theorem dL_errors_124 : decode cL_errors 124 = .ok (.if_icmp .ne 43, 3) := by decide +kernel
theorem dL_errors_127 : decode cL_errors 127 = .ok (.aload_n 0, 1) := by decide +kernel
theorem dL_errors_128 : decode cL_errors 128 = .ok (.iconst 0, 1) := by decide +kernel
theorem dL_errors_129 : decode cL_errors 129 = .ok (.iconst 1, 1) := by decide +kernel
theorem dL_errors_130 : decode cL_errors 130 = .ok (.iconst 1, 1) := by decide +kernel
theorem dL_errors_131 : decode cL_errors 131 = .ok (.invokevirtual 85, 3) := by decide +kernel
theorem dL_errors_134 : decode cL_errors 134 = .ok (.iconst (-1), 1) := by decide +kernel
theorem dL_errors_135 : decode cL_errors 135 = .ok (.if_icmp .ne 32, 3) := by decide +kernel
theorem dL_errors_138 : decode cL_errors 138 = .ok (.aload_n 0, 1) := by decide +kernel
theorem dL_errors_139 : decode cL_errors 139 = .ok (.iconst 1, 1) := by decide +kernel
theorem dL_errors_140 : decode cL_errors 140 = .ok (.iconst 0, 1) := by decide +kernel
theorem dL_errors_141 : decode cL_errors 141 = .ok (.iconst 1, 1) := by decide +kernel
theorem dL_errors_142 : decode cL_errors 142 = .ok (.invokevirtual 85, 3) := by decide +kernel
theorem dL_errors_145 : decode cL_errors 145 = .ok (.bipush (-2), 2) := by decide +kernel
theorem dL_errors_147 : decode cL_errors 147 = .ok (.if_icmp .ne 20, 3) := by decide +kernel
theorem dL_errors_150 : decode cL_errors 150 = .ok (.aload_n 0, 1) := by decide +kernel
theorem dL_errors_151 : decode cL_errors 151 = .ok (.iconst 1, 1) := by decide +kernel
theorem dL_errors_152 : decode cL_errors 152 = .ok (.iconst 1, 1) := by decide +kernel
theorem dL_errors_153 : decode cL_errors 153 = .ok (.bipush 51, 2) := by decide +kernel
theorem dL_errors_155 : decode cL_errors 155 = .ok (.invokevirtual 85, 3) := by decide +kernel
theorem dL_errors_158 : decode cL_errors 158 = .ok (.bipush (-2), 2) := by decide +kernel
theorem dL_errors_160 : decode cL_errors 160 = .ok (.if_icmp .ne 7, 3) := by decide +kernel
theorem dL_errors_163 : decode cL_errors 163 = .ok (.iconst 1, 1) := by decide +kernel
theorem dL_errors_164 : decode cL_errors 164 = .ok (.goto 4, 3) := by decide +kernel
theorem dL_errors_167 : decode cL_errors 167 = .ok (.iconst 0, 1) := by decide +kernel
theorem dL_errors_168 : decode cL_errors 168 = .ok (.istore_n 2, 1) := by decide +kernel
theorem dL_errors_169 : decode cL_errors 169 = .ok (.iload_n 2, 1) := by decide +kernel
theorem dL_errors_170 : decode cL_errors 170 = .ok (.ifCond .eq 164, 3) := by decide +kernel
theorem dL_errors_173 : decode cL_errors 173 = .ok (.aload_n 0, 1) := by decide +kernel
theorem dL_errors_174 : decode cL_errors 174 = .ok (.iconst 3, 1) := by decide +kernel
theorem dL_errors_175 : decode cL_errors 175 = .ok (.iconst 1, 1) := by decide +kernel
theorem dL_errors_176 : decode cL_errors 176 = .ok (.invokevirtual 88, 3) := by decide +kernel
theorem dL_errors_179 : decode cL_errors 179 = .ok (.iconst (-1), 1) := by decide +kernel
theorem dL_errors_180 : decode cL_errors 180 = .ok (.if_icmp .ne 154, 3) := by decide +kernel
theorem dL_errors_183 : decode cL_errors 183 = .ok (.aload_n 0, 1) := by decide +kernel
theorem dL_errors_184 : decode cL_errors 184 = .ok (.iconst 0, 1) := by decide +kernel
theorem dL_errors_185 : decode cL_errors 185 = .ok (.iconst 1, 1) := by decide +kernel
theorem dL_errors_186 : decode cL_errors 186 = .ok (.invokevirtual 88, 3) := by decide +kernel
theorem dL_errors_189 : decode cL_errors 189 = .ok (.bipush (-2), 2) := by decide +kernel
theorem dL_errors_191 : decode cL_errors 191 = .ok (.if_icmp .ne 143, 3) := by decide +kernel
theorem dL_errors_194 : decode cL_errors 194 = .ok (.aload_n 0, 1) := by decide +kernel
theorem dL_errors_195 : decode cL_errors 195 = .ok (.iconst 0, 1) := by decide +kernel
theorem dL_errors_196 : decode cL_errors 196 = .ok (.bipush 51, 2) := by decide +kernel
theorem dL_errors_198 : decode cL_errors 198 = .ok (.invokevirtual 88, 3) := by decide +kernel
theorem dL_errors_201 : decode cL_errors 201 = .ok (.bipush (-2), 2) := by decide +kernel
theorem dL_errors_203 : decode cL_errors 203 = .ok (.if_icmp .ne 131, 3) := by decide +kernel
theorem dL_errors_206 : decode cL_errors 206 = .ok (.aload_n 0, 1) := by decide +kernel
theorem dL_errors_207 : decode cL_errors 207 = .ok (.iconst 1, 1) := by decide +kernel
theorem dL_errors_208 : decode cL_errors 208 = .ok (.sipush 1001, 3) := by decide +kernel
theorem dL_errors_211 : decode cL_errors 211 = .ok (.invokevirtual 88, 3) := by decide +kernel
theorem dL_errors_214 : decode cL_errors 214 = .ok (.bipush (-2), 2) := by decide +kernel
theorem dL_errors_216 : decode cL_errors 216 = .ok (.if_icmp .ne 118, 3) := by decide +kernel
theorem dL_errors_219 : decode cL_errors 219 = .ok (.aload_n 0, 1) := by decide +kernel
theorem dL_errors_220 : decode cL_errors 220 = .ok (.iconst 2, 1) := by decide +kernel
theorem dL_errors_221 : decode cL_errors 221 = .ok (.iconst 0, 1) := by decide +kernel
theorem dL_errors_222 : decode cL_errors 222 = .ok (.invokevirtual 88, 3) := by decide +kernel
theorem dL_errors_225 : decode cL_errors 225 = .ok (.bipush (-2), 2) := by decide +kernel
theorem dL_errors_227 : decode cL_errors 227 = .ok (.if_icmp .ne 107, 3) := by decide +kernel
theorem dL_errors_230 : decode cL_errors 230 = .ok (.aload_n 0, 1) := by decide +kernel
theorem dL_errors_231 : decode cL_errors 231 = .ok (.iload_n 1, 1) := by decide +kernel
theorem dL_errors_232 : decode cL_errors 232 = .ok (.invokevirtual 91, 3) := by decide +kernel
theorem dL_errors_235 : decode cL_errors 235 = .ok (.iconst (-1), 1) := by decide +kernel
theorem dL_errors_236 : decode cL_errors 236 = .ok (.if_icmp .ne 98, 3) := by decide +kernel
theorem dL_errors_239 : decode cL_errors 239 = .ok (.aload_n 0, 1) := by decide +kernel
theorem dL_errors_240 : decode cL_errors 240 = .ok (.bipush 51, 2) := by decide +kernel
theorem dL_errors_242 : decode cL_errors 242 = .ok (.invokevirtual 94, 3) := by decide +kernel
theorem dL_errors_245 : decode cL_errors 245 = .ok (.bipush (-2), 2) := by decide +kernel
theorem dL_errors_247 : decode cL_errors 247 = .ok (.if_icmp .ne 87, 3) := by decide +kernel
theorem dL_errors_250 : decode cL_errors 250 = .ok (.aload_n 0, 1) := by decide +kernel
theorem dL_errors_251 : decode cL_errors 251 = .ok (.iconst (-1), 1) := by decide +kernel
theorem dL_errors_252 : decode cL_errors 252 = .ok (.invokevirtual 94, 3) := by decide +kernel
theorem dL_errors_255 : decode cL_errors 255 = .ok (.bipush (-2), 2) := by decide +kernel
theorem dL_errors_257 : decode cL_errors 257 = .ok (.if_icmp .ne 77, 3) := by decide +kernel
theorem dL_errors_260 : decode cL_errors 260 = .ok (.aload_n 0, 1) := by decide +kernel
theorem dL_errors_261 : decode cL_errors 261 = .ok (.iconst 0, 1) := by decide +kernel
theorem dL_errors_262 : decode cL_errors 262 = .ok (.invokevirtual 41, 3) := by decide +kernel
theorem dL_errors_265 : decode cL_errors 265 = .ok (.bipush (-2), 2) := by decide +kernel
theorem dL_errors_267 : decode cL_errors 267 = .ok (.if_icmp .ne 67, 3) := by decide +kernel
theorem dL_errors_270 : decode cL_errors 270 = .ok (.aload_n 0, 1) := by decide +kernel
theorem dL_errors_271 : decode cL_errors 271 = .ok (.sipush 501, 3) := by decide +kernel
theorem dL_errors_274 : decode cL_errors 274 = .ok (.invokevirtual 41, 3) := by decide +kernel
theorem dL_errors_277 : decode cL_errors 277 = .ok (.bipush (-2), 2) := by decide +kernel
theorem dL_errors_279 : decode cL_errors 279 = .ok (.if_icmp .ne 55, 3) := by decide +kernel
theorem dL_errors_282 : decode cL_errors 282 = .ok (.aload_n 0, 1) := by decide +kernel
theorem dL_errors_283 : decode cL_errors 283 = .ok (.iconst 2, 1) := by decide +kernel
theorem dL_errors_284 : decode cL_errors 284 = .ok (.invokevirtual 97, 3) := by decide +kernel
theorem dL_errors_287 : decode cL_errors 287 = .ok (.iconst (-1), 1) := by decide +kernel
theorem dL_errors_288 : decode cL_errors 288 = .ok (.if_icmp .ne 46, 3) := by decide +kernel
theorem dL_errors_291 : decode cL_errors 291 = .ok (.aload_n 0, 1) := by decide +kernel
theorem dL_errors_292 : decode cL_errors 292 = .ok (.iconst 2, 1) := by decide +kernel
theorem dL_errors_293 : decode cL_errors 293 = .ok (.invokevirtual 100, 3) := by decide +kernel
theorem dL_errors_296 : decode cL_errors 296 = .ok (.iconst (-1), 1) := by decide +kernel
theorem dL_errors_297 : decode cL_errors 297 = .ok (.if_icmp .ne 37, 3) := by decide +kernel
theorem dL_errors_300 : decode cL_errors 300 = .ok (.aload_n 0, 1) := by decide +kernel
theorem dL_errors_301 : decode cL_errors 301 = .ok (.iload_n 1, 1) := by decide +kernel
theorem dL_errors_302 : decode cL_errors 302 = .ok (.invokevirtual 48, 3) := by decide +kernel
theorem dL_errors_305 : decode cL_errors 305 = .ok (.iconst (-1), 1) := by decide +kernel
theorem dL_errors_306 : decode cL_errors 306 = .ok (.if_icmp .ne 28, 3) := by decide +kernel
theorem dL_errors_309 : decode cL_errors 309 = .ok (.aload_n 0, 1) := by decide +kernel
theorem dL_errors_310 : decode cL_errors 310 = .ok (.iload_n 1, 1) := by decide +kernel
theorem dL_errors_311 : decode cL_errors 311 = .ok (.iconst 0, 1) := by decide +kernel
theorem dL_errors_312 : decode cL_errors 312 = .ok (.invokevirtual 35, 3) := by decide +kernel
theorem dL_errors_315 : decode cL_errors 315 = .ok (.iconst (-1), 1) := by decide +kernel
theorem dL_errors_316 : decode cL_errors 316 = .ok (.if_icmp .ne 18, 3) := by decide +kernel
theorem dL_errors_319 : decode cL_errors 319 = .ok (.aload_n 0, 1) := by decide +kernel
theorem dL_errors_320 : decode cL_errors 320 = .ok (.bipush 14, 2) := by decide +kernel
theorem dL_errors_322 : decode cL_errors 322 = .ok (.invokevirtual 9, 3) := by decide +kernel
theorem dL_errors_325 : decode cL_errors 325 = .ok (.bipush (-2), 2) := by decide +kernel
theorem dL_errors_327 : decode cL_errors 327 = .ok (.if_icmp .ne 7, 3) := by decide +kernel
theorem dL_errors_330 : decode cL_errors 330 = .ok (.iconst 1, 1) := by decide +kernel
theorem dL_errors_331 : decode cL_errors 331 = .ok (.goto 4, 3) := by decide +kernel
theorem dL_errors_334 : decode cL_errors 334 = .ok (.iconst 0, 1) := by decide +kernel
theorem dL_errors_335 : decode cL_errors 335 = .ok (.ireturn, 1) := by decide +kernel
theorem dL_law_0 : decode cL_law 0 = .ok (.new 10, 3) := by decide +kernel
theorem dL_law_3 : decode cL_law 3 = .ok (.dup, 1) := by decide +kernel
theorem dL_law_4 : decode cL_law 4 = .ok (.invokespecial 103, 3) := by decide +kernel
theorem dL_law_7 : decode cL_law 7 = .ok (.astore_n 1, 1) := by decide +kernel
theorem dL_law_8 : decode cL_law 8 = .ok (.iconst 0, 1) := by decide +kernel
theorem dL_law_9 : decode cL_law 9 = .ok (.istore_n 2, 1) := by decide +kernel
theorem dL_law_10 : decode cL_law 10 = .ok (.iload_n 2, 1) := by decide +kernel
theorem dL_law_11 : decode cL_law 11 = .ok (.bipush 36, 2) := by decide +kernel
theorem dL_law_13 : decode cL_law 13 = .ok (.if_icmp .ge 920, 3) := by decide +kernel
theorem dL_law_16 : decode cL_law 16 = .ok (.aload_n 0, 1) := by decide +kernel
theorem dL_law_17 : decode cL_law 17 = .ok (.iconst 2, 1) := by decide +kernel
theorem dL_law_18 : decode cL_law 18 = .ok (.iload_n 2, 1) := by decide +kernel
theorem dL_law_19 : decode cL_law 19 = .ok (.imul, 1) := by decide +kernel
theorem dL_law_20 : decode cL_law 20 = .ok (.invokestatic 104, 3) := by decide +kernel
theorem dL_law_23 : decode cL_law 23 = .ok (.istore_n 3, 1) := by decide +kernel
theorem dL_law_24 : decode cL_law 24 = .ok (.aload_n 0, 1) := by decide +kernel
theorem dL_law_25 : decode cL_law 25 = .ok (.iconst 2, 1) := by decide +kernel
theorem dL_law_26 : decode cL_law 26 = .ok (.iload_n 2, 1) := by decide +kernel
theorem dL_law_27 : decode cL_law 27 = .ok (.imul, 1) := by decide +kernel
theorem dL_law_28 : decode cL_law 28 = .ok (.iconst 1, 1) := by decide +kernel
theorem dL_law_29 : decode cL_law 29 = .ok (.iadd, 1) := by decide +kernel
theorem dL_law_30 : decode cL_law 30 = .ok (.invokestatic 104, 3) := by decide +kernel
theorem dL_law_33 : decode cL_law 33 = .ok (.istore 4, 2) := by decide +kernel
theorem dL_law_35 : decode cL_law 35 = .ok (.iload_n 3, 1) := by decide +kernel
theorem dL_law_36 : decode cL_law 36 = .ok (.bipush 17, 2) := by decide +kernel
theorem dL_law_38 : decode cL_law 38 = .ok (.invokestatic 57, 3) := by decide +kernel
theorem dL_law_41 : decode cL_law 41 = .ok (.istore 5, 2) := by decide +kernel
theorem dL_law_43 : decode cL_law 43 = .ok (.iload_n 3, 1) := by decide +kernel
theorem dL_law_44 : decode cL_law 44 = .ok (.iconst 5, 1) := by decide +kernel
theorem dL_law_45 : decode cL_law 45 = .ok (.ishr, 1) := by decide +kernel
theorem dL_law_46 : decode cL_law 46 = .ok (.istore_n 3, 1) := by decide +kernel
theorem dL_law_47 : decode cL_law 47 = .ok (.aload_n 1, 1) := by decide +kernel
theorem dL_law_48 : decode cL_law 48 = .ok (.iconst 1, 1) := by decide +kernel
theorem dL_law_49 : decode cL_law 49 = .ok (.invokevirtual 9, 3) := by decide +kernel
theorem dL_law_52 : decode cL_law 52 = .ok (.istore 6, 2) := by decide +kernel
theorem dL_law_54 : decode cL_law 54 = .ok (.iload_n 3, 1) := by decide +kernel
theorem dL_law_55 : decode cL_law 55 = .ok (.iload 6, 2) := by decide +kernel
theorem dL_law_57 : decode cL_law 57 = .ok (.invokestatic 57, 3) := by decide +kernel
theorem dL_law_60 : decode cL_law 60 = .ok (.istore 7, 2) := by decide +kernel
theorem dL_law_62 : decode cL_law 62 = .ok (.aload_n 1, 1) := by decide +kernel
theorem dL_law_63 : decode cL_law 63 = .ok (.iconst 3, 1) := by decide +kernel
theorem dL_law_64 : decode cL_law 64 = .ok (.invokevirtual 9, 3) := by decide +kernel
theorem dL_law_67 : decode cL_law 67 = .ok (.istore 8, 2) := by decide +kernel
theorem dL_law_69 : decode cL_law 69 = .ok (.iconst 1, 1) := by decide +kernel
theorem dL_law_70 : decode cL_law 70 = .ok (.istore 9, 2) := by decide +kernel
theorem dL_law_72 : decode cL_law 72 = .ok (.iload 5, 2) := by decide +kernel
theorem dL_law_74 : decode cL_law 74 = .ok (.ifCond .ne 68, 3) := by decide +kernel
theorem dL_law_77 : decode cL_law 77 = .ok (.iconst 1, 1) := by decide +kernel
theorem dL_law_78 : decode cL_law 78 = .ok (.iload 4, 2) := by decide +kernel
theorem dL_law_80 : decode cL_law 80 = .ok (.bipush 8, 2) := by decide +kernel
theorem dL_law_82 : decode cL_law 82 = .ok (.invokestatic 57, 3) := by decide +kernel
theorem dL_law_85 : decode cL_law 85 = .ok (.iadd, 1) := by decide +kernel
theorem dL_law_86 : decode cL_law 86 = .ok (.istore 10, 2) := by decide +kernel
theorem dL_law_88 : decode cL_law 88 = .ok (.aload_n 1, 1) := by decide +kernel
theorem dL_law_89 : decode cL_law 89 = .ok (.iload 10, 2) := by decide +kernel
theorem dL_law_91 : decode cL_law 91 = .ok (.invokevirtual 67, 3) := by decide +kernel
theorem dL_law_94 : decode cL_law 94 = .ok (.iload 6, 2) := by decide +kernel
theorem dL_law_96 : decode cL_law 96 = .ok (.if_icmp .ne 40, 3) := by decide +kernel
theorem dL_law_99 : decode cL_law 99 = .ok (.aload_n 1, 1) := by decide +kernel
theorem dL_law_100 : decode cL_law 100 = .ok (.iconst 1, 1) := by decide +kernel
theorem dL_law_101 : decode cL_law 101 = .ok (.invokevirtual 9, 3) := by decide +kernel
theorem dL_law_104 : decode cL_law 104 = .ok (.iload 10, 2) := by decide +kernel
theorem dL_law_106 : decode cL_law 106 = .ok (.if_icmp .ne 30, 3) := by decide +kernel
theorem dL_law_109 : decode cL_law 109 = .ok (.aload_n 1, 1) := by decide +kernel
theorem dL_law_110 : decode cL_law 110 = .ok (.iconst 3, 1) := by decide +kernel
theorem dL_law_111 : decode cL_law 111 = .ok (.invokevirtual 9, 3) := by decide +kernel
theorem dL_law_114 : decode cL_law 114 = .ok (.iload 8, 2) := by decide +kernel
theorem dL_law_116 : decode cL_law 116 = .ok (.iload 10, 2) := by decide +kernel
theorem dL_law_118 : decode cL_law 118 = .ok (.iload 6, 2) := by decide +kernel
theorem dL_law_120 : decode cL_law 120 = .ok (.if_icmp .ne 7, 3) := by decide +kernel
theorem dL_law_123 : decode cL_law 123 = .ok (.iconst 0, 1) := by decide +kernel
theorem dL_law_124 : decode cL_law 124 = .ok (.goto 4, 3) := by decide +kernel
theorem dL_law_127 : decode cL_law 127 = .ok (.iconst 1, 1) := by decide +kernel
theorem dL_law_128 : decode cL_law 128 = .ok (.iadd, 1) := by decide +kernel
theorem dL_law_129 : decode cL_law 129 = .ok (.if_icmp .ne 7, 3) := by decide +kernel
theorem dL_law_132 : decode cL_law 132 = .ok (.iconst 1, 1) := by decide +kernel
theorem dL_law_133 : decode cL_law 133 = .ok (.goto 4, 3) := by decide +kernel
theorem dL_law_136 : decode cL_law 136 = .ok (.iconst 0, 1) := by decide +kernel
theorem dL_law_137 : decode cL_law 137 = .ok (.istore 9, 2) := by decide +kernel
theorem dL_law_139 : decode cL_law 139 = .ok (.goto 767, 3) := by decide +kernel
theorem dL_law_142 : decode cL_law 142 = .ok (.iload 5, 2) := by decide +kernel
theorem dL_law_144 : decode cL_law 144 = .ok (.iconst 1, 1) := by decide +kernel
theorem dL_law_145 : decode cL_law 145 = .ok (.if_icmp .ne 97, 3) := by decide +kernel
theorem dL_law_148 : decode cL_law 148 = .ok (.aload_n 1, 1) := by decide +kernel
theorem dL_law_149 : decode cL_law 149 = .ok (.iload 7, 2) := by decide +kernel
theorem dL_law_151 : decode cL_law 151 = .ok (.iconst 1, 1) := by decide +kernel
theorem dL_law_152 : decode cL_law 152 = .ok (.invokevirtual 15, 3) := by decide +kernel
theorem dL_law_155 : decode cL_law 155 = .ok (.istore 10, 2) := by decide +kernel
theorem dL_law_157 : decode cL_law 157 = .ok (.iconst 4, 1) := by decide +kernel
theorem dL_law_158 : decode cL_law 158 = .ok (.iload 4, 2) := by decide +kernel
theorem dL_law_160 : decode cL_law 160 = .ok (.bipush 37, 2) := by decide +kernel
theorem dL_law_162 : decode cL_law 162 = .ok (.invokestatic 57, 3) := by decide +kernel
theorem dL_law_165 : decode cL_law 165 = .ok (.iadd, 1) := by decide +kernel
theorem dL_law_166 : decode cL_law 166 = .ok (.istore 11, 2) := by decide +kernel
theorem dL_law_168 : decode cL_law 168 = .ok (.aload_n 1, 1) := by decide +kernel
theorem dL_law_169 : decode cL_law 169 = .ok (.iconst 2, 1) := by decide +kernel
theorem dL_law_170 : decode cL_law 170 = .ok (.invokevirtual 9, 3) := by decide +kernel
theorem dL_law_173 : decode cL_law 173 = .ok (.iload 10, 2) := by decide +kernel
theorem dL_law_175 : decode cL_law 175 = .ok (.isub, 1) := by decide +kernel
theorem dL_law_176 : decode cL_law 176 = .ok (.iload 11, 2) := by decide +kernel
theorem dL_law_178 : decode cL_law 178 = .ok (.iadd, 1) := by decide +kernel
theorem dL_law_179 : decode cL_law 179 = .ok (.istore 12, 2) := by decide +kernel
theorem dL_law_181 : decode cL_law 181 = .ok (.aload_n 1, 1) := by decide +kernel
theorem dL_law_182 : decode cL_law 182 = .ok (.iload 7, 2) := by decide +kernel
theorem dL_law_184 : decode cL_law 184 = .ok (.iload 11, 2) := by decide +kernel
theorem dL_law_186 : decode cL_law 186 = .ok (.invokevirtual 70, 3) := by decide +kernel
theorem dL_law_189 : decode cL_law 189 = .ok (.iload 12, 2) := by decide +kernel
theorem dL_law_191 : decode cL_law 191 = .ok (.if_icmp .ne 45, 3) := by decide +kernel
theorem dL_law_194 : decode cL_law 194 = .ok (.aload_n 1, 1) := by decide +kernel
theorem dL_law_195 : decode cL_law 195 = .ok (.iconst 3, 1) := by decide +kernel
theorem dL_law_196 : decode cL_law 196 = .ok (.invokevirtual 9, 3) := by decide +kernel
theorem dL_law_199 : decode cL_law 199 = .ok (.iload 8, 2) := by decide +kernel
theorem dL_law_201 : decode cL_law 201 = .ok (.iload 11, 2) := by decide +kernel
theorem dL_law_203 : decode cL_law 203 = .ok (.iload 10, 2) := by decide +kernel
theorem dL_law_205 : decode cL_law 205 = .ok (.if_icmp .ne 7, 3) := by decide +kernel
theorem dL_law_208 : decode cL_law 208 = .ok (.iconst 0, 1) := by decide +kernel
theorem dL_law_209 : decode cL_law 209 = .ok (.goto 4, 3) := by decide +kernel
theorem dL_law_212 : decode cL_law 212 = .ok (.iconst 1, 1) := by decide +kernel
theorem dL_law_213 : decode cL_law 213 = .ok (.iadd, 1) := by decide +kernel
theorem dL_law_214 : decode cL_law 214 = .ok (.if_icmp .ne 22, 3) := by decide +kernel
theorem dL_law_217 : decode cL_law 217 = .ok (.iload 11, 2) := by decide +kernel
theorem dL_law_219 : decode cL_law 219 = .ok (.iload 10, 2) := by decide +kernel
theorem dL_law_221 : decode cL_law 221 = .ok (.if_icmp .eq 11, 3) := by decide +kernel
theorem dL_law_224 : decode cL_law 224 = .ok (.aload_n 1, 1) := by decide +kernel
theorem dL_law_225 : decode cL_law 225 = .ok (.iconst 4, 1) := by decide +kernel
theorem dL_law_226 : decode cL_law 226 = .ok (.invokevirtual 9, 3) := by decide +kernel
theorem dL_law_229 : decode cL_law 229 = .ok (.ifCond .ne 7, 3) := by decide +kernel
theorem dL_law_232 : decode cL_law 232 = .ok (.iconst 1, 1) := by decide +kernel
theorem dL_law_233 : decode cL_law 233 = .ok (.goto 4, 3) := by decide +kernel
theorem dL_law_236 : decode cL_law 236 = .ok (.iconst 0, 1) := by decide +kernel
theorem dL_law_237 : decode cL_law 237 = .ok (.istore 9, 2) := by decide +kernel
theorem dL_law_239 : decode cL_law 239 = .ok (.goto 667, 3) := by decide +kernel
theorem dL_law_242 : decode cL_law 242 = .ok (.iload 5, 2) := by decide +kernel
theorem dL_law_244 : decode cL_law 244 = .ok (.iconst 2, 1) := by decide +kernel
theorem dL_law_245 : decode cL_law 245 = .ok (.if_icmp .ne 61, 3) := by decide +kernel
theorem dL_law_248 : decode cL_law 248 = .ok (.aload_n 1, 1) := by decide +kernel
theorem dL_law_249 : decode cL_law 249 = .ok (.iload 7, 2) := by decide +kernel
theorem dL_law_251 : decode cL_law 251 = .ok (.iload 4, 2) := by decide +kernel
theorem dL_law_253 : decode cL_law 253 = .ok (.iconst 4, 1) := by decide +kernel
theorem dL_law_254 : decode cL_law 254 = .ok (.invokestatic 57, 3) := by decide +kernel
theorem dL_law_257 : decode cL_law 257 = .ok (.invokevirtual 73, 3) := by decide +kernel
theorem dL_law_260 : decode cL_law 260 = .ok (.aload_n 1, 1) := by decide +kernel
theorem dL_law_261 : decode cL_law 261 = .ok (.iload 7, 2) := by decide +kernel
theorem dL_law_263 : decode cL_law 263 = .ok (.iconst 5, 1) := by decide +kernel
theorem dL_law_264 : decode cL_law 264 = .ok (.invokevirtual 15, 3) := by decide +kernel
theorem dL_law_267 : decode cL_law 267 = .ok (.if_icmp .ne 33, 3) := by decide +kernel
theorem dL_law_270 : decode cL_law 270 = .ok (.aload_n 1, 1) := by decide +kernel
theorem dL_law_271 : decode cL_law 271 = .ok (.iload 7, 2) := by decide +kernel
theorem dL_law_273 : decode cL_law 273 = .ok (.iconst 2, 1) := by decide +kernel
theorem dL_law_274 : decode cL_law 274 = .ok (.invokevirtual 15, 3) := by decide +kernel
theorem dL_law_277 : decode cL_law 277 = .ok (.iload 4, 2) := by decide +kernel
theorem dL_law_279 : decode cL_law 279 = .ok (.iconst 4, 1) := by decide +kernel
theorem dL_law_280 : decode cL_law 280 = .ok (.invokestatic 57, 3) := by decide +kernel
theorem dL_law_283 : decode cL_law 283 = .ok (.if_icmp .ne 17, 3) := by decide +kernel
theorem dL_law_286 : decode cL_law 286 = .ok (.aload_n 1, 1) := by decide +kernel
theorem dL_law_287 : decode cL_law 287 = .ok (.iconst 3, 1) := by decide +kernel
theorem dL_law_288 : decode cL_law 288 = .ok (.invokevirtual 9, 3) := by decide +kernel
theorem dL_law_291 : decode cL_law 291 = .ok (.iload 8, 2) := by decide +kernel
theorem dL_law_293 : decode cL_law 293 = .ok (.if_icmp .ne 7, 3) := by decide +kernel
theorem dL_law_296 : decode cL_law 296 = .ok (.iconst 1, 1) := by decide +kernel
theorem dL_law_297 : decode cL_law 297 = .ok (.goto 4, 3) := by decide +kernel
theorem dL_law_300 : decode cL_law 300 = .ok (.iconst 0, 1) := by decide +kernel
theorem dL_law_301 : decode cL_law 301 = .ok (.istore 9, 2) := by decide +kernel
theorem dL_law_303 : decode cL_law 303 = .ok (.goto 603, 3) := by decide +kernel
theorem dL_law_306 : decode cL_law 306 = .ok (.iload 5, 2) := by decide +kernel
theorem dL_law_308 : decode cL_law 308 = .ok (.iconst 3, 1) := by decide +kernel
theorem dL_law_309 : decode cL_law 309 = .ok (.if_icmp .ne 63, 3) := by decide +kernel
theorem dL_law_312 : decode cL_law 312 = .ok (.aload_n 1, 1) := by decide +kernel
theorem dL_law_313 : decode cL_law 313 = .ok (.iload 7, 2) := by decide +kernel
theorem dL_law_315 : decode cL_law 315 = .ok (.iload 4, 2) := by decide +kernel
theorem dL_law_317 : decode cL_law 317 = .ok (.bipush 16, 2) := by decide +kernel
theorem dL_law_319 : decode cL_law 319 = .ok (.invokestatic 57, 3) := by decide +kernel
theorem dL_law_322 : decode cL_law 322 = .ok (.invokevirtual 76, 3) := by decide +kernel
theorem dL_law_325 : decode cL_law 325 = .ok (.aload_n 1, 1) := by decide +kernel
theorem dL_law_326 : decode cL_law 326 = .ok (.iload 7, 2) := by decide +kernel
theorem dL_law_328 : decode cL_law 328 = .ok (.iconst 5, 1) := by decide +kernel
theorem dL_law_329 : decode cL_law 329 = .ok (.invokevirtual 15, 3) := by decide +kernel
theorem dL_law_332 : decode cL_law 332 = .ok (.if_icmp .ne 34, 3) := by decide +kernel
theorem dL_law_335 : decode cL_law 335 = .ok (.aload_n 1, 1) := by decide +kernel
theorem dL_law_336 : decode cL_law 336 = .ok (.iload 7, 2) := by decide +kernel
theorem dL_law_338 : decode cL_law 338 = .ok (.iconst 3, 1) := by decide +kernel
theorem dL_law_339 : decode cL_law 339 = .ok (.invokevirtual 15, 3) := by decide +kernel
theorem dL_law_342 : decode cL_law 342 = .ok (.iload 4, 2) := by decide +kernel
theorem dL_law_344 : decode cL_law 344 = .ok (.bipush 16, 2) := by decide +kernel
theorem dL_law_346 : decode cL_law 346 = .ok (.invokestatic 57, 3) := by decide +kernel
theorem dL_law_349 : decode cL_law 349 = .ok (.if_icmp .ne 17, 3) := by decide +kernel
theorem dL_law_352 : decode cL_law 352 = .ok (.aload_n 1, 1) := by decide +kernel
theorem dL_law_353 : decode cL_law 353 = .ok (.iconst 3, 1) := by decide +kernel
theorem dL_law_354 : decode cL_law 354 = .ok (.invokevirtual 9, 3) := by decide +kernel
theorem dL_law_357 : decode cL_law 357 = .ok (.iload 8, 2) := by decide +kernel
theorem dL_law_359 : decode cL_law 359 = .ok (.if_icmp .ne 7, 3) := by decide +kernel
theorem dL_law_362 : decode cL_law 362 = .ok (.iconst 1, 1) := by decide +kernel
theorem dL_law_363 : decode cL_law 363 = .ok (.goto 4, 3) := by decide +kernel
theorem dL_law_366 : decode cL_law 366 = .ok (.iconst 0, 1) := by decide +kernel
theorem dL_law_367 : decode cL_law 367 = .ok (.istore 9, 2) := by decide +kernel
theorem dL_law_369 : decode cL_law 369 = .ok (.goto 537, 3) := by decide +kernel
theorem dL_law_372 : decode cL_law 372 = .ok (.iload 5, 2) := by decide +kernel
theorem dL_law_374 : decode cL_law 374 = .ok (.bipush 6, 2) := by decide +kernel
theorem dL_law_376 : decode cL_law 376 = .ok (.if_icmp .ge 59, 3) := by decide +kernel
theorem dL_law_379 : decode cL_law 379 = .ok (.aload_n 1, 1) := by decide +kernel
theorem dL_law_380 : decode cL_law 380 = .ok (.iload 7, 2) := by decide +kernel
theorem dL_law_382 : decode cL_law 382 = .ok (.iconst 0, 1) := by decide +kernel
theorem dL_law_383 : decode cL_law 383 = .ok (.invokevirtual 15, 3) := by decide +kernel
theorem dL_law_386 : decode cL_law 386 = .ok (.istore 10, 2) := by decide +kernel
theorem dL_law_388 : decode cL_law 388 = .ok (.aload_n 1, 1) := by decide +kernel
theorem dL_law_389 : decode cL_law 389 = .ok (.iload 7, 2) := by decide +kernel
theorem dL_law_391 : decode cL_law 391 = .ok (.iload 4, 2) := by decide +kernel
theorem dL_law_393 : decode cL_law 393 = .ok (.sipush 256, 3) := by decide +kernel
theorem dL_law_396 : decode cL_law 396 = .ok (.invokestatic 57, 3) := by decide +kernel
theorem dL_law_399 : decode cL_law 399 = .ok (.invokevirtual 79, 3) := by decide +kernel
theorem dL_law_402 : decode cL_law 402 = .ok (.iload 10, 2) := by decide +kernel
theorem dL_law_404 : decode cL_law 404 = .ok (.if_icmp .ne 25, 3) := by decide +kernel
theorem dL_law_407 : decode cL_law 407 = .ok (.aload_n 1, 1) := by decide +kernel
theorem dL_law_408 : decode cL_law 408 = .ok (.iload 7, 2) := by decide +kernel
theorem dL_law_410 : decode cL_law 410 = .ok (.iconst 0, 1) := by decide +kernel
theorem dL_law_411 : decode cL_law 411 = .ok (.invokevirtual 15, 3) := by decide +kernel
theorem dL_law_414 : decode cL_law 414 = .ok (.iload 4, 2) := by decide +kernel
theorem dL_law_416 : decode cL_law 416 = .ok (.sipush 256, 3) := by decide +kernel
theorem dL_law_419 : decode cL_law 419 = .ok (.invokestatic 57, 3) := by decide +kernel
theorem dL_law_422 : decode cL_law 422 = .ok (.if_icmp .ne 7, 3) := by decide +kernel
theorem dL_law_425 : decode cL_law 425 = .ok (.iconst 1, 1) := by decide +kernel
theorem dL_law_426 : decode cL_law 426 = .ok (.goto 4, 3) := by decide +kernel
theorem dL_law_429 : decode cL_law 429 = .ok (.iconst 0, 1) := by decide +kernel
theorem dL_law_430 : decode cL_law 430 = .ok (.istore 9, 2) := by decide +kernel
theorem dL_law_432 : decode cL_law 432 = .ok (.goto 474, 3) := by decide +kernel
theorem dL_law_435 : decode cL_law 435 = .ok (.iload 5, 2) := by decide +kernel
theorem dL_law_437 : decode cL_law 437 = .ok (.bipush 6, 2) := by decide +kernel
theorem dL_law_439 : decode cL_law 439 = .ok (.if_icmp .ne 55, 3) := by decide +kernel
theorem dL_law_442 : decode cL_law 442 = .ok (.aload_n 1, 1) := by decide +kernel
theorem dL_law_443 : decode cL_law 443 = .ok (.iload 7, 2) := by decide +kernel
theorem dL_law_445 : decode cL_law 445 = .ok (.iconst 4, 1) := by decide +kernel
theorem dL_law_446 : decode cL_law 446 = .ok (.invokevirtual 15, 3) := by decide +kernel
theorem dL_law_449 : decode cL_law 449 = .ok (.istore 10, 2) := by decide +kernel
theorem dL_law_451 : decode cL_law 451 = .ok (.aload_n 1, 1) := by decide +kernel
theorem dL_law_452 : decode cL_law 452 = .ok (.iload 7, 2) := by decide +kernel
theorem dL_law_454 : decode cL_law 454 = .ok (.iload 4, 2) := by decide +kernel
theorem dL_law_456 : decode cL_law 456 = .ok (.iconst 4, 1) := by decide +kernel
theorem dL_law_457 : decode cL_law 457 = .ok (.invokestatic 57, 3) := by decide +kernel
theorem dL_law_460 : decode cL_law 460 = .ok (.invokevirtual 82, 3) := by decide +kernel
theorem dL_law_463 : decode cL_law 463 = .ok (.iload 10, 2) := by decide +kernel
theorem dL_law_465 : decode cL_law 465 = .ok (.if_icmp .ne 23, 3) := by decide +kernel
theorem dL_law_468 : decode cL_law 468 = .ok (.aload_n 1, 1) := by decide +kernel
theorem dL_law_469 : decode cL_law 469 = .ok (.iload 7, 2) := by decide +kernel
theorem dL_law_471 : decode cL_law 471 = .ok (.iconst 4, 1) := by decide +kernel
theorem dL_law_472 : decode cL_law 472 = .ok (.invokevirtual 15, 3) := by decide +kernel
theorem dL_law_475 : decode cL_law 475 = .ok (.iload 4, 2) := by decide +kernel
theorem dL_law_477 : decode cL_law 477 = .ok (.iconst 4, 1) := by decide +kernel
theorem dL_law_478 : decode cL_law 478 = .ok (.invokestatic 57, 3) := by decide +kernel
theorem dL_law_481 : decode cL_law 481 = .ok (.if_icmp .ne 7, 3) := by decide +kernel
theorem dL_law_484 : decode cL_law 484 = .ok (.iconst 1, 1) := by decide +kernel
theorem dL_law_485 : decode cL_law 485 = .ok (.goto 4, 3) := by decide +kernel
theorem dL_law_488 : decode cL_law 488 = .ok (.iconst 0, 1) := by decide +kernel
theorem dL_law_489 : decode cL_law 489 = .ok (.istore 9, 2) := by decide +kernel
theorem dL_law_491 : decode cL_law 491 = .ok (.goto 415, 3) := by decide +kernel
theorem dL_law_494 : decode cL_law 494 = .ok (.iload 5, 2) := by decide +kernel
theorem dL_law_496 : decode cL_law 496 = .ok (.bipush 7, 2) := by decide +kernel
theorem dL_law_498 : decode cL_law 498 = .ok (.if_icmp .ne 54, 3) := by decide +kernel
theorem dL_law_501 : decode cL_law 501 = .ok (.iconst 1, 1) := by decide +kernel
theorem dL_law_502 : decode cL_law 502 = .ok (.iload_n 3, 1) := by decide +kernel
theorem dL_law_503 : decode cL_law 503 = .ok (.iconst 3, 1) := by decide +kernel
theorem dL_law_504 : decode cL_law 504 = .ok (.invokestatic 57, 3) := by decide +kernel
theorem dL_law_507 : decode cL_law 507 = .ok (.iadd, 1) := by decide +kernel
theorem dL_law_508 : decode cL_law 508 = .ok (.istore 10, 2) := by decide +kernel
theorem dL_law_510 : decode cL_law 510 = .ok (.aload_n 1, 1) := by decide +kernel
theorem dL_law_511 : decode cL_law 511 = .ok (.iload 10, 2) := by decide +kernel
theorem dL_law_513 : decode cL_law 513 = .ok (.iconst 1, 1) := by decide +kernel
theorem dL_law_514 : decode cL_law 514 = .ok (.iload 4, 2) := by decide +kernel
theorem dL_law_516 : decode cL_law 516 = .ok (.iconst 4, 1) := by decide +kernel
theorem dL_law_517 : decode cL_law 517 = .ok (.invokestatic 57, 3) := by decide +kernel
theorem dL_law_520 : decode cL_law 520 = .ok (.iadd, 1) := by decide +kernel
theorem dL_law_521 : decode cL_law 521 = .ok (.iload 4, 2) := by decide +kernel
theorem dL_law_523 : decode cL_law 523 = .ok (.iconst 3, 1) := by decide +kernel
theorem dL_law_524 : decode cL_law 524 = .ok (.ishr, 1) := by decide +kernel
theorem dL_law_525 : decode cL_law 525 = .ok (.iconst 4, 1) := by decide +kernel
theorem dL_law_526 : decode cL_law 526 = .ok (.invokestatic 57, 3) := by decide +kernel
theorem dL_law_529 : decode cL_law 529 = .ok (.invokevirtual 85, 3) := by decide +kernel
theorem dL_law_532 : decode cL_law 532 = .ok (.aload_n 1, 1) := by decide +kernel
theorem dL_law_533 : decode cL_law 533 = .ok (.iload 10, 2) := by decide +kernel
theorem dL_law_535 : decode cL_law 535 = .ok (.iconst 3, 1) := by decide +kernel
theorem dL_law_536 : decode cL_law 536 = .ok (.invokevirtual 28, 3) := by decide +kernel
theorem dL_law_539 : decode cL_law 539 = .ok (.if_icmp .ne 7, 3) := by decide +kernel
theorem dL_law_542 : decode cL_law 542 = .ok (.iconst 1, 1) := by decide +kernel
theorem dL_law_543 : decode cL_law 543 = .ok (.goto 4, 3) := by decide +kernel
theorem dL_law_546 : decode cL_law 546 = .ok (.iconst 0, 1) := by decide +kernel
theorem dL_law_547 : decode cL_law 547 = .ok (.istore 9, 2) := by decide +kernel
theorem dL_law_549 : decode cL_law 549 = .ok (.goto 357, 3) := by decide +kernel
theorem dL_law_552 : decode cL_law 552 = .ok (.iload 5, 2) := by decide +kernel
theorem dL_law_554 : decode cL_law 554 = .ok (.bipush 8, 2) := by decide +kernel
theorem dL_law_556 : decode cL_law 556 = .ok (.if_icmp .ne 106, 3) := by decide +kernel
theorem dL_law_559 : decode cL_law 559 = .ok (.iload_n 3, 1) := by decide +kernel
theorem dL_law_560 : decode cL_law 560 = .ok (.iconst 3, 1) := by decide +kernel
theorem dL_law_561 : decode cL_law 561 = .ok (.invokestatic 57, 3) := by decide +kernel
theorem dL_law_564 : decode cL_law 564 = .ok (.istore 10, 2) := by decide +kernel
theorem dL_law_566 : decode cL_law 566 = .ok (.aload_n 1, 1) := by decide +kernel
theorem dL_law_567 : decode cL_law 567 = .ok (.bipush 9, 2) := by decide +kernel
theorem dL_law_569 : decode cL_law 569 = .ok (.iload 10, 2) := by decide +kernel
theorem dL_law_571 : decode cL_law 571 = .ok (.iadd, 1) := by decide +kernel
theorem dL_law_572 : decode cL_law 572 = .ok (.invokevirtual 9, 3) := by decide +kernel
theorem dL_law_575 : decode cL_law 575 = .ok (.istore 11, 2) := by decide +kernel
theorem dL_law_577 : decode cL_law 577 = .ok (.iload 10, 2) := by decide +kernel
theorem dL_law_579 : decode cL_law 579 = .ok (.ifCond .ne 15, 3) := by decide +kernel
theorem dL_law_582 : decode cL_law 582 = .ok (.iconst 2, 1) := by decide +kernel
theorem dL_law_583 : decode cL_law 583 = .ok (.iload 4, 2) := by decide +kernel
theorem dL_law_585 : decode cL_law 585 = .ok (.bipush 49, 2) := by decide +kernel
theorem dL_law_587 : decode cL_law 587 = .ok (.invokestatic 57, 3) := by decide +kernel
theorem dL_law_590 : decode cL_law 590 = .ok (.iadd, 1) := by decide +kernel
theorem dL_law_591 : decode cL_law 591 = .ok (.goto 32, 3) := by decide +kernel
theorem dL_law_594 : decode cL_law 594 = .ok (.iload 10, 2) := by decide +kernel
theorem dL_law_596 : decode cL_law 596 = .ok (.iconst 1, 1) := by decide +kernel
theorem dL_law_597 : decode cL_law 597 = .ok (.if_icmp .ne 16, 3) := by decide +kernel
theorem dL_law_600 : decode cL_law 600 = .ok (.iconst 1, 1) := by decide +kernel
theorem dL_law_601 : decode cL_law 601 = .ok (.iload 4, 2) := by decide +kernel
theorem dL_law_603 : decode cL_law 603 = .ok (.sipush 1000, 3) := by decide +kernel
theorem dL_law_606 : decode cL_law 606 = .ok (.invokestatic 57, 3) := by decide +kernel
theorem dL_law_609 : decode cL_law 609 = .ok (.iadd, 1) := by decide +kernel
theorem dL_law_610 : decode cL_law 610 = .ok (.goto 13, 3) := by decide +kernel
theorem dL_law_613 : decode cL_law 613 = .ok (.iconst 1, 1) := by decide +kernel
theorem dL_law_614 : decode cL_law 614 = .ok (.iload 4, 2) := by decide +kernel
theorem dL_law_616 : decode cL_law 616 = .ok (.sipush 300, 3) := by decide +kernel
theorem dL_law_619 : decode cL_law 619 = .ok (.invokestatic 57, 3) := by decide +kernel
theorem dL_law_622 : decode cL_law 622 = .ok (.iadd, 1) := by decide +kernel
theorem dL_law_623 : decode cL_law 623 = .ok (.istore 12, 2) := by decide +kernel
theorem dL_law_625 : decode cL_law 625 = .ok (.aload_n 1, 1) := by decide +kernel
theorem dL_law_626 : decode cL_law 626 = .ok (.iload 10, 2) := by decide +kernel
theorem dL_law_628 : decode cL_law 628 = .ok (.iload 12, 2) := by decide +kernel
theorem dL_law_630 : decode cL_law 630 = .ok (.invokevirtual 88, 3) := by decide +kernel
theorem dL_law_633 : decode cL_law 633 = .ok (.iload 11, 2) := by decide +kernel
theorem dL_law_635 : decode cL_law 635 = .ok (.if_icmp .ne 21, 3) := by decide +kernel
theorem dL_law_638 : decode cL_law 638 = .ok (.aload_n 1, 1) := by decide +kernel
theorem dL_law_639 : decode cL_law 639 = .ok (.bipush 9, 2) := by decide +kernel
theorem dL_law_641 : decode cL_law 641 = .ok (.iload 10, 2) := by decide +kernel
theorem dL_law_643 : decode cL_law 643 = .ok (.iadd, 1) := by decide +kernel
theorem dL_law_644 : decode cL_law 644 = .ok (.invokevirtual 9, 3) := by decide +kernel
theorem dL_law_647 : decode cL_law 647 = .ok (.iload 12, 2) := by decide +kernel
theorem dL_law_649 : decode cL_law 649 = .ok (.if_icmp .ne 7, 3) := by decide +kernel
theorem dL_law_652 : decode cL_law 652 = .ok (.iconst 1, 1) := by decide +kernel
theorem dL_law_653 : decode cL_law 653 = .ok (.goto 4, 3) := by decide +kernel
theorem dL_law_656 : decode cL_law 656 = .ok (.iconst 0, 1) := by decide +kernel
theorem dL_law_657 : decode cL_law 657 = .ok (.istore 9, 2) := by decide +kernel
theorem dL_law_659 : decode cL_law 659 = .ok (.goto 247, 3) := by decide +kernel
theorem dL_law_662 : decode cL_law 662 = .ok (.iload 5, 2) := by decide +kernel
theorem dL_law_664 : decode cL_law 664 = .ok (.bipush 9, 2) := by decide +kernel
theorem dL_law_666 : decode cL_law 666 = .ok (.if_icmp .ne 59, 3) := by decide +kernel
theorem dL_law_669 : decode cL_law 669 = .ok (.aload_n 1, 1) := by decide +kernel
theorem dL_law_670 : decode cL_law 670 = .ok (.iload 7, 2) := by decide +kernel
theorem dL_law_672 : decode cL_law 672 = .ok (.bipush 8, 2) := by decide +kernel
theorem dL_law_674 : decode cL_law 674 = .ok (.invokevirtual 15, 3) := by decide +kernel
theorem dL_law_677 : decode cL_law 677 = .ok (.invokestatic 23, 3) := by decide +kernel
theorem dL_law_680 : decode cL_law 680 = .ok (.istore 10, 2) := by decide +kernel
theorem dL_law_682 : decode cL_law 682 = .ok (.aload_n 1, 1) := by decide +kernel
theorem dL_law_683 : decode cL_law 683 = .ok (.iload 7, 2) := by decide +kernel
theorem dL_law_685 : decode cL_law 685 = .ok (.invokevirtual 91, 3) := by decide +kernel
theorem dL_law_688 : decode cL_law 688 = .ok (.iload 10, 2) := by decide +kernel
theorem dL_law_690 : decode cL_law 690 = .ok (.if_icmp .ne 29, 3) := by decide +kernel
theorem dL_law_693 : decode cL_law 693 = .ok (.aload_n 1, 1) := by decide +kernel
theorem dL_law_694 : decode cL_law 694 = .ok (.iload 7, 2) := by decide +kernel
theorem dL_law_696 : decode cL_law 696 = .ok (.bipush 8, 2) := by decide +kernel
theorem dL_law_698 : decode cL_law 698 = .ok (.invokevirtual 15, 3) := by decide +kernel
theorem dL_law_701 : decode cL_law 701 = .ok (.ifCond .ne 18, 3) := by decide +kernel
theorem dL_law_704 : decode cL_law 704 = .ok (.aload_n 1, 1) := by decide +kernel
theorem dL_law_705 : decode cL_law 705 = .ok (.iload 7, 2) := by decide +kernel
theorem dL_law_707 : decode cL_law 707 = .ok (.bipush 9, 2) := by decide +kernel
theorem dL_law_709 : decode cL_law 709 = .ok (.invokevirtual 15, 3) := by decide +kernel
theorem dL_law_712 : decode cL_law 712 = .ok (.ifCond .ne 7, 3) := by decide +kernel
theorem dL_law_715 : decode cL_law 715 = .ok (.iconst 1, 1) := by decide +kernel
theorem dL_law_716 : decode cL_law 716 = .ok (.goto 4, 3) := by decide +kernel
theorem dL_law_719 : decode cL_law 719 = .ok (.iconst 0, 1) := by decide +kernel
theorem dL_law_720 : decode cL_law 720 = .ok (.istore 9, 2) := by decide +kernel
theorem dL_law_722 : decode cL_law 722 = .ok (.goto 184, 3) := by decide +kernel
theorem dL_law_725 : decode cL_law 725 = .ok (.iload 5, 2) := by decide +kernel
theorem dL_law_727 : decode cL_law 727 = .ok (.bipush 10, 2) := by decide +kernel
theorem dL_law_729 : decode cL_law 729 = .ok (.if_icmp .ne 51, 3) := by decide +kernel
theorem dL_law_732 : decode cL_law 732 = .ok (.aload_n 1, 1) := by decide +kernel
theorem dL_law_733 : decode cL_law 733 = .ok (.bipush 6, 2) := by decide +kernel
theorem dL_law_735 : decode cL_law 735 = .ok (.invokevirtual 9, 3) := by decide +kernel
theorem dL_law_738 : decode cL_law 738 = .ok (.istore 10, 2) := by decide +kernel
theorem dL_law_740 : decode cL_law 740 = .ok (.aload_n 1, 1) := by decide +kernel
theorem dL_law_741 : decode cL_law 741 = .ok (.iload 4, 2) := by decide +kernel
theorem dL_law_743 : decode cL_law 743 = .ok (.iconst 5, 1) := by decide +kernel
theorem dL_law_744 : decode cL_law 744 = .ok (.invokestatic 57, 3) := by decide +kernel
theorem dL_law_747 : decode cL_law 747 = .ok (.invokevirtual 94, 3) := by decide +kernel
theorem dL_law_750 : decode cL_law 750 = .ok (.iload 10, 2) := by decide +kernel
theorem dL_law_752 : decode cL_law 752 = .ok (.if_icmp .ne 22, 3) := by decide +kernel
theorem dL_law_755 : decode cL_law 755 = .ok (.aload_n 1, 1) := by decide +kernel
theorem dL_law_756 : decode cL_law 756 = .ok (.bipush 6, 2) := by decide +kernel
theorem dL_law_758 : decode cL_law 758 = .ok (.invokevirtual 9, 3) := by decide +kernel
theorem dL_law_761 : decode cL_law 761 = .ok (.iload 4, 2) := by decide +kernel
theorem dL_law_763 : decode cL_law 763 = .ok (.iconst 5, 1) := by decide +kernel
theorem dL_law_764 : decode cL_law 764 = .ok (.invokestatic 57, 3) := by decide +kernel
theorem dL_law_767 : decode cL_law 767 = .ok (.if_icmp .ne 7, 3) := by decide +kernel
theorem dL_law_770 : decode cL_law 770 = .ok (.iconst 1, 1) := by decide +kernel
theorem dL_law_771 : decode cL_law 771 = .ok (.goto 4, 3) := by decide +kernel
theorem dL_law_774 : decode cL_law 774 = .ok (.iconst 0, 1) := by decide +kernel
theorem dL_law_775 : decode cL_law 775 = .ok (.istore 9, 2) := by decide +kernel
theorem dL_law_777 : decode cL_law 777 = .ok (.goto 129, 3) := by decide +kernel
theorem dL_law_780 : decode cL_law 780 = .ok (.iload 5, 2) := by decide +kernel
theorem dL_law_782 : decode cL_law 782 = .ok (.bipush 13, 2) := by decide +kernel
theorem dL_law_784 : decode cL_law 784 = .ok (.if_icmp .ge 12, 3) := by decide +kernel
theorem dL_law_787 : decode cL_law 787 = .ok (.aload_n 1, 1) := by decide +kernel
theorem dL_law_788 : decode cL_law 788 = .ok (.invokestatic 108, 3) := by decide +kernel
theorem dL_law_791 : decode cL_law 791 = .ok (.istore 9, 2) := by decide +kernel
theorem dL_law_793 : decode cL_law 793 = .ok (.goto 113, 3) := by decide +kernel
theorem dL_law_796 : decode cL_law 796 = .ok (.iload 5, 2) := by decide +kernel
theorem dL_law_798 : decode cL_law 798 = .ok (.bipush 13, 2) := by decide +kernel
theorem dL_law_800 : decode cL_law 800 = .ok (.if_icmp .ne 38, 3) := by decide +kernel
theorem dL_law_803 : decode cL_law 803 = .ok (.aload_n 1, 1) := by decide +kernel
theorem dL_law_804 : decode cL_law 804 = .ok (.iload 7, 2) := by decide +kernel
theorem dL_law_806 : decode cL_law 806 = .ok (.iload 4, 2) := by decide +kernel
theorem dL_law_808 : decode cL_law 808 = .ok (.bipush 120, 2) := by decide +kernel
theorem dL_law_810 : decode cL_law 810 = .ok (.invokestatic 57, 3) := by decide +kernel
theorem dL_law_813 : decode cL_law 813 = .ok (.invokestatic 112, 3) := by decide +kernel
theorem dL_law_816 : decode cL_law 816 = .ok (.ifCond .eq 16, 3) := by decide +kernel
theorem dL_law_819 : decode cL_law 819 = .ok (.aload_n 1, 1) := by decide +kernel
theorem dL_law_820 : decode cL_law 820 = .ok (.iload 7, 2) := by decide +kernel
theorem dL_law_822 : decode cL_law 822 = .ok (.invokestatic 116, 3) := by decide +kernel
theorem dL_law_825 : decode cL_law 825 = .ok (.ifCond .eq 7, 3) := by decide +kernel
theorem dL_law_828 : decode cL_law 828 = .ok (.iconst 1, 1) := by decide +kernel
theorem dL_law_829 : decode cL_law 829 = .ok (.goto 4, 3) := by decide +kernel
theorem dL_law_832 : decode cL_law 832 = .ok (.iconst 0, 1) := by decide +kernel
theorem dL_law_833 : decode cL_law 833 = .ok (.istore 9, 2) := by decide +kernel
theorem dL_law_835 : decode cL_law 835 = .ok (.goto 71, 3) := by decide +kernel
theorem dL_law_838 : decode cL_law 838 = .ok (.iload 5, 2) := by decide +kernel
theorem dL_law_840 : decode cL_law 840 = .ok (.bipush 14, 2) := by decide +kernel
theorem dL_law_842 : decode cL_law 842 = .ok (.if_icmp .ne 30, 3) := by decide +kernel
theorem dL_law_845 : decode cL_law 845 = .ok (.aload_n 1, 1) := by decide +kernel
theorem dL_law_846 : decode cL_law 846 = .ok (.iconst 1, 1) := by decide +kernel
theorem dL_law_847 : decode cL_law 847 = .ok (.iload 4, 2) := by decide +kernel
theorem dL_law_849 : decode cL_law 849 = .ok (.sipush 200, 3) := by decide +kernel
theorem dL_law_852 : decode cL_law 852 = .ok (.invokestatic 57, 3) := by decide +kernel
theorem dL_law_855 : decode cL_law 855 = .ok (.iadd, 1) := by decide +kernel
theorem dL_law_856 : decode cL_law 856 = .ok (.invokevirtual 41, 3) := by decide +kernel
theorem dL_law_859 : decode cL_law 859 = .ok (.ifCond .lt 7, 3) := by decide +kernel
theorem dL_law_862 : decode cL_law 862 = .ok (.iconst 1, 1) := by decide +kernel
theorem dL_law_863 : decode cL_law 863 = .ok (.goto 4, 3) := by decide +kernel
theorem dL_law_866 : decode cL_law 866 = .ok (.iconst 0, 1) := by decide +kernel
theorem dL_law_867 : decode cL_law 867 = .ok (.istore 9, 2) := by decide +kernel
theorem dL_law_869 : decode cL_law 869 = .ok (.goto 37, 3) := by decide +kernel
theorem dL_law_872 : decode cL_law 872 = .ok (.iload 5, 2) := by decide +kernel
theorem dL_law_874 : decode cL_law 874 = .ok (.bipush 15, 2) := by decide +kernel
theorem dL_law_876 : decode cL_law 876 = .ok (.if_icmp .ne 21, 3) := by decide +kernel
theorem dL_law_879 : decode cL_law 879 = .ok (.aload_n 1, 1) := by decide +kernel
theorem dL_law_880 : decode cL_law 880 = .ok (.iconst 1, 1) := by decide +kernel
theorem dL_law_881 : decode cL_law 881 = .ok (.iload 4, 2) := by decide +kernel
theorem dL_law_883 : decode cL_law 883 = .ok (.bipush 6, 2) := by decide +kernel
theorem dL_law_885 : decode cL_law 885 = .ok (.invokestatic 57, 3) := by decide +kernel
theorem dL_law_888 : decode cL_law 888 = .ok (.iadd, 1) := by decide +kernel
theorem dL_law_889 : decode cL_law 889 = .ok (.invokestatic 120, 3) := by decide +kernel
theorem dL_law_892 : decode cL_law 892 = .ok (.istore 9, 2) := by decide +kernel
theorem dL_law_894 : decode cL_law 894 = .ok (.goto 12, 3) := by decide +kernel
theorem dL_law_897 : decode cL_law 897 = .ok (.aload_n 1, 1) := by decide +kernel
theorem dL_law_898 : decode cL_law 898 = .ok (.iload_n 3, 1) := by decide +kernel
theorem dL_law_899 : decode cL_law 899 = .ok (.iload 4, 2) := by decide +kernel
theorem dL_law_901 : decode cL_law 901 = .ok (.invokestatic 123, 3) := by decide +kernel
theorem dL_law_904 : decode cL_law 904 = .ok (.istore 9, 2) := by decide +kernel
theorem dL_law_906 : decode cL_law 906 = .ok (.iload 9, 2) := by decide +kernel
theorem dL_law_908 : decode cL_law 908 = .ok (.ifCond .eq 17, 3) := by decide +kernel
theorem dL_law_911 : decode cL_law 911 = .ok (.aload_n 1, 1) := by decide +kernel
theorem dL_law_912 : decode cL_law 912 = .ok (.invokestatic 126, 3) := by decide +kernel
theorem dL_law_915 : decode cL_law 915 = .ok (.ifCond .eq 10, 3) := by decide +kernel
theorem dL_law_918 : decode cL_law 918 = .ok (.aload_n 1, 1) := by decide +kernel
theorem dL_law_919 : decode cL_law 919 = .ok (.invokestatic 129, 3) := by decide +kernel
theorem dL_law_922 : decode cL_law 922 = .ok (.ifCond .ne 5, 3) := by decide +kernel
theorem dL_law_925 : decode cL_law 925 = .ok (.iconst 0, 1) := by decide +kernel
theorem dL_law_926 : decode cL_law 926 = .ok (.ireturn, 1) := by decide +kernel
theorem dL_law_927 : decode cL_law 927 = .ok (.iinc 2 1, 3) := by decide +kernel
theorem dL_law_930 : decode cL_law 930 = .ok (.goto (-920), 3) := by decide +kernel
theorem dL_law_933 : decode cL_law 933 = .ok (.aload_n 1, 1) := by decide +kernel
theorem dL_law_934 : decode cL_law 934 = .ok (.invokestatic 108, 3) := by decide +kernel
theorem dL_law_937 : decode cL_law 937 = .ok (.ifCond .eq 14, 3) := by decide +kernel
theorem dL_law_940 : decode cL_law 940 = .ok (.aload_n 1, 1) := by decide +kernel
theorem dL_law_941 : decode cL_law 941 = .ok (.invokestatic 132, 3) := by decide +kernel
theorem dL_law_944 : decode cL_law 944 = .ok (.ifCond .eq 7, 3) := by decide +kernel
theorem dL_law_947 : decode cL_law 947 = .ok (.iconst 1, 1) := by decide +kernel
theorem dL_law_948 : decode cL_law 948 = .ok (.goto 4, 3) := by decide +kernel
theorem dL_law_951 : decode cL_law 951 = .ok (.iconst 0, 1) := by decide +kernel
theorem dL_law_952 : decode cL_law 952 = .ok (.ireturn, 1) := by decide +kernel
abbrev vwCl : List vw_C := [(RX0, TX0, 9), (RX1, TX1, 3), (RX2, TX2, 2), (RX3, TX3, 13), (RX4, TX4, 4), (RX5, TX5, 5)]
