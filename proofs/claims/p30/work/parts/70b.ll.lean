set_option maxRecDepth 20000 in
theorem ggL_law_L_ticks_c : GoodIn wsL_law ([.code yL_ticks cL_ticks 16 (some .boolean)] : List Cond) := goodIn_r _ [280] (by decide +kernel) (by decide +kernel)
set_option maxRecDepth 20000 in
theorem ggL_law_L_ticks_wsL_ticks_r1 : GoodIn wsL_law wsL_ticks_r1 := goodIn_r _ [33, 94, 95, 96, 2, 97, 12, 98, 99, 100, 101, 102, 103, 104, 17, 105, 23, 106, 107, 108, 109, 11, 110, 32] (by decide +kernel) (by decide +kernel)
set_option maxRecDepth 20000 in
theorem ggL_law_L_ticks_wsL_ticks_r2 : GoodIn wsL_law wsL_ticks_r2 := goodIn_r _ [111, 112, 113, 114, 31, 115, 116, 117, 118, 119, 120, 121, 122, 123, 124, 125, 126, 127, 128, 129, 130, 131, 132, 281] (by decide +kernel) (by decide +kernel)
set_option maxRecDepth 20000 in
theorem ggL_law_L_ticks_wsL_ticks_r3 : GoodIn wsL_law wsL_ticks_r3 := goodIn_r _ [282, 87, 283, 179, 180, 181, 182, 183, 184, 185, 186, 187, 188, 189, 190, 191, 192, 193, 138, 139, 194, 195, 196, 44] (by decide +kernel) (by decide +kernel)
set_option maxRecDepth 20000 in
theorem ggL_law_L_ticks_wsL_ticks_r4 : GoodIn wsL_law wsL_ticks_r4 := goodIn_r _ [197, 57, 198, 199, 200, 201, 55, 56, 202, 203, 204, 205, 206, 49, 207, 208, 209, 210, 211, 212, 213, 214, 215, 251] (by decide +kernel) (by decide +kernel)
set_option maxRecDepth 20000 in
theorem ggL_law_L_ticks_wsL_ticks_r5 : GoodIn wsL_law wsL_ticks_r5 := goodIn_r _ [252, 253, 254, 244, 245, 137, 255, 256, 257, 258, 34, 35, 159, 246, 247, 248, 249, 250, 284, 285, 286, 287, 13, 288] (by decide +kernel) (by decide +kernel)
set_option maxRecDepth 20000 in
theorem ggL_law_L_ticks_wsL_ticks_r6 : GoodIn wsL_law wsL_ticks_r6 := goodIn_r _ [151, 152, 153, 154, 155, 156, 157, 42, 158, 160, 161, 162, 163, 164, 165, 166, 167, 168, 58, 59, 60, 65, 169, 50] (by decide +kernel) (by decide +kernel)
set_option maxRecDepth 20000 in
theorem ggL_law_L_ticks_wsL_ticks_r7 : GoodIn wsL_law wsL_ticks_r7 := goodIn_r _ [289, 290, 291, 292, 293, 294, 295, 296, 297, 298, 299, 300, 301, 302, 303, 304, 305, 306, 307, 308, 309, 310, 311, 312] (by decide +kernel) (by decide +kernel)
set_option maxRecDepth 20000 in
theorem ggL_law_L_ticks_wsL_ticks_r8 : GoodIn wsL_law wsL_ticks_r8 := goodIn_r _ [313, 314, 315, 316, 317, 318, 148, 319, 320, 321, 322, 147, 149, 323, 324, 325, 326, 327, 328, 329, 330, 175, 176, 177] (by decide +kernel) (by decide +kernel)
set_option maxRecDepth 20000 in
theorem ggL_law_L_ticks_wsL_ticks_r9 : GoodIn wsL_law wsL_ticks_r9 := goodIn_r _ [178, 331, 265, 266, 267, 332, 333, 334, 335, 336, 337, 338, 339, 340, 341, 342, 343, 344, 345, 346, 347, 348, 349, 350] (by decide +kernel) (by decide +kernel)
set_option maxRecDepth 20000 in
theorem ggL_law_L_ticks_wsL_ticks_r10 : GoodIn wsL_law wsL_ticks_r10 := goodIn_r _ [351, 352, 353, 140, 141, 142, 16, 143, 71, 144, 145, 146, 150] (by decide +kernel) (by decide +kernel)
set_option maxRecDepth 20000 in
theorem ggL_law_L_ticks_wsX50 : GoodIn wsL_law wsX50 := goodIn_r _ [440, 441, 442, 443, 444] (by decide +kernel) (by decide +kernel)
set_option maxRecDepth 20000 in
theorem ggL_law_L_ticks_wsX30 : GoodIn wsL_law wsX30 := goodIn_r _ [445, 446, 447, 448, 449, 450, 451, 452, 453, 454, 455, 456, 457] (by decide +kernel) (by decide +kernel)
set_option maxRecDepth 20000 in
theorem ggL_law_L_ticks_wsX10 : GoodIn wsL_law wsX10 := goodIn_r _ [458, 459, 460] (by decide +kernel) (by decide +kernel)
set_option maxRecDepth 20000 in
theorem ggL_law_L_ticks_wsX40 : GoodIn wsL_law wsX40 := goodIn_r _ [461, 462, 463, 464] (by decide +kernel) (by decide +kernel)
set_option maxRecDepth 20000 in
theorem ggL_law_L_ticks_wsX00 : GoodIn wsL_law wsX00 := goodIn_r _ [467, 468, 469, 470, 471, 472, 473, 474, 475] (by decide +kernel) (by decide +kernel)
theorem ggL_law_L_ticks : GoodIn wsL_law wsL_ticks := goodIn_app ggL_law_L_ticks_c (goodIn_app (goodIn_app (goodIn_app (goodIn_app (goodIn_app (goodIn_app ggL_law_L_ticks_wsL_ticks_r1 (goodIn_app ggL_law_L_ticks_wsL_ticks_r2 (goodIn_app ggL_law_L_ticks_wsL_ticks_r3 (goodIn_app ggL_law_L_ticks_wsL_ticks_r4 (goodIn_app ggL_law_L_ticks_wsL_ticks_r5 (goodIn_app ggL_law_L_ticks_wsL_ticks_r6 (goodIn_app ggL_law_L_ticks_wsL_ticks_r7 (goodIn_app ggL_law_L_ticks_wsL_ticks_r8 (goodIn_app ggL_law_L_ticks_wsL_ticks_r9 ggL_law_L_ticks_wsL_ticks_r10))))))))) ggL_law_L_ticks_wsX50) ggL_law_L_ticks_wsX30) ggL_law_L_ticks_wsX10) ggL_law_L_ticks_wsX40) ggL_law_L_ticks_wsX00)
set_option maxRecDepth 20000 in
theorem gL_law_L_ticks : GoodIn wsL_law (va_wsS RL 108 yL_ticks wsL_ticks) := goodIn_app (goodIn_of _ (by decide +kernel)) ggL_law_L_ticks
set_option maxRecDepth 20000 in
theorem ggL_law_L_ahead_c : GoodIn wsL_law ([.code yL_ahead cL_ahead 5 (some .boolean)] : List Cond) := goodIn_r _ [356] (by decide +kernel) (by decide +kernel)
set_option maxRecDepth 20000 in
theorem ggL_law_L_ahead_wsL_ahead_r1 : GoodIn wsL_law wsL_ahead_r1 := goodIn_r _ [284, 285, 286, 2, 287, 12, 13, 190, 191, 192, 11, 193, 32, 31, 138, 139, 137, 288, 151, 152, 153, 34, 154, 155] (by decide +kernel) (by decide +kernel)
set_option maxRecDepth 20000 in
theorem ggL_law_L_ahead_wsL_ahead_r2 : GoodIn wsL_law wsL_ahead_r2 := goodIn_r _ [156, 157, 35, 42, 158, 159, 120, 160, 161, 162, 163, 164, 165, 166, 167, 44, 168, 55, 56, 57, 58, 59, 60, 65] (by decide +kernel) (by decide +kernel)
set_option maxRecDepth 20000 in
theorem ggL_law_L_ahead_wsL_ahead_r3 : GoodIn wsL_law wsL_ahead_r3 := goodIn_r _ [49, 169, 50, 289, 290, 291, 292, 293, 294, 295, 296, 297, 298, 117, 118, 119, 115, 299, 300, 301, 302, 303, 125, 304] (by decide +kernel) (by decide +kernel)
set_option maxRecDepth 20000 in
theorem ggL_law_L_ahead_wsL_ahead_r4 : GoodIn wsL_law wsL_ahead_r4 := goodIn_r _ [305, 306, 307, 308, 250, 309, 199, 200, 201, 111, 112, 113, 114, 310, 256, 257, 258, 311, 312, 313, 314, 315, 316, 317] (by decide +kernel) (by decide +kernel)
set_option maxRecDepth 20000 in
theorem ggL_law_L_ahead_wsL_ahead_r5 : GoodIn wsL_law wsL_ahead_r5 := goodIn_r _ [318, 148, 319, 320, 321, 322, 147, 149, 126, 127, 128, 129, 130, 131, 132, 323, 324, 325, 326, 327, 328, 329, 330, 108] (by decide +kernel) (by decide +kernel)
set_option maxRecDepth 20000 in
theorem ggL_law_L_ahead_wsL_ahead_r6 : GoodIn wsL_law wsL_ahead_r6 := goodIn_r _ [109, 110, 175, 176, 177, 178, 116, 331, 350, 351, 352, 353, 17, 140, 141, 142, 16, 143, 71, 144, 145, 146, 150, 357] (by decide +kernel) (by decide +kernel)
set_option maxRecDepth 20000 in
theorem ggL_law_L_ahead_wsL_ahead_r7 : GoodIn wsL_law wsL_ahead_r7 := goodIn_r _ [358, 359, 360, 105, 361, 362, 363, 364] (by decide +kernel) (by decide +kernel)
set_option maxRecDepth 20000 in
theorem ggL_law_L_ahead_wsX50 : GoodIn wsL_law wsX50 := goodIn_r _ [440, 441, 442, 443, 444] (by decide +kernel) (by decide +kernel)
set_option maxRecDepth 20000 in
theorem ggL_law_L_ahead_wsX30 : GoodIn wsL_law wsX30 := goodIn_r _ [445, 446, 447, 448, 449, 450, 451, 452, 453, 454, 455, 456, 457] (by decide +kernel) (by decide +kernel)
set_option maxRecDepth 20000 in
theorem ggL_law_L_ahead_wsX00 : GoodIn wsL_law wsX00 := goodIn_r _ [467, 468, 469, 470, 471, 472, 473, 474, 475] (by decide +kernel) (by decide +kernel)
set_option maxRecDepth 20000 in
theorem ggL_law_L_ahead_wsX10 : GoodIn wsL_law wsX10 := goodIn_r _ [458, 459, 460] (by decide +kernel) (by decide +kernel)
theorem ggL_law_L_ahead : GoodIn wsL_law wsL_ahead := goodIn_app ggL_law_L_ahead_c (goodIn_app (goodIn_app (goodIn_app (goodIn_app (goodIn_app ggL_law_L_ahead_wsL_ahead_r1 (goodIn_app ggL_law_L_ahead_wsL_ahead_r2 (goodIn_app ggL_law_L_ahead_wsL_ahead_r3 (goodIn_app ggL_law_L_ahead_wsL_ahead_r4 (goodIn_app ggL_law_L_ahead_wsL_ahead_r5 (goodIn_app ggL_law_L_ahead_wsL_ahead_r6 ggL_law_L_ahead_wsL_ahead_r7)))))) ggL_law_L_ahead_wsX50) ggL_law_L_ahead_wsX30) ggL_law_L_ahead_wsX00) ggL_law_L_ahead_wsX10)
set_option maxRecDepth 20000 in
theorem gL_law_L_ahead : GoodIn wsL_law (va_wsS RL 112 yL_ahead wsL_ahead) := goodIn_app (goodIn_of _ (by decide +kernel)) ggL_law_L_ahead
set_option maxRecDepth 20000 in
theorem ggL_law_L_steady_c : GoodIn wsL_law ([.code yL_steady cL_steady 7 (some .boolean)] : List Cond) := goodIn_r _ [367] (by decide +kernel) (by decide +kernel)
set_option maxRecDepth 20000 in
theorem ggL_law_L_steady_wsL_steady_r1 : GoodIn wsL_law wsL_steady_r1 := goodIn_r _ [179, 180, 181, 2, 182, 12, 183, 184, 185, 186, 187, 104, 188, 189, 190, 191, 192, 11, 193, 32, 31, 138, 139, 194] (by decide +kernel) (by decide +kernel)
set_option maxRecDepth 20000 in
theorem ggL_law_L_steady_wsL_steady_r2 : GoodIn wsL_law wsL_steady_r2 := goodIn_r _ [195, 196, 44, 197, 57, 198, 199, 200, 201, 55, 56, 202, 112, 113, 114, 115, 203, 204, 205, 206, 49, 207, 208, 209] (by decide +kernel) (by decide +kernel)
set_option maxRecDepth 20000 in
theorem ggL_law_L_steady_wsL_steady_r3 : GoodIn wsL_law wsL_steady_r3 := goodIn_r _ [210, 211, 212, 213, 214, 215, 94, 95, 96, 97, 98, 99, 100, 101, 102, 103, 17, 105, 23, 106, 107, 108, 109, 110] (by decide +kernel) (by decide +kernel)
set_option maxRecDepth 20000 in
theorem ggL_law_L_steady_wsL_steady_r4 : GoodIn wsL_law wsL_steady_r4 := goodIn_r _ [111, 116, 117, 118, 119, 120, 121, 122, 123, 124, 125, 126, 127, 128, 129, 130, 131, 132, 368, 369, 370, 371, 372, 373] (by decide +kernel) (by decide +kernel)
set_option maxRecDepth 20000 in
theorem ggL_law_L_steady_wsL_steady_r5 : GoodIn wsL_law wsL_steady_r5 := goodIn_r _ [374, 375, 320, 321, 317, 318, 148, 319, 322, 147, 149, 376, 315, 316] (by decide +kernel) (by decide +kernel)
set_option maxRecDepth 20000 in
theorem ggL_law_L_steady_wsX50 : GoodIn wsL_law wsX50 := goodIn_r _ [440, 441, 442, 443, 444] (by decide +kernel) (by decide +kernel)
set_option maxRecDepth 20000 in
theorem ggL_law_L_steady_wsX00 : GoodIn wsL_law wsX00 := goodIn_r _ [467, 468, 469, 470, 471, 472, 473, 474, 475] (by decide +kernel) (by decide +kernel)
set_option maxRecDepth 20000 in
theorem ggL_law_L_steady_wsX30 : GoodIn wsL_law wsX30 := goodIn_r _ [445, 446, 447, 448, 449, 450, 451, 452, 453, 454, 455, 456, 457] (by decide +kernel) (by decide +kernel)
set_option maxRecDepth 20000 in
theorem ggL_law_L_steady_wsX10 : GoodIn wsL_law wsX10 := goodIn_r _ [458, 459, 460] (by decide +kernel) (by decide +kernel)
set_option maxRecDepth 20000 in
theorem ggL_law_L_steady_wsX40 : GoodIn wsL_law wsX40 := goodIn_r _ [461, 462, 463, 464] (by decide +kernel) (by decide +kernel)
theorem ggL_law_L_steady : GoodIn wsL_law wsL_steady := goodIn_app ggL_law_L_steady_c (goodIn_app (goodIn_app (goodIn_app (goodIn_app (goodIn_app (goodIn_app ggL_law_L_steady_wsL_steady_r1 (goodIn_app ggL_law_L_steady_wsL_steady_r2 (goodIn_app ggL_law_L_steady_wsL_steady_r3 (goodIn_app ggL_law_L_steady_wsL_steady_r4 ggL_law_L_steady_wsL_steady_r5)))) ggL_law_L_steady_wsX50) ggL_law_L_steady_wsX00) ggL_law_L_steady_wsX30) ggL_law_L_steady_wsX10) ggL_law_L_steady_wsX40)
set_option maxRecDepth 20000 in
theorem gL_law_L_steady : GoodIn wsL_law (va_wsS RL 116 yL_steady wsL_steady) := goodIn_app (goodIn_of _ (by decide +kernel)) ggL_law_L_steady
set_option maxRecDepth 20000 in
theorem ggL_law_L_frames_c : GoodIn wsL_law ([.code yL_frames cL_frames 7 (some .boolean)] : List Cond) := goodIn_r _ [379] (by decide +kernel) (by decide +kernel)
set_option maxRecDepth 20000 in
theorem ggL_law_L_frames_wsL_frames_r1 : GoodIn wsL_law wsL_frames_r1 := goodIn_r _ [94, 95, 96, 2, 97, 12, 98, 99, 100, 101, 102, 103, 104, 17, 105, 23, 106, 107, 108, 109, 11, 110, 32, 111] (by decide +kernel) (by decide +kernel)
set_option maxRecDepth 20000 in
theorem ggL_law_L_frames_wsL_frames_r2 : GoodIn wsL_law wsL_frames_r2 := goodIn_r _ [112, 113, 114, 31, 115, 116, 117, 118, 119, 120, 121, 122, 123, 124, 125, 126, 127, 128, 129, 130, 131, 132, 380, 381] (by decide +kernel) (by decide +kernel)
set_option maxRecDepth 20000 in
theorem ggL_law_L_frames_wsL_frames_r3 : GoodIn wsL_law wsL_frames_r3 := goodIn_r _ [382, 383, 137, 138, 139, 140, 141, 142, 16, 143, 71, 144, 145, 146, 147, 148, 149, 150, 151, 152, 153, 34, 154, 155] (by decide +kernel) (by decide +kernel)
set_option maxRecDepth 20000 in
theorem ggL_law_L_frames_wsL_frames_r4 : GoodIn wsL_law wsL_frames_r4 := goodIn_r _ [156, 157, 35, 42, 158, 159, 160, 161, 162, 163, 164, 165, 166, 167, 44, 168, 55, 56, 57, 58, 59, 60, 65, 49] (by decide +kernel) (by decide +kernel)
set_option maxRecDepth 20000 in
theorem ggL_law_L_frames_wsL_frames_r5 : GoodIn wsL_law wsL_frames_r5 := goodIn_r _ [169, 50, 289, 290, 291, 292, 293, 294, 295, 296, 297, 298, 299, 300, 301, 302, 303, 304, 305, 306, 307, 308, 250, 309] (by decide +kernel) (by decide +kernel)
set_option maxRecDepth 20000 in
theorem ggL_law_L_frames_wsL_frames_r6 : GoodIn wsL_law wsL_frames_r6 := goodIn_r _ [199, 200, 201, 310, 256, 257, 258, 311, 312, 313, 314, 315, 316, 317, 318, 319, 320, 321, 322, 323, 324, 325, 326, 327] (by decide +kernel) (by decide +kernel)
set_option maxRecDepth 20000 in
theorem ggL_law_L_frames_wsL_frames_r7 : GoodIn wsL_law wsL_frames_r7 := goodIn_r _ [328, 329, 330, 175, 176, 177, 178] (by decide +kernel) (by decide +kernel)
set_option maxRecDepth 20000 in
theorem ggL_law_L_frames_wsX50 : GoodIn wsL_law wsX50 := goodIn_r _ [440, 441, 442, 443, 444] (by decide +kernel) (by decide +kernel)
set_option maxRecDepth 20000 in
theorem ggL_law_L_frames_wsX30 : GoodIn wsL_law wsX30 := goodIn_r _ [445, 446, 447, 448, 449, 450, 451, 452, 453, 454, 455, 456, 457] (by decide +kernel) (by decide +kernel)
set_option maxRecDepth 20000 in
theorem ggL_law_L_frames_wsX10 : GoodIn wsL_law wsX10 := goodIn_r _ [458, 459, 460] (by decide +kernel) (by decide +kernel)
set_option maxRecDepth 20000 in
theorem ggL_law_L_frames_wsX40 : GoodIn wsL_law wsX40 := goodIn_r _ [461, 462, 463, 464] (by decide +kernel) (by decide +kernel)
set_option maxRecDepth 20000 in
theorem ggL_law_L_frames_wsX00 : GoodIn wsL_law wsX00 := goodIn_r _ [467, 468, 469, 470, 471, 472, 473, 474, 475] (by decide +kernel) (by decide +kernel)
theorem ggL_law_L_frames : GoodIn wsL_law wsL_frames := goodIn_app ggL_law_L_frames_c (goodIn_app (goodIn_app (goodIn_app (goodIn_app (goodIn_app (goodIn_app ggL_law_L_frames_wsL_frames_r1 (goodIn_app ggL_law_L_frames_wsL_frames_r2 (goodIn_app ggL_law_L_frames_wsL_frames_r3 (goodIn_app ggL_law_L_frames_wsL_frames_r4 (goodIn_app ggL_law_L_frames_wsL_frames_r5 (goodIn_app ggL_law_L_frames_wsL_frames_r6 ggL_law_L_frames_wsL_frames_r7)))))) ggL_law_L_frames_wsX50) ggL_law_L_frames_wsX30) ggL_law_L_frames_wsX10) ggL_law_L_frames_wsX40) ggL_law_L_frames_wsX00)
set_option maxRecDepth 20000 in
theorem gL_law_L_frames : GoodIn wsL_law (va_wsS RL 120 yL_frames wsL_frames) := goodIn_app (goodIn_of _ (by decide +kernel)) ggL_law_L_frames
