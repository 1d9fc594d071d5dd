set_option maxRecDepth 20000 in
theorem ggL_law_L_shows_c : GoodIn wsL_law ([.code yL_shows cL_shows 10 (some .boolean)] : List Cond) := goodIn_r _ [386] (by decide +kernel) (by decide +kernel)
set_option maxRecDepth 20000 in
theorem ggL_law_L_shows_wsL_shows_r1 : GoodIn wsL_law wsL_shows_r1 := goodIn_r _ [33, 94, 95, 96, 2, 97, 12, 98, 99, 100, 101, 102, 103, 104, 17, 105, 23, 106, 107, 108, 109, 11, 110, 32] (by decide +kernel) (by decide +kernel)
set_option maxRecDepth 20000 in
theorem ggL_law_L_shows_wsL_shows_r2 : GoodIn wsL_law wsL_shows_r2 := goodIn_r _ [111, 112, 113, 114, 31, 115, 116, 117, 118, 119, 120, 121, 122, 123, 124, 125, 126, 127, 128, 129, 130, 131, 132, 387] (by decide +kernel) (by decide +kernel)
set_option maxRecDepth 20000 in
theorem ggL_law_L_shows_wsL_shows_r3 : GoodIn wsL_law wsL_shows_r3 := goodIn_r _ [388, 389, 390, 90, 91, 87, 92, 93, 391, 392, 393, 394, 395, 396, 397, 22, 398, 399, 400, 401, 402, 403, 77, 404] (by decide +kernel) (by decide +kernel)
set_option maxRecDepth 20000 in
theorem ggL_law_L_shows_wsL_shows_r4 : GoodIn wsL_law wsL_shows_r4 := goodIn_r _ [405, 406, 407, 408, 409, 410, 411, 412, 413, 78, 414, 415, 416, 215, 214, 140, 141, 142, 16, 143, 71, 144, 145, 146] (by decide +kernel) (by decide +kernel)
set_option maxRecDepth 20000 in
theorem ggL_law_L_shows_wsL_shows_r5 : GoodIn wsL_law wsL_shows_r5 := goodIn_r _ [147, 148, 149, 150, 151, 152, 153, 34, 154, 155, 156, 157, 35, 42, 158, 159, 160, 161, 162, 163, 164, 165, 166, 167] (by decide +kernel) (by decide +kernel)
set_option maxRecDepth 20000 in
theorem ggL_law_L_shows_wsL_shows_r6 : GoodIn wsL_law wsL_shows_r6 := goodIn_r _ [44, 168, 55, 56, 57, 58, 59, 60, 65, 49, 169, 50, 417, 418, 419, 420, 303, 179, 180, 181, 182, 183, 184, 185] (by decide +kernel) (by decide +kernel)
set_option maxRecDepth 20000 in
theorem ggL_law_L_shows_wsL_shows_r7 : GoodIn wsL_law wsL_shows_r7 := goodIn_r _ [186, 187, 188, 189, 190, 191, 192, 193, 138, 139, 194, 195, 196, 197, 198, 199, 200, 201, 202, 203, 204, 205, 206, 207] (by decide +kernel) (by decide +kernel)
set_option maxRecDepth 20000 in
theorem ggL_law_L_shows_wsL_shows_r8 : GoodIn wsL_law wsL_shows_r8 := goodIn_r _ [208, 209, 210, 211, 212, 213] (by decide +kernel) (by decide +kernel)
set_option maxRecDepth 20000 in
theorem ggL_law_L_shows_wsX50 : GoodIn wsL_law wsX50 := goodIn_r _ [440, 441, 442, 443, 444] (by decide +kernel) (by decide +kernel)
set_option maxRecDepth 20000 in
theorem ggL_law_L_shows_wsX30 : GoodIn wsL_law wsX30 := goodIn_r _ [445, 446, 447, 448, 449, 450, 451, 452, 453, 454, 455, 456, 457] (by decide +kernel) (by decide +kernel)
set_option maxRecDepth 20000 in
theorem ggL_law_L_shows_wsX10 : GoodIn wsL_law wsX10 := goodIn_r _ [458, 459, 460] (by decide +kernel) (by decide +kernel)
set_option maxRecDepth 20000 in
theorem ggL_law_L_shows_wsX40 : GoodIn wsL_law wsX40 := goodIn_r _ [461, 462, 463, 464] (by decide +kernel) (by decide +kernel)
set_option maxRecDepth 20000 in
theorem ggL_law_L_shows_wsX00 : GoodIn wsL_law wsX00 := goodIn_r _ [467, 468, 469, 470, 471, 472, 473, 474, 475] (by decide +kernel) (by decide +kernel)
theorem ggL_law_L_shows : GoodIn wsL_law wsL_shows := goodIn_app ggL_law_L_shows_c (goodIn_app (goodIn_app (goodIn_app (goodIn_app (goodIn_app (goodIn_app ggL_law_L_shows_wsL_shows_r1 (goodIn_app ggL_law_L_shows_wsL_shows_r2 (goodIn_app ggL_law_L_shows_wsL_shows_r3 (goodIn_app ggL_law_L_shows_wsL_shows_r4 (goodIn_app ggL_law_L_shows_wsL_shows_r5 (goodIn_app ggL_law_L_shows_wsL_shows_r6 (goodIn_app ggL_law_L_shows_wsL_shows_r7 ggL_law_L_shows_wsL_shows_r8))))))) ggL_law_L_shows_wsX50) ggL_law_L_shows_wsX30) ggL_law_L_shows_wsX10) ggL_law_L_shows_wsX40) ggL_law_L_shows_wsX00)
set_option maxRecDepth 20000 in
theorem gL_law_L_shows : GoodIn wsL_law (va_wsS RL 123 yL_shows wsL_shows) := goodIn_app (goodIn_of _ (by decide +kernel)) ggL_law_L_shows
set_option maxRecDepth 20000 in
theorem ggL_law_L_digits_c : GoodIn wsL_law ([.code yL_digits cL_digits 12 (some .boolean)] : List Cond) := goodIn_r _ [423] (by decide +kernel) (by decide +kernel)
set_option maxRecDepth 20000 in
theorem ggL_law_L_digits_wsL_digits_r1 : GoodIn wsL_law wsL_digits_r1 := goodIn_r _ [94, 95, 96, 2, 97, 12, 98, 99, 100, 101, 102, 103, 104, 17, 105, 23, 106, 107, 108, 109, 11, 110, 32, 111] (by decide +kernel) (by decide +kernel)
set_option maxRecDepth 20000 in
theorem ggL_law_L_digits_wsL_digits_r2 : GoodIn wsL_law wsL_digits_r2 := goodIn_r _ [112, 113, 114, 31, 115, 116, 117, 118, 119, 120, 121, 122, 123, 124, 125, 126, 127, 128, 129, 130, 131, 132, 179, 180] (by decide +kernel) (by decide +kernel)
set_option maxRecDepth 20000 in
theorem ggL_law_L_digits_wsL_digits_r3 : GoodIn wsL_law wsL_digits_r3 := goodIn_r _ [181, 182, 183, 184, 185, 186, 187, 188, 189, 190, 191, 192, 193, 138, 139, 194, 195, 196, 44, 197, 57, 198, 199, 200] (by decide +kernel) (by decide +kernel)
set_option maxRecDepth 20000 in
theorem ggL_law_L_digits_wsL_digits_r4 : GoodIn wsL_law wsL_digits_r4 := goodIn_r _ [201, 55, 56, 202, 203, 204, 205, 206, 49, 207, 208, 209, 210, 211, 212, 213, 214, 215, 332, 333, 334, 335, 336, 337] (by decide +kernel) (by decide +kernel)
set_option maxRecDepth 20000 in
theorem ggL_law_L_digits_wsL_digits_r5 : GoodIn wsL_law wsL_digits_r5 := goodIn_r _ [137, 265, 266, 87, 267] (by decide +kernel) (by decide +kernel)
set_option maxRecDepth 20000 in
theorem ggL_law_L_digits_wsX50 : GoodIn wsL_law wsX50 := goodIn_r _ [440, 441, 442, 443, 444] (by decide +kernel) (by decide +kernel)
set_option maxRecDepth 20000 in
theorem ggL_law_L_digits_wsX30 : GoodIn wsL_law wsX30 := goodIn_r _ [445, 446, 447, 448, 449, 450, 451, 452, 453, 454, 455, 456, 457] (by decide +kernel) (by decide +kernel)
set_option maxRecDepth 20000 in
theorem ggL_law_L_digits_wsX10 : GoodIn wsL_law wsX10 := goodIn_r _ [458, 459, 460] (by decide +kernel) (by decide +kernel)
set_option maxRecDepth 20000 in
theorem ggL_law_L_digits_wsX40 : GoodIn wsL_law wsX40 := goodIn_r _ [461, 462, 463, 464] (by decide +kernel) (by decide +kernel)
set_option maxRecDepth 20000 in
theorem ggL_law_L_digits_wsX00 : GoodIn wsL_law wsX00 := goodIn_r _ [467, 468, 469, 470, 471, 472, 473, 474, 475] (by decide +kernel) (by decide +kernel)
theorem ggL_law_L_digits : GoodIn wsL_law wsL_digits := goodIn_app ggL_law_L_digits_c (goodIn_app (goodIn_app (goodIn_app (goodIn_app (goodIn_app (goodIn_app ggL_law_L_digits_wsL_digits_r1 (goodIn_app ggL_law_L_digits_wsL_digits_r2 (goodIn_app ggL_law_L_digits_wsL_digits_r3 (goodIn_app ggL_law_L_digits_wsL_digits_r4 ggL_law_L_digits_wsL_digits_r5)))) ggL_law_L_digits_wsX50) ggL_law_L_digits_wsX30) ggL_law_L_digits_wsX10) ggL_law_L_digits_wsX40) ggL_law_L_digits_wsX00)
set_option maxRecDepth 20000 in
theorem gL_law_L_digits : GoodIn wsL_law (va_wsS RL 126 yL_digits wsL_digits) := goodIn_app (goodIn_of _ (by decide +kernel)) ggL_law_L_digits
set_option maxRecDepth 20000 in
theorem ggL_law_L_groups_c : GoodIn wsL_law ([.code yL_groups cL_groups 6 (some .boolean)] : List Cond) := goodIn_r _ [426] (by decide +kernel) (by decide +kernel)
set_option maxRecDepth 20000 in
theorem ggL_law_L_groups_wsL_groups_r1 : GoodIn wsL_law wsL_groups_r1 := goodIn_r _ [94, 95, 96, 2, 97, 12, 98, 99, 100, 101, 102, 103, 104, 17, 105, 23, 106, 107, 108, 109, 11, 110, 32, 111] (by decide +kernel) (by decide +kernel)
set_option maxRecDepth 20000 in
theorem ggL_law_L_groups_wsL_groups_r2 : GoodIn wsL_law wsL_groups_r2 := goodIn_r _ [112, 113, 114, 31, 115, 116, 117, 118, 119, 120, 121, 122, 123, 124, 125, 126, 127, 128, 129, 130, 131, 132, 179, 180] (by decide +kernel) (by decide +kernel)
set_option maxRecDepth 20000 in
theorem ggL_law_L_groups_wsL_groups_r3 : GoodIn wsL_law wsL_groups_r3 := goodIn_r _ [181, 182, 183, 184, 185, 186, 187, 188, 189, 190, 191, 192, 193, 138, 139, 194, 195, 196, 44, 197, 57, 198, 199, 200] (by decide +kernel) (by decide +kernel)
set_option maxRecDepth 20000 in
theorem ggL_law_L_groups_wsL_groups_r4 : GoodIn wsL_law wsL_groups_r4 := goodIn_r _ [201, 55, 56, 202, 203, 204, 205, 206, 49, 207, 208, 209, 210, 211, 212, 213, 214, 215, 251, 252, 253, 254, 244, 245] (by decide +kernel) (by decide +kernel)
set_option maxRecDepth 20000 in
theorem ggL_law_L_groups_wsL_groups_r5 : GoodIn wsL_law wsL_groups_r5 := goodIn_r _ [137, 255, 256, 257, 258, 34, 35, 159, 246, 247, 248, 249, 250] (by decide +kernel) (by decide +kernel)
set_option maxRecDepth 20000 in
theorem ggL_law_L_groups_wsX50 : GoodIn wsL_law wsX50 := goodIn_r _ [440, 441, 442, 443, 444] (by decide +kernel) (by decide +kernel)
set_option maxRecDepth 20000 in
theorem ggL_law_L_groups_wsX30 : GoodIn wsL_law wsX30 := goodIn_r _ [445, 446, 447, 448, 449, 450, 451, 452, 453, 454, 455, 456, 457] (by decide +kernel) (by decide +kernel)
set_option maxRecDepth 20000 in
theorem ggL_law_L_groups_wsX10 : GoodIn wsL_law wsX10 := goodIn_r _ [458, 459, 460] (by decide +kernel) (by decide +kernel)
set_option maxRecDepth 20000 in
theorem ggL_law_L_groups_wsX40 : GoodIn wsL_law wsX40 := goodIn_r _ [461, 462, 463, 464] (by decide +kernel) (by decide +kernel)
set_option maxRecDepth 20000 in
theorem ggL_law_L_groups_wsX00 : GoodIn wsL_law wsX00 := goodIn_r _ [467, 468, 469, 470, 471, 472, 473, 474, 475] (by decide +kernel) (by decide +kernel)
theorem ggL_law_L_groups : GoodIn wsL_law wsL_groups := goodIn_app ggL_law_L_groups_c (goodIn_app (goodIn_app (goodIn_app (goodIn_app (goodIn_app (goodIn_app ggL_law_L_groups_wsL_groups_r1 (goodIn_app ggL_law_L_groups_wsL_groups_r2 (goodIn_app ggL_law_L_groups_wsL_groups_r3 (goodIn_app ggL_law_L_groups_wsL_groups_r4 ggL_law_L_groups_wsL_groups_r5)))) ggL_law_L_groups_wsX50) ggL_law_L_groups_wsX30) ggL_law_L_groups_wsX10) ggL_law_L_groups_wsX40) ggL_law_L_groups_wsX00)
set_option maxRecDepth 20000 in
theorem gL_law_L_groups : GoodIn wsL_law (va_wsS RL 129 yL_groups wsL_groups) := goodIn_app (goodIn_of _ (by decide +kernel)) ggL_law_L_groups
set_option maxRecDepth 20000 in
theorem ggL_law_L_errors_c : GoodIn wsL_law ([.code yL_errors cL_errors 3 (some .boolean)] : List Cond) := goodIn_r _ [429] (by decide +kernel) (by decide +kernel)
set_option maxRecDepth 20000 in
theorem ggL_law_L_errors_wsL_errors_r1 : GoodIn wsL_law wsL_errors_r1 := goodIn_r _ [94, 95, 96, 2, 97, 12, 98, 99, 100, 101, 102, 103, 104, 17, 105, 23, 106, 107, 108, 109, 11, 110, 32, 111] (by decide +kernel) (by decide +kernel)
set_option maxRecDepth 20000 in
theorem ggL_law_L_errors_wsL_errors_r2 : GoodIn wsL_law wsL_errors_r2 := goodIn_r _ [112, 113, 114, 31, 115, 116, 117, 118, 119, 120, 121, 122, 123, 124, 125, 126, 127, 128, 129, 130, 131, 132, 133, 134] (by decide +kernel) (by decide +kernel)
set_option maxRecDepth 20000 in
theorem ggL_law_L_errors_wsL_errors_r3 : GoodIn wsL_law wsL_errors_r3 := goodIn_r _ [135, 136, 137, 138, 139, 140, 141, 142, 16, 143, 71, 144, 145, 146, 147, 148, 149, 150, 151, 152, 153, 34, 154, 155] (by decide +kernel) (by decide +kernel)
set_option maxRecDepth 20000 in
theorem ggL_law_L_errors_wsL_errors_r4 : GoodIn wsL_law wsL_errors_r4 := goodIn_r _ [156, 157, 35, 42, 158, 159, 160, 161, 162, 163, 164, 165, 166, 167, 44, 168, 55, 56, 57, 58, 59, 60, 65, 49] (by decide +kernel) (by decide +kernel)
set_option maxRecDepth 20000 in
theorem ggL_law_L_errors_wsL_errors_r5 : GoodIn wsL_law wsL_errors_r5 := goodIn_r _ [169, 50, 170, 171, 172, 173, 174, 52, 53, 54, 61, 62, 63, 64, 175, 176, 177, 178, 216, 217, 218, 219, 190, 191] (by decide +kernel) (by decide +kernel)
set_option maxRecDepth 20000 in
theorem ggL_law_L_errors_wsL_errors_r6 : GoodIn wsL_law wsL_errors_r6 := goodIn_r _ [192, 193, 220, 221, 222, 223, 224, 225, 226, 227, 185, 194, 195, 196, 197, 198, 199, 200, 201, 228, 229, 230, 231, 186] (by decide +kernel) (by decide +kernel)
set_option maxRecDepth 20000 in
theorem ggL_law_L_errors_wsL_errors_r7 : GoodIn wsL_law wsL_errors_r7 := goodIn_r _ [232, 233, 234, 235, 183, 236, 237, 238, 239, 187, 240, 241, 242, 243, 244, 245, 246, 247, 248, 249, 250, 259, 260, 261] (by decide +kernel) (by decide +kernel)
set_option maxRecDepth 20000 in
theorem ggL_law_L_errors_wsL_errors_r8 : GoodIn wsL_law wsL_errors_r8 := goodIn_r _ [262, 263, 264, 268, 269, 270, 271, 188, 272, 273, 274, 275, 276, 277, 350, 351, 352, 353, 289, 290, 291, 292, 293, 294] (by decide +kernel) (by decide +kernel)
set_option maxRecDepth 20000 in
theorem ggL_law_L_errors_wsL_errors_r9 : GoodIn wsL_law wsL_errors_r9 := goodIn_r _ [295, 296, 297, 298, 299, 300, 301, 302, 303, 304, 305, 306, 307, 308, 309, 310, 256, 257, 258, 311, 312, 313, 314, 315] (by decide +kernel) (by decide +kernel)
set_option maxRecDepth 20000 in
theorem ggL_law_L_errors_wsL_errors_r10 : GoodIn wsL_law wsL_errors_r10 := goodIn_r _ [316, 317, 318, 319, 320, 321, 322, 323, 324, 325, 326, 327, 328, 329, 330, 430, 431, 432, 433, 19, 434, 435, 288, 436] (by decide +kernel) (by decide +kernel)
set_option maxRecDepth 20000 in
theorem ggL_law_L_errors_wsL_errors_r11 : GoodIn wsL_law wsL_errors_r11 := goodIn_r _ [437, 438, 439, 368, 369, 370, 371, 372, 373, 374, 375, 376, 284, 285, 286, 287, 13, 331] (by decide +kernel) (by decide +kernel)
set_option maxRecDepth 20000 in
theorem ggL_law_L_errors_wsX50 : GoodIn wsL_law wsX50 := goodIn_r _ [440, 441, 442, 443, 444] (by decide +kernel) (by decide +kernel)
set_option maxRecDepth 20000 in
theorem ggL_law_L_errors_wsX30 : GoodIn wsL_law wsX30 := goodIn_r _ [445, 446, 447, 448, 449, 450, 451, 452, 453, 454, 455, 456, 457] (by decide +kernel) (by decide +kernel)
set_option maxRecDepth 20000 in
theorem ggL_law_L_errors_wsX10 : GoodIn wsL_law wsX10 := goodIn_r _ [458, 459, 460] (by decide +kernel) (by decide +kernel)
set_option maxRecDepth 20000 in
theorem ggL_law_L_errors_wsX40 : GoodIn wsL_law wsX40 := goodIn_r _ [461, 462, 463, 464] (by decide +kernel) (by decide +kernel)
set_option maxRecDepth 20000 in
theorem ggL_law_L_errors_wsX00 : GoodIn wsL_law wsX00 := goodIn_r _ [467, 468, 469, 470, 471, 472, 473, 474, 475] (by decide +kernel) (by decide +kernel)
set_option maxRecDepth 20000 in
theorem ggL_law_L_errors_wsX20 : GoodIn wsL_law wsX20 := goodIn_r _ [465, 466] (by decide +kernel) (by decide +kernel)
theorem ggL_law_L_errors : GoodIn wsL_law wsL_errors := goodIn_app ggL_law_L_errors_c (goodIn_app (goodIn_app (goodIn_app (goodIn_app (goodIn_app (goodIn_app (goodIn_app ggL_law_L_errors_wsL_errors_r1 (goodIn_app ggL_law_L_errors_wsL_errors_r2 (goodIn_app ggL_law_L_errors_wsL_errors_r3 (goodIn_app ggL_law_L_errors_wsL_errors_r4 (goodIn_app ggL_law_L_errors_wsL_errors_r5 (goodIn_app ggL_law_L_errors_wsL_errors_r6 (goodIn_app ggL_law_L_errors_wsL_errors_r7 (goodIn_app ggL_law_L_errors_wsL_errors_r8 (goodIn_app ggL_law_L_errors_wsL_errors_r9 (goodIn_app ggL_law_L_errors_wsL_errors_r10 ggL_law_L_errors_wsL_errors_r11)))))))))) ggL_law_L_errors_wsX50) ggL_law_L_errors_wsX30) ggL_law_L_errors_wsX10) ggL_law_L_errors_wsX40) ggL_law_L_errors_wsX00) ggL_law_L_errors_wsX20)
set_option maxRecDepth 20000 in
theorem gL_law_L_errors : GoodIn wsL_law (va_wsS RL 132 yL_errors wsL_errors) := goodIn_app (goodIn_of _ (by decide +kernel)) ggL_law_L_errors
