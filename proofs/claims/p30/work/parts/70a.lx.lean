set_option maxRecDepth 20000 in
theorem ggL_law_X5_init : GoodIn wsL_law wsX5_init := goodIn_r _ [5, 6, 7, 8, 9, 10, 11, 12, 13, 14, 15, 16, 17, 18, 19, 20, 21, 22, 23, 24, 25, 26, 27, 28, 29, 30, 31, 32, 33, 34, 35, 36, 37, 38, 39, 40, 41, 42, 43, 44, 45, 46, 47, 48, 49, 50, 51, 52, 53, 54, 55, 56, 57, 58, 59, 60, 61, 62, 63, 64, 65, 66, 67, 68, 69, 70, 71, 72, 73, 74, 75, 76, 77, 78, 79, 80, 81, 82, 83, 84, 445, 446, 447, 448, 449, 450, 451, 452, 453, 454, 455, 456, 457, 440, 441, 442, 443, 444, 458, 459, 460, 461, 462, 463, 464, 465, 466, 467, 468, 469, 470, 471, 472, 473, 474, 475] (by decide +kernel) (by decide +kernel)
set_option maxRecDepth 20000 in
theorem gL_law_X5_init : GoodIn wsL_law (wsX5_init) := ggL_law_X5_init
set_option maxRecDepth 20000 in
theorem ggL_law_L_cell : GoodIn wsL_law wsL_cell := goodIn_r _ [88, 89] (by decide +kernel) (by decide +kernel)
set_option maxRecDepth 20000 in
theorem gL_law_L_cell : GoodIn wsL_law (va_wsS RL 104 yL_cell wsL_cell) := goodIn_app (goodIn_of _ (by decide +kernel)) ggL_law_L_cell
set_option maxRecDepth 20000 in
theorem ggL_law_L_low : GoodIn wsL_law wsL_low := goodIn_r _ [92, 93] (by decide +kernel) (by decide +kernel)
set_option maxRecDepth 20000 in
theorem gL_law_L_low : GoodIn wsL_law (va_wsS RL 57 yL_low wsL_low) := goodIn_app (goodIn_of _ (by decide +kernel)) ggL_law_L_low
set_option maxRecDepth 20000 in
theorem ggL_law_X5_count : GoodIn wsL_law wsX5_count := goodIn_r _ [97, 12, 98, 99, 100, 101, 102, 103, 104, 17, 105, 23, 106, 107, 108, 109, 11, 110, 32, 111, 112, 113, 114, 31, 115, 116, 117, 118, 119, 120, 121, 122, 123, 124, 125, 126, 127, 128, 129, 130, 131, 132, 440, 441, 442, 443, 444, 445, 446, 447, 448, 449, 450, 451, 452, 453, 454, 455, 456, 457, 458, 459, 460, 461, 462, 463, 464, 467, 468, 469, 470, 471, 472, 473, 474, 475] (by decide +kernel) (by decide +kernel)
set_option maxRecDepth 20000 in
theorem gL_law_X5_count : GoodIn wsL_law (wsV RL 9 RX5 yX5_count wsX5_count) := goodIn_app (goodIn_of _ (by decide +kernel)) ggL_law_X5_count
set_option maxRecDepth 20000 in
theorem ggL_law_X5_setDigits : GoodIn wsL_law wsX5_setDigits := goodIn_r _ [136, 17, 12, 99, 137, 138, 2, 139, 140, 141, 142, 16, 143, 71, 144, 145, 146, 147, 148, 149, 150, 151, 152, 11, 153, 31, 32, 34, 154, 155, 156, 157, 35, 42, 158, 159, 120, 160, 161, 162, 163, 164, 165, 166, 167, 44, 168, 55, 56, 57, 58, 59, 60, 65, 49, 169, 50, 170, 171, 172, 173, 174, 52, 53, 54, 61, 62, 63, 64, 175, 176, 177, 178, 440, 441, 442, 443, 444, 445, 446, 447, 448, 449, 450, 451, 452, 453, 454, 455, 456, 457, 458, 459, 460, 467, 468, 469, 470, 471, 472, 473, 474, 475] (by decide +kernel) (by decide +kernel)
set_option maxRecDepth 20000 in
theorem gL_law_X5_setDigits : GoodIn wsL_law (wsV RL 67 RX5 yX5_setDigits wsX5_setDigits) := goodIn_app (goodIn_of _ (by decide +kernel)) ggL_law_X5_setDigits
set_option maxRecDepth 20000 in
theorem ggL_law_X5_digit : GoodIn wsL_law wsX5_digit := goodIn_r _ [182, 12, 183, 184, 185, 186, 187, 104, 188, 189, 190, 191, 192, 11, 193, 32, 31, 138, 2, 139, 194, 195, 196, 44, 197, 57, 198, 199, 200, 201, 55, 56, 202, 112, 113, 114, 115, 203, 204, 205, 206, 49, 207, 208, 209, 210, 211, 212, 213, 214, 215, 440, 441, 442, 443, 444, 467, 468, 469, 470, 471, 472, 473, 474, 475, 445, 446, 447, 448, 449, 450, 451, 452, 453, 454, 455, 456, 457] (by decide +kernel) (by decide +kernel)
set_option maxRecDepth 20000 in
theorem gL_law_X5_digit : GoodIn wsL_law (wsV RL 15 RX5 yX5_digit wsX5_digit) := goodIn_app (goodIn_of _ (by decide +kernel)) ggL_law_X5_digit
set_option maxRecDepth 20000 in
theorem ggL_law_X5_setWidth : GoodIn wsL_law wsX5_setWidth := goodIn_r _ [219, 12, 17, 190, 191, 192, 11, 193, 32, 31, 138, 2, 139, 137, 140, 141, 142, 16, 143, 71, 144, 145, 146, 147, 148, 149, 150, 151, 152, 153, 34, 154, 155, 156, 157, 35, 42, 158, 159, 120, 160, 161, 162, 163, 164, 165, 166, 167, 44, 168, 55, 56, 57, 58, 59, 60, 65, 49, 169, 50, 220, 221, 222, 223, 115, 175, 176, 177, 178, 107, 108, 109, 110, 111, 112, 113, 114, 440, 441, 442, 443, 444, 445, 446, 447, 448, 449, 450, 451, 452, 453, 454, 455, 456, 457, 458, 459, 460, 467, 468, 469, 470, 471, 472, 473, 474, 475] (by decide +kernel) (by decide +kernel)
set_option maxRecDepth 20000 in
theorem gL_law_X5_setWidth : GoodIn wsL_law (wsV RL 70 RX5 yX5_setWidth wsX5_setWidth) := goodIn_app (goodIn_of _ (by decide +kernel)) ggL_law_X5_setWidth
set_option maxRecDepth 20000 in
theorem ggL_law_X5_setGuard : GoodIn wsL_law wsX5_setGuard := goodIn_r _ [227, 12, 17, 185, 190, 191, 192, 11, 193, 32, 31, 138, 2, 139, 137, 140, 141, 142, 16, 143, 71, 144, 145, 146, 147, 148, 149, 150, 151, 152, 153, 34, 154, 155, 156, 157, 35, 42, 158, 159, 120, 160, 161, 162, 163, 164, 165, 166, 167, 44, 168, 55, 56, 57, 58, 59, 60, 65, 49, 169, 50, 194, 195, 196, 197, 198, 199, 200, 201, 440, 441, 442, 443, 444, 467, 468, 469, 470, 471, 472, 473, 474, 475, 445, 446, 447, 448, 449, 450, 451, 452, 453, 454, 455, 456, 457, 458, 459, 460] (by decide +kernel) (by decide +kernel)
set_option maxRecDepth 20000 in
theorem gL_law_X5_setGuard : GoodIn wsL_law (wsV RL 73 RX5 yX5_setGuard wsX5_setGuard) := goodIn_app (goodIn_of _ (by decide +kernel)) ggL_law_X5_setGuard
set_option maxRecDepth 20000 in
theorem ggL_law_X5_setBrightness : GoodIn wsL_law wsX5_setBrightness := goodIn_r _ [231, 12, 17, 186, 190, 191, 192, 11, 193, 32, 31, 138, 2, 139, 137, 140, 141, 142, 16, 143, 71, 144, 145, 146, 147, 148, 149, 150, 151, 152, 153, 34, 154, 155, 156, 157, 35, 42, 158, 159, 120, 160, 161, 162, 163, 164, 165, 166, 167, 44, 168, 55, 56, 57, 58, 59, 60, 65, 49, 169, 50, 194, 195, 196, 197, 198, 199, 200, 201, 440, 441, 442, 443, 444, 467, 468, 469, 470, 471, 472, 473, 474, 475, 445, 446, 447, 448, 449, 450, 451, 452, 453, 454, 455, 456, 457, 458, 459, 460] (by decide +kernel) (by decide +kernel)
set_option maxRecDepth 20000 in
theorem gL_law_X5_setBrightness : GoodIn wsL_law (wsV RL 76 RX5 yX5_setBrightness wsX5_setBrightness) := goodIn_app (goodIn_of _ (by decide +kernel)) ggL_law_X5_setBrightness
set_option maxRecDepth 20000 in
theorem ggL_law_X5_setPattern : GoodIn wsL_law wsX5_setPattern := goodIn_r _ [235, 12, 17, 183, 190, 191, 192, 11, 193, 32, 31, 138, 2, 139, 137, 140, 141, 142, 16, 143, 71, 144, 145, 146, 147, 148, 149, 150, 151, 152, 153, 34, 154, 155, 156, 157, 35, 42, 158, 159, 120, 160, 161, 162, 163, 164, 165, 166, 167, 44, 168, 55, 56, 57, 58, 59, 60, 65, 49, 169, 50, 440, 441, 442, 443, 444, 467, 468, 469, 470, 471, 472, 473, 474, 475, 445, 446, 447, 448, 449, 450, 451, 452, 453, 454, 455, 456, 457, 458, 459, 460] (by decide +kernel) (by decide +kernel)
set_option maxRecDepth 20000 in
theorem gL_law_X5_setPattern : GoodIn wsL_law (wsV RL 79 RX5 yX5_setPattern wsX5_setPattern) := goodIn_app (goodIn_of _ (by decide +kernel)) ggL_law_X5_setPattern
set_option maxRecDepth 20000 in
theorem ggL_law_X5_setGroup : GoodIn wsL_law wsX5_setGroup := goodIn_r _ [239, 12, 17, 187, 190, 191, 192, 11, 193, 32, 31, 138, 2, 139, 137, 140, 141, 142, 16, 143, 71, 144, 145, 146, 147, 148, 149, 150, 151, 152, 153, 34, 154, 155, 156, 157, 35, 42, 158, 159, 120, 160, 161, 162, 163, 164, 165, 166, 167, 44, 168, 55, 56, 57, 58, 59, 60, 65, 49, 169, 50, 440, 441, 442, 443, 444, 467, 468, 469, 470, 471, 472, 473, 474, 475, 445, 446, 447, 448, 449, 450, 451, 452, 453, 454, 455, 456, 457, 458, 459, 460] (by decide +kernel) (by decide +kernel)
set_option maxRecDepth 20000 in
theorem gL_law_X5_setGroup : GoodIn wsL_law (wsV RL 82 RX5 yX5_setGroup wsX5_setGroup) := goodIn_app (goodIn_of _ (by decide +kernel)) ggL_law_X5_setGroup
set_option maxRecDepth 20000 in
theorem ggL_law_X5_setBlink : GoodIn wsL_law wsX5_setBlink := goodIn_r _ [243, 17, 12, 244, 245, 137, 138, 2, 139, 140, 141, 142, 16, 143, 71, 144, 145, 146, 147, 148, 149, 150, 151, 152, 11, 153, 31, 32, 34, 154, 155, 156, 157, 35, 42, 158, 159, 120, 160, 161, 162, 163, 164, 165, 166, 167, 44, 168, 55, 56, 57, 58, 59, 60, 65, 49, 169, 50, 246, 247, 248, 249, 250, 440, 441, 442, 443, 444, 445, 446, 447, 448, 449, 450, 451, 452, 453, 454, 455, 456, 457, 458, 459, 460, 467, 468, 469, 470, 471, 472, 473, 474, 475] (by decide +kernel) (by decide +kernel)
set_option maxRecDepth 20000 in
theorem gL_law_X5_setBlink : GoodIn wsL_law (wsV RL 85 RX5 yX5_setBlink wsX5_setBlink) := goodIn_app (goodIn_of _ (by decide +kernel)) ggL_law_X5_setBlink
set_option maxRecDepth 20000 in
theorem ggL_law_X5_group : GoodIn wsL_law wsX5_group := goodIn_r _ [254, 12, 244, 245, 137, 138, 2, 139, 255, 256, 257, 11, 258, 34, 35, 159, 246, 247, 248, 249, 32, 31, 250, 440, 441, 442, 443, 444, 445, 446, 447, 448, 449, 450, 451, 452, 453, 454, 455, 456, 457, 467, 468, 469, 470, 471, 472, 473, 474, 475] (by decide +kernel) (by decide +kernel)
set_option maxRecDepth 20000 in
theorem gL_law_X5_group : GoodIn wsL_law (wsV RL 28 RX5 yX5_group wsX5_group) := goodIn_app (goodIn_of _ (by decide +kernel)) ggL_law_X5_group
set_option maxRecDepth 20000 in
theorem ggL_law_X5_set : GoodIn wsL_law wsX5_set := goodIn_r _ [262, 263, 264, 17, 12, 104, 137, 138, 2, 139, 140, 141, 142, 16, 143, 71, 144, 145, 146, 147, 148, 149, 150, 151, 152, 11, 153, 31, 32, 34, 154, 155, 156, 157, 35, 42, 158, 159, 120, 160, 161, 162, 163, 164, 165, 166, 167, 44, 168, 55, 56, 57, 58, 59, 60, 65, 49, 169, 50, 440, 441, 442, 443, 444, 445, 446, 447, 448, 449, 450, 451, 452, 453, 454, 455, 456, 457, 458, 459, 460, 467, 468, 469, 470, 471, 472, 473, 474, 475] (by decide +kernel) (by decide +kernel)
set_option maxRecDepth 20000 in
theorem gL_law_X5_set : GoodIn wsL_law (wsV RL 88 RX5 yX5_set wsX5_set) := goodIn_app (goodIn_of _ (by decide +kernel)) ggL_law_X5_set
set_option maxRecDepth 20000 in
theorem ggL_law_L_bits : GoodIn wsL_law wsL_bits := goodIn_r _ [267] (by decide +kernel) (by decide +kernel)
set_option maxRecDepth 20000 in
theorem gL_law_L_bits : GoodIn wsL_law (va_wsS RL 23 yL_bits wsL_bits) := goodIn_app (goodIn_of _ (by decide +kernel)) ggL_law_L_bits
set_option maxRecDepth 20000 in
theorem ggL_law_X5_replace : GoodIn wsL_law wsX5_replace := goodIn_r _ [271, 12, 17, 188, 190, 191, 192, 11, 193, 32, 31, 138, 2, 139, 140, 141, 142, 16, 143, 71, 144, 145, 146, 147, 148, 149, 150, 151, 152, 153, 34, 154, 155, 156, 157, 35, 42, 158, 159, 120, 160, 161, 162, 163, 164, 165, 166, 167, 44, 168, 55, 56, 57, 58, 59, 60, 65, 49, 169, 50, 272, 127, 128, 129, 130, 131, 132, 273, 62, 63, 64, 440, 441, 442, 443, 444, 467, 468, 469, 470, 471, 472, 473, 474, 475, 445, 446, 447, 448, 449, 450, 451, 452, 453, 454, 455, 456, 457, 458, 459, 460] (by decide +kernel) (by decide +kernel)
set_option maxRecDepth 20000 in
theorem gL_law_X5_replace : GoodIn wsL_law (wsV RL 91 RX5 yX5_replace wsX5_replace) := goodIn_app (goodIn_of _ (by decide +kernel)) ggL_law_X5_replace
set_option maxRecDepth 20000 in
theorem ggL_law_X5_test : GoodIn wsL_law wsX5_test := goodIn_r _ [277, 17, 12, 102, 137, 138, 2, 139, 140, 141, 142, 16, 143, 71, 144, 145, 146, 147, 148, 149, 150, 151, 152, 11, 153, 31, 32, 34, 154, 155, 156, 157, 35, 42, 158, 159, 120, 160, 161, 162, 163, 164, 165, 166, 167, 44, 168, 55, 56, 57, 58, 59, 60, 65, 49, 169, 50, 440, 441, 442, 443, 444, 445, 446, 447, 448, 449, 450, 451, 452, 453, 454, 455, 456, 457, 458, 459, 460, 467, 468, 469, 470, 471, 472, 473, 474, 475] (by decide +kernel) (by decide +kernel)
set_option maxRecDepth 20000 in
theorem gL_law_X5_test : GoodIn wsL_law (wsV RL 94 RX5 yX5_test wsX5_test) := goodIn_app (goodIn_of _ (by decide +kernel)) ggL_law_X5_test
set_option maxRecDepth 20000 in
theorem ggL_law_X5_pass : GoodIn wsL_law wsX5_pass := goodIn_r _ [353, 17, 12, 137, 138, 2, 139, 140, 141, 142, 16, 143, 71, 144, 145, 146, 147, 148, 149, 150, 151, 152, 11, 153, 31, 32, 34, 154, 155, 156, 157, 35, 42, 158, 159, 120, 160, 161, 162, 163, 164, 165, 166, 167, 44, 168, 55, 56, 57, 58, 59, 60, 65, 49, 169, 50, 289, 290, 291, 292, 293, 294, 295, 296, 297, 298, 117, 118, 119, 115, 299, 300, 301, 302, 303, 125, 304, 305, 306, 307, 308, 250, 309, 199, 200, 201, 111, 112, 113, 114, 310, 256, 257, 258, 311, 312, 313, 314, 315, 316, 317, 318, 319, 320, 321, 322, 126, 127, 128, 129, 130, 131, 132, 323, 324, 325, 326, 327, 328, 329, 330, 108, 109, 110, 175, 176, 177, 178, 440, 441, 442, 443, 444, 458, 459, 460, 445, 446, 447, 448, 449, 450, 451, 452, 453, 454, 455, 456, 457, 467, 468, 469, 470, 471, 472, 473, 474, 475] (by decide +kernel) (by decide +kernel)
set_option maxRecDepth 20000 in
theorem gL_law_X5_pass : GoodIn wsL_law (wsV RL 41 RX5 yX5_pass wsX5_pass) := goodIn_app (goodIn_of _ (by decide +kernel)) ggL_law_X5_pass
