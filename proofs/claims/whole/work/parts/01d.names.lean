theorem dX6_show_58 : decode cX6_show 58 = .ok (.caload, 1) := by decide +kernel
theorem dX6_show_59 : decode cX6_show 59 = .ok (.invokestatic 132, 3) := by decide +kernel
theorem dX6_show_62 : decode cX6_show 62 = .ok (.ifCond .lt 18, 3) := by decide +kernel
theorem dX6_show_65 : decode cX6_show 65 = .ok (.iload 5, 2) := by decide +kernel
theorem dX6_show_67 : decode cX6_show 67 = .ok (.ifCond .eq 18, 3) := by decide +kernel
theorem dX6_show_70 : decode cX6_show 70 = .ok (.iload_n 1, 1) := by decide +kernel
theorem dX6_show_71 : decode cX6_show 71 = .ok (.aload_n 0, 1) := by decide +kernel
theorem dX6_show_72 : decode cX6_show 72 = .ok (.getfield 7, 3) := by decide +kernel
theorem dX6_show_75 : decode cX6_show 75 = .ok (.iconst 0, 1) := by decide +kernel
theorem dX6_show_76 : decode cX6_show 76 = .ok (.iaload, 1) := by decide +kernel
theorem dX6_show_77 : decode cX6_show 77 = .ok (.if_icmp .ne 8, 3) := by decide +kernel
theorem dX6_show_80 : decode cX6_show 80 = .ok (.bipush (-100), 2) := by decide +kernel
theorem dX6_show_82 : decode cX6_show 82 = .ok (.iload_n 3, 1) := by decide +kernel
theorem dX6_show_83 : decode cX6_show 83 = .ok (.isub, 1) := by decide +kernel
theorem dX6_show_84 : decode cX6_show 84 = .ok (.ireturn, 1) := by decide +kernel
theorem dX6_show_85 : decode cX6_show 85 = .ok (.iload 5, 2) := by decide +kernel
theorem dX6_show_87 : decode cX6_show 87 = .ok (.ifCond .eq 35, 3) := by decide +kernel
theorem dX6_show_90 : decode cX6_show 90 = .ok (.aload_n 0, 1) := by decide +kernel
theorem dX6_show_91 : decode cX6_show 91 = .ok (.getfield 43, 3) := by decide +kernel
theorem dX6_show_94 : decode cX6_show 94 = .ok (.iload_n 1, 1) := by decide +kernel
theorem dX6_show_95 : decode cX6_show 95 = .ok (.iload 4, 2) := by decide +kernel
theorem dX6_show_97 : decode cX6_show 97 = .ok (.ifCond .eq 9, 3) := by decide +kernel
theorem dX6_show_100 : decode cX6_show 100 = .ok (.sipush 128, 3) := by decide +kernel
theorem dX6_show_103 : decode cX6_show 103 = .ok (.goto 12, 3) := by decide +kernel
theorem dX6_show_106 : decode cX6_show 106 = .ok (.aload_n 0, 1) := by decide +kernel
theorem dX6_show_107 : decode cX6_show 107 = .ok (.getfield 39, 3) := by decide +kernel
theorem dX6_show_110 : decode cX6_show 110 = .ok (.iload_n 3, 1) := by decide +kernel
theorem dX6_show_111 : decode cX6_show 111 = .ok (.caload, 1) := by decide +kernel
theorem dX6_show_112 : decode cX6_show 112 = .ok (.invokestatic 132, 3) := by decide +kernel
theorem dX6_show_115 : decode cX6_show 115 = .ok (.iastore, 1) := by decide +kernel
theorem dX6_show_116 : decode cX6_show 116 = .ok (.iinc 1 1, 3) := by decide +kernel
theorem dX6_show_119 : decode cX6_show 119 = .ok (.goto 17, 3) := by decide +kernel
theorem dX6_show_122 : decode cX6_show 122 = .ok (.aload_n 0, 1) := by decide +kernel
theorem dX6_show_123 : decode cX6_show 123 = .ok (.getfield 43, 3) := by decide +kernel
theorem dX6_show_126 : decode cX6_show 126 = .ok (.iload_n 1, 1) := by decide +kernel
theorem dX6_show_127 : decode cX6_show 127 = .ok (.iconst 1, 1) := by decide +kernel
theorem dX6_show_128 : decode cX6_show 128 = .ok (.isub, 1) := by decide +kernel
theorem dX6_show_129 : decode cX6_show 129 = .ok (.dup2, 1) := by decide +kernel
theorem dX6_show_130 : decode cX6_show 130 = .ok (.iaload, 1) := by decide +kernel
theorem dX6_show_131 : decode cX6_show 131 = .ok (.sipush 128, 3) := by decide +kernel
theorem dX6_show_134 : decode cX6_show 134 = .ok (.iadd, 1) := by decide +kernel
theorem dX6_show_135 : decode cX6_show 135 = .ok (.iastore, 1) := by decide +kernel
theorem dX6_show_136 : decode cX6_show 136 = .ok (.iload 4, 2) := by decide +kernel
theorem dX6_show_138 : decode cX6_show 138 = .ok (.ifCond .ne 7, 3) := by decide +kernel
theorem dX6_show_141 : decode cX6_show 141 = .ok (.iconst 1, 1) := by decide +kernel
theorem dX6_show_142 : decode cX6_show 142 = .ok (.goto 4, 3) := by decide +kernel
theorem dX6_show_145 : decode cX6_show 145 = .ok (.iconst 0, 1) := by decide +kernel
theorem dX6_show_146 : decode cX6_show 146 = .ok (.istore_n 2, 1) := by decide +kernel
theorem dX6_show_147 : decode cX6_show 147 = .ok (.iinc 3 1, 3) := by decide +kernel
theorem dX6_show_150 : decode cX6_show 150 = .ok (.goto (-144), 3) := by decide +kernel
theorem dX6_show_153 : decode cX6_show 153 = .ok (.aload_n 0, 1) := by decide +kernel
theorem dX6_show_154 : decode cX6_show 154 = .ok (.invokevirtual 59, 3) := by decide +kernel
theorem dX6_show_157 : decode cX6_show 157 = .ok (.iconst 0, 1) := by decide +kernel
theorem dX6_show_158 : decode cX6_show 158 = .ok (.istore_n 3, 1) := by decide +kernel
theorem dX6_show_159 : decode cX6_show 159 = .ok (.iload_n 3, 1) := by decide +kernel
theorem dX6_show_160 : decode cX6_show 160 = .ok (.aload_n 0, 1) := by decide +kernel
theorem dX6_show_161 : decode cX6_show 161 = .ok (.getfield 7, 3) := by decide +kernel
theorem dX6_show_164 : decode cX6_show 164 = .ok (.iconst 0, 1) := by decide +kernel
theorem dX6_show_165 : decode cX6_show 165 = .ok (.iaload, 1) := by decide +kernel
theorem dX6_show_166 : decode cX6_show 166 = .ok (.if_icmp .ge 30, 3) := by decide +kernel
theorem dX6_show_169 : decode cX6_show 169 = .ok (.aload_n 0, 1) := by decide +kernel
theorem dX6_show_170 : decode cX6_show 170 = .ok (.iload_n 3, 1) := by decide +kernel
theorem dX6_show_171 : decode cX6_show 171 = .ok (.iconst 0, 1) := by decide +kernel
theorem dX6_show_172 : decode cX6_show 172 = .ok (.iload_n 3, 1) := by decide +kernel
theorem dX6_show_173 : decode cX6_show 173 = .ok (.iload_n 1, 1) := by decide +kernel
theorem dX6_show_174 : decode cX6_show 174 = .ok (.if_icmp .ge 12, 3) := by decide +kernel
theorem dX6_show_177 : decode cX6_show 177 = .ok (.aload_n 0, 1) := by decide +kernel
theorem dX6_show_178 : decode cX6_show 178 = .ok (.getfield 43, 3) := by decide +kernel
theorem dX6_show_181 : decode cX6_show 181 = .ok (.iload_n 3, 1) := by decide +kernel
theorem dX6_show_182 : decode cX6_show 182 = .ok (.iaload, 1) := by decide +kernel
theorem dX6_show_183 : decode cX6_show 183 = .ok (.goto 4, 3) := by decide +kernel
theorem dX6_show_186 : decode cX6_show 186 = .ok (.iconst 0, 1) := by decide +kernel
theorem dX6_show_187 : decode cX6_show 187 = .ok (.invokevirtual 66, 3) := by decide +kernel
theorem dX6_show_190 : decode cX6_show 190 = .ok (.iinc 3 1, 3) := by decide +kernel
theorem dX6_show_193 : decode cX6_show 193 = .ok (.goto (-34), 3) := by decide +kernel
theorem dX6_show_196 : decode cX6_show 196 = .ok (.aload_n 0, 1) := by decide +kernel
theorem dX6_show_197 : decode cX6_show 197 = .ok (.iload_n 1, 1) := by decide +kernel
theorem dX6_show_198 : decode cX6_show 198 = .ok (.invokevirtual 62, 3) := by decide +kernel
theorem dX6_show_201 : decode cX6_show 201 = .ok (.ireturn, 1) := by decide +kernel
theorem dX6_seenOf_0 : decode cX6_seenOf 0 = .ok (.iconst 0, 1) := by decide +kernel
theorem dX6_seenOf_1 : decode cX6_seenOf 1 = .ok (.istore_n 2, 1) := by decide +kernel
theorem dX6_seenOf_2 : decode cX6_seenOf 2 = .ok (.iconst 0, 1) := by decide +kernel
theorem dX6_seenOf_3 : decode cX6_seenOf 3 = .ok (.istore_n 3, 1) := by decide +kernel
theorem dX6_seenOf_4 : decode cX6_seenOf 4 = .ok (.iload_n 3, 1) := by decide +kernel
theorem dX6_seenOf_5 : decode cX6_seenOf 5 = .ok (.bipush 8, 2) := by decide +kernel
theorem dX6_seenOf_7 : decode cX6_seenOf 7 = .ok (.if_icmp .ge 43, 3) := by decide +kernel
theorem dX6_seenOf_10 : decode cX6_seenOf 10 = .ok (.iload_n 2, 1) := by decide +kernel
theorem dX6_seenOf_11 : decode cX6_seenOf 11 = .ok (.aload_n 0, 1) := by decide +kernel
theorem dX6_seenOf_12 : decode cX6_seenOf 12 = .ok (.getfield 7, 3) := by decide +kernel
theorem dX6_seenOf_15 : decode cX6_seenOf 15 = .ok (.bipush 64, 2) := by decide +kernel
theorem dX6_seenOf_17 : decode cX6_seenOf 17 = .ok (.bipush 8, 2) := by decide +kernel
theorem dX6_seenOf_19 : decode cX6_seenOf 19 = .ok (.iload_n 1, 1) := by decide +kernel
theorem dX6_seenOf_20 : decode cX6_seenOf 20 = .ok (.imul, 1) := by decide +kernel
theorem dX6_seenOf_21 : decode cX6_seenOf 21 = .ok (.iadd, 1) := by decide +kernel
theorem dX6_seenOf_22 : decode cX6_seenOf 22 = .ok (.iload_n 3, 1) := by decide +kernel
theorem dX6_seenOf_23 : decode cX6_seenOf 23 = .ok (.iadd, 1) := by decide +kernel
theorem dX6_seenOf_24 : decode cX6_seenOf 24 = .ok (.iaload, 1) := by decide +kernel
theorem dX6_seenOf_25 : decode cX6_seenOf 25 = .ok (.aload_n 0, 1) := by decide +kernel
theorem dX6_seenOf_26 : decode cX6_seenOf 26 = .ok (.getfield 7, 3) := by decide +kernel
theorem dX6_seenOf_29 : decode cX6_seenOf 29 = .ok (.bipush 7, 2) := by decide +kernel
theorem dX6_seenOf_31 : decode cX6_seenOf 31 = .ok (.iaload, 1) := by decide +kernel
theorem dX6_seenOf_32 : decode cX6_seenOf 32 = .ok (.if_icmp .lt 9, 3) := by decide +kernel
theorem dX6_seenOf_35 : decode cX6_seenOf 35 = .ok (.iconst 1, 1) := by decide +kernel
theorem dX6_seenOf_36 : decode cX6_seenOf 36 = .ok (.iload_n 3, 1) := by decide +kernel
theorem dX6_seenOf_37 : decode cX6_seenOf 37 = .ok (.ishl, 1) := by decide +kernel
theorem dX6_seenOf_38 : decode cX6_seenOf 38 = .ok (.goto 4, 3) := by decide +kernel
theorem dX6_seenOf_41 : decode cX6_seenOf 41 = .ok (.iconst 0, 1) := by decide +kernel
theorem dX6_seenOf_42 : decode cX6_seenOf 42 = .ok (.ior, 1) := by decide +kernel
theorem dX6_seenOf_43 : decode cX6_seenOf 43 = .ok (.istore_n 2, 1) := by decide +kernel
theorem dX6_seenOf_44 : decode cX6_seenOf 44 = .ok (.iinc 3 1, 3) := by decide +kernel
theorem dX6_seenOf_47 : decode cX6_seenOf 47 = .ok (.goto (-43), 3) := by decide +kernel
theorem dX6_seenOf_50 : decode cX6_seenOf 50 = .ok (.iload_n 2, 1) := by decide +kernel
theorem dX6_seenOf_51 : decode cX6_seenOf 51 = .ok (.ireturn, 1) := by decide +kernel
theorem dX6_glowOf_0 : decode cX6_glowOf 0 = .ok (.iconst 0, 1) := by decide +kernel
theorem dX6_glowOf_1 : decode cX6_glowOf 1 = .ok (.istore_n 2, 1) := by decide +kernel
theorem dX6_glowOf_2 : decode cX6_glowOf 2 = .ok (.iconst 0, 1) := by decide +kernel
theorem dX6_glowOf_3 : decode cX6_glowOf 3 = .ok (.istore_n 3, 1) := by decide +kernel
theorem dX6_glowOf_4 : decode cX6_glowOf 4 = .ok (.iload_n 3, 1) := by decide +kernel
theorem dX6_glowOf_5 : decode cX6_glowOf 5 = .ok (.bipush 8, 2) := by decide +kernel
theorem dX6_glowOf_7 : decode cX6_glowOf 7 = .ok (.if_icmp .ge 26, 3) := by decide +kernel
theorem dX6_glowOf_10 : decode cX6_glowOf 10 = .ok (.iload_n 2, 1) := by decide +kernel
theorem dX6_glowOf_11 : decode cX6_glowOf 11 = .ok (.aload_n 0, 1) := by decide +kernel
theorem dX6_glowOf_12 : decode cX6_glowOf 12 = .ok (.getfield 7, 3) := by decide +kernel
theorem dX6_glowOf_15 : decode cX6_glowOf 15 = .ok (.bipush 64, 2) := by decide +kernel
theorem dX6_glowOf_17 : decode cX6_glowOf 17 = .ok (.bipush 8, 2) := by decide +kernel
theorem dX6_glowOf_19 : decode cX6_glowOf 19 = .ok (.iload_n 1, 1) := by decide +kernel
theorem dX6_glowOf_20 : decode cX6_glowOf 20 = .ok (.imul, 1) := by decide +kernel
theorem dX6_glowOf_21 : decode cX6_glowOf 21 = .ok (.iadd, 1) := by decide +kernel
theorem dX6_glowOf_22 : decode cX6_glowOf 22 = .ok (.iload_n 3, 1) := by decide +kernel
theorem dX6_glowOf_23 : decode cX6_glowOf 23 = .ok (.iadd, 1) := by decide +kernel
theorem dX6_glowOf_24 : decode cX6_glowOf 24 = .ok (.iaload, 1) := by decide +kernel
theorem dX6_glowOf_25 : decode cX6_glowOf 25 = .ok (.iadd, 1) := by decide +kernel
theorem dX6_glowOf_26 : decode cX6_glowOf 26 = .ok (.istore_n 2, 1) := by decide +kernel
theorem dX6_glowOf_27 : decode cX6_glowOf 27 = .ok (.iinc 3 1, 3) := by decide +kernel
theorem dX6_glowOf_30 : decode cX6_glowOf 30 = .ok (.goto (-26), 3) := by decide +kernel
theorem dX6_glowOf_33 : decode cX6_glowOf 33 = .ok (.iload_n 2, 1) := by decide +kernel
theorem dX6_glowOf_34 : decode cX6_glowOf 34 = .ok (.ireturn, 1) := by decide +kernel
set_option maxRecDepth 20000 in
theorem ggX6_digit_X6_noDigit : GoodIn wsX6_digit wsX6_noDigit := goodIn_r _ [6, 1, 7, 8, 5, 9, 37, 38, 39, 40, 41, 42, 43, 44, 45, 46, 47, 48, 49] (by decide +kernel) (by decide +kernel)
set_option maxRecDepth 20000 in
theorem gX6_digit_X6_noDigit : GoodIn wsX6_digit (wsV RX6 83 RX6 yX6_noDigit wsX6_noDigit) := goodIn_app (goodIn_of _ (by decide +kernel)) ggX6_digit_X6_noDigit
set_option maxRecDepth 20000 in
theorem ggX6_digit_X6_of : GoodIn wsX6_digit wsX6_of := goodIn_r _ [13, 1, 37, 38, 39, 40, 41, 42, 43, 44, 45, 46, 47, 48, 49] (by decide +kernel) (by decide +kernel)
set_option maxRecDepth 20000 in
theorem gX6_digit_X6_of : GoodIn wsX6_digit (wsV RX6 73 RX6 yX6_of wsX6_of) := goodIn_app (goodIn_of _ (by decide +kernel)) ggX6_digit_X6_of
set_option maxRecDepth 20000 in
theorem ggX6_digit_X6_litPart : GoodIn wsX6_digit wsX6_litPart := goodIn_r _ [17, 10, 11, 12, 5, 13, 1, 37, 38, 39, 40, 41, 42, 43, 44, 45, 46, 47, 48, 49] (by decide +kernel) (by decide +kernel)
set_option maxRecDepth 20000 in
theorem gX6_digit_X6_litPart : GoodIn wsX6_digit (wsV RX6 91 RX6 yX6_litPart wsX6_litPart) := goodIn_app (goodIn_of _ (by decide +kernel)) ggX6_digit_X6_litPart
set_option maxRecDepth 20000 in
theorem ggX6_digit_X6_beginOf : GoodIn wsX6_digit wsX6_beginOf := goodIn_r _ [21, 10, 11, 12, 5, 13, 1, 37, 38, 39, 40, 41, 42, 43, 44, 45, 46, 47, 48, 49] (by decide +kernel) (by decide +kernel)
set_option maxRecDepth 20000 in
theorem gX6_digit_X6_beginOf : GoodIn wsX6_digit (wsV RX6 77 RX6 yX6_beginOf wsX6_beginOf) := goodIn_app (goodIn_of _ (by decide +kernel)) ggX6_digit_X6_beginOf
set_option maxRecDepth 20000 in
theorem ggX6_digit_X6_seenOf : GoodIn wsX6_digit wsX6_seenOf := goodIn_r _ [25, 1, 37, 38, 39, 40, 41, 42, 43, 44, 45, 46, 47, 48, 49] (by decide +kernel) (by decide +kernel)
set_option maxRecDepth 20000 in
theorem gX6_digit_X6_seenOf : GoodIn wsX6_digit (wsV RX6 136 RX6 yX6_seenOf wsX6_seenOf) := goodIn_app (goodIn_of _ (by decide +kernel)) ggX6_digit_X6_seenOf
set_option maxRecDepth 20000 in
theorem ggX6_digit_X6_glowOf : GoodIn wsX6_digit wsX6_glowOf := goodIn_r _ [29, 1, 37, 38, 39, 40, 41, 42, 43, 44, 45, 46, 47, 48, 49] (by decide +kernel) (by decide +kernel)
set_option maxRecDepth 20000 in
theorem gX6_digit_X6_glowOf : GoodIn wsX6_digit (wsV RX6 139 RX6 yX6_glowOf wsX6_glowOf) := goodIn_app (goodIn_of _ (by decide +kernel)) ggX6_digit_X6_glowOf
set_option maxRecDepth 20000 in
theorem ggX6_digit_X6_charOf : GoodIn wsX6_digit wsX6_charOf := goodIn_r _ [33, 34, 35, 5, 36] (by decide +kernel) (by decide +kernel)
set_option maxRecDepth 20000 in
theorem gX6_digit_X6_charOf : GoodIn wsX6_digit (wsV RX6 142 RX6 yX6_charOf wsX6_charOf) := goodIn_app (goodIn_of _ (by decide +kernel)) ggX6_digit_X6_charOf
theorem dX6_digit_0 : decode cX6_digit 0 = .ok (.aload_n 0, 1) := by decide +kernel
theorem dX6_digit_1 : decode cX6_digit 1 = .ok (.iload_n 1, 1) := by decide +kernel
theorem dX6_digit_2 : decode cX6_digit 2 = .ok (.invokevirtual 83, 3) := by decide +kernel
theorem dX6_digit_5 : decode cX6_digit 5 = .ok (.ifCond .eq 5, 3) := by decide +kernel
theorem dX6_digit_8 : decode cX6_digit 8 = .ok (.iconst (-1), 1) := by decide +kernel
theorem dX6_digit_9 : decode cX6_digit 9 = .ok (.ireturn, 1) := by decide +kernel
theorem dX6_digit_10 : decode cX6_digit 10 = .ok (.iload_n 2, 1) := by decide +kernel
theorem dX6_digit_11 : decode cX6_digit 11 = .ok (.tableswitch 124 0 11 #[61, 61, 61, 61, 61, 68, 74, 80, 86, 97, 103, 117], 61) := by decide +kernel
theorem dX6_digit_72 : decode cX6_digit 72 = .ok (.aload_n 0, 1) := by decide +kernel
theorem dX6_digit_73 : decode cX6_digit 73 = .ok (.iload_n 1, 1) := by decide +kernel
theorem dX6_digit_74 : decode cX6_digit 74 = .ok (.iload_n 2, 1) := by decide +kernel
theorem dX6_digit_75 : decode cX6_digit 75 = .ok (.invokevirtual 73, 3) := by decide +kernel
theorem dX6_digit_78 : decode cX6_digit 78 = .ok (.ireturn, 1) := by decide +kernel
theorem dX6_digit_79 : decode cX6_digit 79 = .ok (.aload_n 0, 1) := by decide +kernel
theorem dX6_digit_80 : decode cX6_digit 80 = .ok (.iload_n 1, 1) := by decide +kernel
theorem dX6_digit_81 : decode cX6_digit 81 = .ok (.invokevirtual 91, 3) := by decide +kernel
theorem dX6_digit_84 : decode cX6_digit 84 = .ok (.ireturn, 1) := by decide +kernel
theorem dX6_digit_85 : decode cX6_digit 85 = .ok (.aload_n 0, 1) := by decide +kernel
theorem dX6_digit_86 : decode cX6_digit 86 = .ok (.iload_n 1, 1) := by decide +kernel
theorem dX6_digit_87 : decode cX6_digit 87 = .ok (.invokevirtual 77, 3) := by decide +kernel
theorem dX6_digit_90 : decode cX6_digit 90 = .ok (.ireturn, 1) := by decide +kernel
theorem dX6_digit_91 : decode cX6_digit 91 = .ok (.aload_n 0, 1) := by decide +kernel
theorem dX6_digit_92 : decode cX6_digit 92 = .ok (.iload_n 1, 1) := by decide +kernel
theorem dX6_digit_93 : decode cX6_digit 93 = .ok (.invokevirtual 136, 3) := by decide +kernel
theorem dX6_digit_96 : decode cX6_digit 96 = .ok (.ireturn, 1) := by decide +kernel
theorem dX6_digit_97 : decode cX6_digit 97 = .ok (.aload_n 0, 1) := by decide +kernel
theorem dX6_digit_98 : decode cX6_digit 98 = .ok (.getfield 7, 3) := by decide +kernel
theorem dX6_digit_101 : decode cX6_digit 101 = .ok (.sipush 192, 3) := by decide +kernel
theorem dX6_digit_104 : decode cX6_digit 104 = .ok (.iload_n 1, 1) := by decide +kernel
theorem dX6_digit_105 : decode cX6_digit 105 = .ok (.iadd, 1) := by decide +kernel
theorem dX6_digit_106 : decode cX6_digit 106 = .ok (.iaload, 1) := by decide +kernel
theorem dX6_digit_107 : decode cX6_digit 107 = .ok (.ireturn, 1) := by decide +kernel
theorem dX6_digit_108 : decode cX6_digit 108 = .ok (.aload_n 0, 1) := by decide +kernel
theorem dX6_digit_109 : decode cX6_digit 109 = .ok (.iload_n 1, 1) := by decide +kernel
theorem dX6_digit_110 : decode cX6_digit 110 = .ok (.invokevirtual 139, 3) := by decide +kernel
theorem dX6_digit_113 : decode cX6_digit 113 = .ok (.ireturn, 1) := by decide +kernel
theorem dX6_digit_114 : decode cX6_digit 114 = .ok (.aload_n 0, 1) := by decide +kernel
theorem dX6_digit_115 : decode cX6_digit 115 = .ok (.aload_n 0, 1) := by decide +kernel
theorem dX6_digit_116 : decode cX6_digit 116 = .ok (.iload_n 1, 1) := by decide +kernel
theorem dX6_digit_117 : decode cX6_digit 117 = .ok (.iconst 0, 1) := by decide +kernel
theorem dX6_digit_118 : decode cX6_digit 118 = .ok (.invokevirtual 73, 3) := by decide +kernel
theorem dX6_digit_121 : decode cX6_digit 121 = .ok (.bipush 127, 2) := by decide +kernel
theorem dX6_digit_123 : decode cX6_digit 123 = .ok (.iand, 1) := by decide +kernel
theorem dX6_digit_124 : decode cX6_digit 124 = .ok (.invokevirtual 142, 3) := by decide +kernel
theorem dX6_digit_127 : decode cX6_digit 127 = .ok (.ireturn, 1) := by decide +kernel
theorem dX6_digit_128 : decode cX6_digit 128 = .ok (.aload_n 0, 1) := by decide +kernel
theorem dX6_digit_129 : decode cX6_digit 129 = .ok (.iload_n 1, 1) := by decide +kernel
theorem dX6_digit_130 : decode cX6_digit 130 = .ok (.iconst 5, 1) := by decide +kernel
theorem dX6_digit_131 : decode cX6_digit 131 = .ok (.invokevirtual 73, 3) := by decide +kernel
theorem dX6_digit_134 : decode cX6_digit 134 = .ok (.ireturn, 1) := by decide +kernel
theorem dX6_digit_135 : decode cX6_digit 135 = .ok (.bipush (-2), 2) := by decide +kernel
theorem dX6_digit_137 : decode cX6_digit 137 = .ok (.ireturn, 1) := by decide +kernel
set_option maxRecDepth 20000 in
theorem ggX6_segment_X6_noDigit : GoodIn wsX6_segment wsX6_noDigit := goodIn_r _ [6, 1, 7, 8, 5, 9, 14, 15, 16, 17, 18, 19, 20, 21, 22, 23, 24, 25, 26] (by decide +kernel) (by decide +kernel)
set_option maxRecDepth 20000 in
theorem gX6_segment_X6_noDigit : GoodIn wsX6_segment (wsV RX6 83 RX6 yX6_noDigit wsX6_noDigit) := goodIn_app (goodIn_of _ (by decide +kernel)) ggX6_segment_X6_noDigit
set_option maxRecDepth 20000 in
theorem ggX6_segment_X6_in : GoodIn wsX6_segment wsX6_in := goodIn_r _ [9] (by decide +kernel) (by decide +kernel)
set_option maxRecDepth 20000 in
theorem gX6_segment_X6_in : GoodIn wsX6_segment (va_wsS RX6 55 yX6_in wsX6_in) := goodIn_app (goodIn_of _ (by decide +kernel)) ggX6_segment_X6_in
set_option maxRecDepth 20000 in
theorem ggX6_segment_X6_seenOf : GoodIn wsX6_segment wsX6_seenOf := goodIn_r _ [13, 1, 14, 15, 16, 17, 18, 19, 20, 21, 22, 23, 24, 25, 26] (by decide +kernel) (by decide +kernel)
set_option maxRecDepth 20000 in
theorem gX6_segment_X6_seenOf : GoodIn wsX6_segment (wsV RX6 136 RX6 yX6_seenOf wsX6_seenOf) := goodIn_app (goodIn_of _ (by decide +kernel)) ggX6_segment_X6_seenOf
theorem dX6_segment_0 : decode cX6_segment 0 = .ok (.aload_n 0, 1) := by decide +kernel
theorem dX6_segment_1 : decode cX6_segment 1 = .ok (.iload_n 1, 1) := by decide +kernel
theorem dX6_segment_2 : decode cX6_segment 2 = .ok (.invokevirtual 83, 3) := by decide +kernel
theorem dX6_segment_5 : decode cX6_segment 5 = .ok (.ifCond .ne 13, 3) := by decide +kernel
theorem dX6_segment_8 : decode cX6_segment 8 = .ok (.iload_n 2, 1) := by decide +kernel
theorem dX6_segment_9 : decode cX6_segment 9 = .ok (.iconst 0, 1) := by decide +kernel
theorem dX6_segment_10 : decode cX6_segment 10 = .ok (.bipush 7, 2) := by decide +kernel
theorem dX6_segment_12 : decode cX6_segment 12 = .ok (.invokestatic 55, 3) := by decide +kernel
theorem dX6_segment_15 : decode cX6_segment 15 = .ok (.ifCond .ne 5, 3) := by decide +kernel
theorem dX6_segment_18 : decode cX6_segment 18 = .ok (.iconst (-1), 1) := by decide +kernel
theorem dX6_segment_19 : decode cX6_segment 19 = .ok (.ireturn, 1) := by decide +kernel
theorem dX6_segment_20 : decode cX6_segment 20 = .ok (.iload_n 3, 1) := by decide +kernel
theorem dX6_segment_21 : decode cX6_segment 21 = .ok (.tableswitch 87 0 3 #[31, 46, 62, 77], 31) := by decide +kernel
theorem dX6_segment_52 : decode cX6_segment 52 = .ok (.aload_n 0, 1) := by decide +kernel
theorem dX6_segment_53 : decode cX6_segment 53 = .ok (.getfield 7, 3) := by decide +kernel
theorem dX6_segment_56 : decode cX6_segment 56 = .ok (.bipush 64, 2) := by decide +kernel
theorem dX6_segment_58 : decode cX6_segment 58 = .ok (.bipush 8, 2) := by decide +kernel
theorem dX6_segment_60 : decode cX6_segment 60 = .ok (.iload_n 1, 1) := by decide +kernel
theorem dX6_segment_61 : decode cX6_segment 61 = .ok (.imul, 1) := by decide +kernel
theorem dX6_segment_62 : decode cX6_segment 62 = .ok (.iadd, 1) := by decide +kernel
theorem dX6_segment_63 : decode cX6_segment 63 = .ok (.iload_n 2, 1) := by decide +kernel
theorem dX6_segment_64 : decode cX6_segment 64 = .ok (.iadd, 1) := by decide +kernel
theorem dX6_segment_65 : decode cX6_segment 65 = .ok (.iaload, 1) := by decide +kernel
theorem dX6_segment_66 : decode cX6_segment 66 = .ok (.ireturn, 1) := by decide +kernel
theorem dX6_segment_67 : decode cX6_segment 67 = .ok (.aload_n 0, 1) := by decide +kernel
theorem dX6_segment_68 : decode cX6_segment 68 = .ok (.getfield 7, 3) := by decide +kernel
theorem dX6_segment_71 : decode cX6_segment 71 = .ok (.sipush 128, 3) := by decide +kernel
theorem dX6_segment_74 : decode cX6_segment 74 = .ok (.bipush 8, 2) := by decide +kernel
theorem dX6_segment_76 : decode cX6_segment 76 = .ok (.iload_n 1, 1) := by decide +kernel
theorem dX6_segment_77 : decode cX6_segment 77 = .ok (.imul, 1) := by decide +kernel
theorem dX6_segment_78 : decode cX6_segment 78 = .ok (.iadd, 1) := by decide +kernel
theorem dX6_segment_79 : decode cX6_segment 79 = .ok (.iload_n 2, 1) := by decide +kernel
theorem dX6_segment_80 : decode cX6_segment 80 = .ok (.iadd, 1) := by decide +kernel
theorem dX6_segment_81 : decode cX6_segment 81 = .ok (.iaload, 1) := by decide +kernel
theorem dX6_segment_82 : decode cX6_segment 82 = .ok (.ireturn, 1) := by decide +kernel
theorem dX6_segment_83 : decode cX6_segment 83 = .ok (.aload_n 0, 1) := by decide +kernel
theorem dX6_segment_84 : decode cX6_segment 84 = .ok (.getfield 7, 3) := by decide +kernel
theorem dX6_segment_87 : decode cX6_segment 87 = .ok (.sipush 192, 3) := by decide +kernel
theorem dX6_segment_90 : decode cX6_segment 90 = .ok (.iload_n 1, 1) := by decide +kernel
theorem dX6_segment_91 : decode cX6_segment 91 = .ok (.iadd, 1) := by decide +kernel
theorem dX6_segment_92 : decode cX6_segment 92 = .ok (.iaload, 1) := by decide +kernel
theorem dX6_segment_93 : decode cX6_segment 93 = .ok (.iload_n 2, 1) := by decide +kernel
theorem dX6_segment_94 : decode cX6_segment 94 = .ok (.ishr, 1) := by decide +kernel
theorem dX6_segment_95 : decode cX6_segment 95 = .ok (.iconst 1, 1) := by decide +kernel
theorem dX6_segment_96 : decode cX6_segment 96 = .ok (.iand, 1) := by decide +kernel
theorem dX6_segment_97 : decode cX6_segment 97 = .ok (.ireturn, 1) := by decide +kernel
theorem dX6_segment_98 : decode cX6_segment 98 = .ok (.aload_n 0, 1) := by decide +kernel
theorem dX6_segment_99 : decode cX6_segment 99 = .ok (.iload_n 1, 1) := by decide +kernel
theorem dX6_segment_100 : decode cX6_segment 100 = .ok (.invokevirtual 136, 3) := by decide +kernel
theorem dX6_segment_103 : decode cX6_segment 103 = .ok (.iload_n 2, 1) := by decide +kernel
theorem dX6_segment_104 : decode cX6_segment 104 = .ok (.ishr, 1) := by decide +kernel
theorem dX6_segment_105 : decode cX6_segment 105 = .ok (.iconst 1, 1) := by decide +kernel
theorem dX6_segment_106 : decode cX6_segment 106 = .ok (.iand, 1) := by decide +kernel
theorem dX6_segment_107 : decode cX6_segment 107 = .ok (.ireturn, 1) := by decide +kernel
theorem dX6_segment_108 : decode cX6_segment 108 = .ok (.bipush (-2), 2) := by decide +kernel
theorem dX6_segment_110 : decode cX6_segment 110 = .ok (.ireturn, 1) := by decide +kernel
set_option maxRecDepth 20000 in
theorem ggX6_litIn_X6_noDigit : GoodIn wsX6_litIn wsX6_noDigit := goodIn_r _ [5, 6, 7, 8, 4, 9, 79, 80, 81, 82, 83, 84, 85, 86, 87, 88, 89, 90, 91] (by decide +kernel) (by decide +kernel)
set_option maxRecDepth 20000 in
theorem gX6_litIn_X6_noDigit : GoodIn wsX6_litIn (wsV RX6 83 RX6 yX6_noDigit wsX6_noDigit) := goodIn_app (goodIn_of _ (by decide +kernel)) ggX6_litIn_X6_noDigit
set_option maxRecDepth 20000 in
theorem ggX6_litIn_X6_in : GoodIn wsX6_litIn wsX6_in := goodIn_r _ [9] (by decide +kernel) (by decide +kernel)
set_option maxRecDepth 20000 in
theorem gX6_litIn_X6_in : GoodIn wsX6_litIn (va_wsS RX6 55 yX6_in wsX6_in) := goodIn_app (goodIn_of _ (by decide +kernel)) ggX6_litIn_X6_in
set_option maxRecDepth 20000 in
theorem ggX6_litIn_X6_begin : GoodIn wsX6_litIn wsX6_begin := goodIn_r _ [13, 14, 6, 15, 16, 79, 80, 81, 82, 83, 84, 85, 86, 87, 88, 89, 90, 91] (by decide +kernel) (by decide +kernel)
set_option maxRecDepth 20000 in
theorem gX6_litIn_X6_begin : GoodIn wsX6_litIn (wsV RX6 59 RX6 yX6_begin wsX6_begin) := goodIn_app (goodIn_of _ (by decide +kernel)) ggX6_litIn_X6_begin
set_option maxRecDepth 20000 in
theorem ggX6_litIn_X6_tick : GoodIn wsX6_litIn wsX6_tick := goodIn_r _ [20, 6, 16, 21, 22, 23, 24, 25, 26, 4, 27, 28, 29, 30, 31, 32, 33, 34, 35, 36, 37, 38, 39, 40, 41, 42, 43, 44, 45, 46, 47, 48, 49, 50, 51, 52, 53, 54, 55, 56, 57, 58, 59, 60, 61, 62, 63, 64, 65, 66, 67, 68, 69, 70, 71, 72, 73, 74, 79, 80, 81, 82, 83, 84, 85, 86, 87, 88, 89, 90, 91] (by decide +kernel) (by decide +kernel)
set_option maxRecDepth 20000 in
theorem gX6_litIn_X6_tick : GoodIn wsX6_litIn (wsV RX6 126 RX6 yX6_tick wsX6_tick) := goodIn_app (goodIn_of _ (by decide +kernel)) ggX6_litIn_X6_tick
set_option maxRecDepth 20000 in
theorem ggX6_litIn_X6_litNow : GoodIn wsX6_litIn wsX6_litNow := goodIn_r _ [39, 6, 24, 25, 26, 4, 27, 28, 29, 30, 31, 32, 33, 34, 35, 40, 41, 42, 43, 44, 45, 46, 47, 48, 49, 50, 51, 79, 80, 81, 82, 83, 84, 85, 86, 87, 88, 89, 90, 91] (by decide +kernel) (by decide +kernel)
set_option maxRecDepth 20000 in
theorem gX6_litIn_X6_litNow : GoodIn wsX6_litIn (wsV RX6 116 RX6 yX6_litNow wsX6_litNow) := goodIn_app (goodIn_of _ (by decide +kernel)) ggX6_litIn_X6_litNow
set_option maxRecDepth 20000 in
theorem ggX6_litIn_X6_goBack : GoodIn wsX6_litIn wsX6_goBack := goodIn_r _ [78, 6, 14, 16, 15, 79, 80, 81, 82, 83, 84, 85, 86, 87, 88, 89, 90, 91] (by decide +kernel) (by decide +kernel)
set_option maxRecDepth 20000 in
theorem gX6_litIn_X6_goBack : GoodIn wsX6_litIn (wsV RX6 145 RX6 yX6_goBack wsX6_goBack) := goodIn_app (goodIn_of _ (by decide +kernel)) ggX6_litIn_X6_goBack
theorem dX6_litIn_0 : decode cX6_litIn 0 = .ok (.aload_n 0, 1) := by decide +kernel
theorem dX6_litIn_1 : decode cX6_litIn 1 = .ok (.iload_n 1, 1) := by decide +kernel
theorem dX6_litIn_2 : decode cX6_litIn 2 = .ok (.invokevirtual 83, 3) := by decide +kernel
theorem dX6_litIn_5 : decode cX6_litIn 5 = .ok (.ifCond .eq 5, 3) := by decide +kernel
theorem dX6_litIn_8 : decode cX6_litIn 8 = .ok (.iconst (-1), 1) := by decide +kernel
theorem dX6_litIn_9 : decode cX6_litIn 9 = .ok (.ireturn, 1) := by decide +kernel
theorem dX6_litIn_10 : decode cX6_litIn 10 = .ok (.iload_n 2, 1) := by decide +kernel
theorem dX6_litIn_11 : decode cX6_litIn 11 = .ok (.iconst 0, 1) := by decide +kernel
theorem dX6_litIn_12 : decode cX6_litIn 12 = .ok (.sipush 500, 3) := by decide +kernel
theorem dX6_litIn_15 : decode cX6_litIn 15 = .ok (.invokestatic 55, 3) := by decide +kernel
theorem dX6_litIn_18 : decode cX6_litIn 18 = .ok (.ifCond .ne 6, 3) := by decide +kernel
theorem dX6_litIn_21 : decode cX6_litIn 21 = .ok (.bipush (-2), 2) := by decide +kernel
theorem dX6_litIn_23 : decode cX6_litIn 23 = .ok (.ireturn, 1) := by decide +kernel
theorem dX6_litIn_24 : decode cX6_litIn 24 = .ok (.aload_n 0, 1) := by decide +kernel
theorem dX6_litIn_25 : decode cX6_litIn 25 = .ok (.invokevirtual 59, 3) := by decide +kernel
theorem dX6_litIn_28 : decode cX6_litIn 28 = .ok (.iconst 0, 1) := by decide +kernel
theorem dX6_litIn_29 : decode cX6_litIn 29 = .ok (.istore_n 3, 1) := by decide +kernel
theorem dX6_litIn_30 : decode cX6_litIn 30 = .ok (.iload_n 3, 1) := by decide +kernel
theorem dX6_litIn_31 : decode cX6_litIn 31 = .ok (.iload_n 2, 1) := by decide +kernel
theorem dX6_litIn_32 : decode cX6_litIn 32 = .ok (.if_icmp .ge 15, 3) := by decide +kernel
theorem dX6_litIn_35 : decode cX6_litIn 35 = .ok (.aload_n 0, 1) := by decide +kernel
theorem dX6_litIn_36 : decode cX6_litIn 36 = .ok (.invokevirtual 126, 3) := by decide +kernel
theorem dX6_litIn_39 : decode cX6_litIn 39 = .ok (.istore 4, 2) := by decide +kernel
theorem dX6_litIn_41 : decode cX6_litIn 41 = .ok (.iinc 3 1, 3) := by decide +kernel
theorem dX6_litIn_44 : decode cX6_litIn 44 = .ok (.goto (-14), 3) := by decide +kernel
theorem dX6_litIn_47 : decode cX6_litIn 47 = .ok (.aload_n 0, 1) := by decide +kernel
theorem dX6_litIn_48 : decode cX6_litIn 48 = .ok (.iload_n 1, 1) := by decide +kernel
theorem dX6_litIn_49 : decode cX6_litIn 49 = .ok (.invokevirtual 116, 3) := by decide +kernel
theorem dX6_litIn_52 : decode cX6_litIn 52 = .ok (.istore_n 3, 1) := by decide +kernel
theorem dX6_litIn_53 : decode cX6_litIn 53 = .ok (.aload_n 0, 1) := by decide +kernel
theorem dX6_litIn_54 : decode cX6_litIn 54 = .ok (.invokevirtual 145, 3) := by decide +kernel
theorem dX6_litIn_57 : decode cX6_litIn 57 = .ok (.iload_n 3, 1) := by decide +kernel
theorem dX6_litIn_58 : decode cX6_litIn 58 = .ok (.ireturn, 1) := by decide +kernel
set_option maxRecDepth 20000 in
theorem ggX6_steadyGlow_X6_noDigit : GoodIn wsX6_steadyGlow wsX6_noDigit := goodIn_r _ [5, 6, 7, 8, 4, 9, 33, 34, 35, 36, 37, 38, 39, 40, 41, 42, 43, 44, 45] (by decide +kernel) (by decide +kernel)
set_option maxRecDepth 20000 in
theorem gX6_steadyGlow_X6_noDigit : GoodIn wsX6_steadyGlow (wsV RX6 83 RX6 yX6_noDigit wsX6_noDigit) := goodIn_app (goodIn_of _ (by decide +kernel)) ggX6_steadyGlow_X6_noDigit
set_option maxRecDepth 20000 in
theorem ggX6_steadyGlow_X6_litPart : GoodIn wsX6_steadyGlow wsX6_litPart := goodIn_r _ [13, 14, 15, 16, 4, 17, 6, 33, 34, 35, 36, 37, 38, 39, 40, 41, 42, 43, 44, 45] (by decide +kernel) (by decide +kernel)
set_option maxRecDepth 20000 in
theorem gX6_steadyGlow_X6_litPart : GoodIn wsX6_steadyGlow (wsV RX6 91 RX6 yX6_litPart wsX6_litPart) := goodIn_app (goodIn_of _ (by decide +kernel)) ggX6_steadyGlow_X6_litPart
set_option maxRecDepth 20000 in
theorem ggX6_steadyGlow_X6_frameLength : GoodIn wsX6_steadyGlow wsX6_frameLength := goodIn_r _ [21, 6, 22, 23, 24, 4, 25, 14, 15, 16, 17, 33, 34, 35, 36, 37, 38, 39, 40, 41, 42, 43, 44, 45] (by decide +kernel) (by decide +kernel)
set_option maxRecDepth 20000 in
theorem gX6_steadyGlow_X6_frameLength : GoodIn wsX6_steadyGlow (wsV RX6 87 RX6 yX6_frameLength wsX6_frameLength) := goodIn_app (goodIn_of _ (by decide +kernel)) ggX6_steadyGlow_X6_frameLength
set_option maxRecDepth 20000 in
theorem ggX6_steadyGlow_X6_brighter : GoodIn wsX6_steadyGlow wsX6_brighter := goodIn_r _ [28] (by decide +kernel) (by decide +kernel)
set_option maxRecDepth 20000 in
theorem gX6_steadyGlow_X6_brighter : GoodIn wsX6_steadyGlow (va_wsS RX6 110 yX6_brighter wsX6_brighter) := goodIn_app (goodIn_of _ (by decide +kernel)) ggX6_steadyGlow_X6_brighter
set_option maxRecDepth 20000 in
theorem ggX6_steadyGlow_X6_darker : GoodIn wsX6_steadyGlow wsX6_darker := goodIn_r _ [32, 6, 33, 34, 35, 36, 37, 38, 39, 40, 41, 42, 43, 44, 45] (by decide +kernel) (by decide +kernel)
set_option maxRecDepth 20000 in
theorem gX6_steadyGlow_X6_darker : GoodIn wsX6_steadyGlow (wsV RX6 113 RX6 yX6_darker wsX6_darker) := goodIn_app (goodIn_of _ (by decide +kernel)) ggX6_steadyGlow_X6_darker
theorem dX6_steadyGlow_0 : decode cX6_steadyGlow 0 = .ok (.aload_n 0, 1) := by decide +kernel
theorem dX6_steadyGlow_1 : decode cX6_steadyGlow 1 = .ok (.iload_n 1, 1) := by decide +kernel
theorem dX6_steadyGlow_2 : decode cX6_steadyGlow 2 = .ok (.invokevirtual 83, 3) := by decide +kernel
theorem dX6_steadyGlow_5 : decode cX6_steadyGlow 5 = .ok (.ifCond .eq 5, 3) := by decide +kernel
theorem dX6_steadyGlow_8 : decode cX6_steadyGlow 8 = .ok (.iconst (-1), 1) := by decide +kernel
theorem dX6_steadyGlow_9 : decode cX6_steadyGlow 9 = .ok (.ireturn, 1) := by decide +kernel
theorem dX6_steadyGlow_10 : decode cX6_steadyGlow 10 = .ok (.aload_n 0, 1) := by decide +kernel
theorem dX6_steadyGlow_11 : decode cX6_steadyGlow 11 = .ok (.iload_n 1, 1) := by decide +kernel
theorem dX6_steadyGlow_12 : decode cX6_steadyGlow 12 = .ok (.invokevirtual 91, 3) := by decide +kernel
theorem dX6_steadyGlow_15 : decode cX6_steadyGlow 15 = .ok (.istore_n 2, 1) := by decide +kernel
theorem dX6_steadyGlow_16 : decode cX6_steadyGlow 16 = .ok (.aload_n 0, 1) := by decide +kernel
theorem dX6_steadyGlow_17 : decode cX6_steadyGlow 17 = .ok (.invokevirtual 87, 3) := by decide +kernel
theorem dX6_steadyGlow_20 : decode cX6_steadyGlow 20 = .ok (.iload_n 2, 1) := by decide +kernel
theorem dX6_steadyGlow_21 : decode cX6_steadyGlow 21 = .ok (.isub, 1) := by decide +kernel
theorem dX6_steadyGlow_22 : decode cX6_steadyGlow 22 = .ok (.istore_n 3, 1) := by decide +kernel
theorem dX6_steadyGlow_23 : decode cX6_steadyGlow 23 = .ok (.bipush (-4), 2) := by decide +kernel
theorem dX6_steadyGlow_25 : decode cX6_steadyGlow 25 = .ok (.istore 4, 2) := by decide +kernel
theorem dX6_steadyGlow_27 : decode cX6_steadyGlow 27 = .ok (.iconst 0, 1) := by decide +kernel
theorem dX6_steadyGlow_28 : decode cX6_steadyGlow 28 = .ok (.istore 5, 2) := by decide +kernel
theorem dX6_steadyGlow_30 : decode cX6_steadyGlow 30 = .ok (.iconst 0, 1) := by decide +kernel
theorem dX6_steadyGlow_31 : decode cX6_steadyGlow 31 = .ok (.istore 6, 2) := by decide +kernel
theorem dX6_steadyGlow_33 : decode cX6_steadyGlow 33 = .ok (.iload_n 2, 1) := by decide +kernel
theorem dX6_steadyGlow_34 : decode cX6_steadyGlow 34 = .ok (.ifCond .le 76, 3) := by decide +kernel
theorem dX6_steadyGlow_37 : decode cX6_steadyGlow 37 = .ok (.iload 5, 2) := by decide +kernel
theorem dX6_steadyGlow_39 : decode cX6_steadyGlow 39 = .ok (.iload 4, 2) := by decide +kernel
theorem dX6_steadyGlow_41 : decode cX6_steadyGlow 41 = .ok (.if_icmp .eq 69, 3) := by decide +kernel
theorem dX6_steadyGlow_44 : decode cX6_steadyGlow 44 = .ok (.iload 5, 2) := by decide +kernel
theorem dX6_steadyGlow_46 : decode cX6_steadyGlow 46 = .ok (.ifCond .ne 8, 3) := by decide +kernel
theorem dX6_steadyGlow_49 : decode cX6_steadyGlow 49 = .ok (.bipush (-4), 2) := by decide +kernel
theorem dX6_steadyGlow_51 : decode cX6_steadyGlow 51 = .ok (.goto 5, 3) := by decide +kernel
theorem dX6_steadyGlow_54 : decode cX6_steadyGlow 54 = .ok (.iload 5, 2) := by decide +kernel
theorem dX6_steadyGlow_56 : decode cX6_steadyGlow 56 = .ok (.istore 4, 2) := by decide +kernel
theorem dX6_steadyGlow_58 : decode cX6_steadyGlow 58 = .ok (.iconst 0, 1) := by decide +kernel
theorem dX6_steadyGlow_59 : decode cX6_steadyGlow 59 = .ok (.istore 7, 2) := by decide +kernel
theorem dX6_steadyGlow_61 : decode cX6_steadyGlow 61 = .ok (.iload 7, 2) := by decide +kernel
theorem dX6_steadyGlow_63 : decode cX6_steadyGlow 63 = .ok (.iload_n 2, 1) := by decide +kernel
theorem dX6_steadyGlow_64 : decode cX6_steadyGlow 64 = .ok (.if_icmp .ge 16, 3) := by decide +kernel
theorem dX6_steadyGlow_67 : decode cX6_steadyGlow 67 = .ok (.iload 6, 2) := by decide +kernel
theorem dX6_steadyGlow_69 : decode cX6_steadyGlow 69 = .ok (.invokestatic 110, 3) := by decide +kernel
theorem dX6_steadyGlow_72 : decode cX6_steadyGlow 72 = .ok (.istore 6, 2) := by decide +kernel
theorem dX6_steadyGlow_74 : decode cX6_steadyGlow 74 = .ok (.iinc 7 1, 3) := by decide +kernel
theorem dX6_steadyGlow_77 : decode cX6_steadyGlow 77 = .ok (.goto (-16), 3) := by decide +kernel
theorem dX6_steadyGlow_80 : decode cX6_steadyGlow 80 = .ok (.iload 6, 2) := by decide +kernel
theorem dX6_steadyGlow_82 : decode cX6_steadyGlow 82 = .ok (.istore 5, 2) := by decide +kernel
theorem dX6_steadyGlow_84 : decode cX6_steadyGlow 84 = .ok (.iconst 0, 1) := by decide +kernel
theorem dX6_steadyGlow_85 : decode cX6_steadyGlow 85 = .ok (.istore 7, 2) := by decide +kernel
theorem dX6_steadyGlow_87 : decode cX6_steadyGlow 87 = .ok (.iload 7, 2) := by decide +kernel
theorem dX6_steadyGlow_89 : decode cX6_steadyGlow 89 = .ok (.iload_n 3, 1) := by decide +kernel
theorem dX6_steadyGlow_90 : decode cX6_steadyGlow 90 = .ok (.if_icmp .ge 17, 3) := by decide +kernel
theorem dX6_steadyGlow_93 : decode cX6_steadyGlow 93 = .ok (.aload_n 0, 1) := by decide +kernel
theorem dX6_steadyGlow_94 : decode cX6_steadyGlow 94 = .ok (.iload 6, 2) := by decide +kernel
theorem dX6_steadyGlow_96 : decode cX6_steadyGlow 96 = .ok (.invokevirtual 113, 3) := by decide +kernel
theorem dX6_steadyGlow_99 : decode cX6_steadyGlow 99 = .ok (.istore 6, 2) := by decide +kernel
theorem dX6_steadyGlow_101 : decode cX6_steadyGlow 101 = .ok (.iinc 7 1, 3) := by decide +kernel
theorem dX6_steadyGlow_104 : decode cX6_steadyGlow 104 = .ok (.goto (-17), 3) := by decide +kernel
theorem dX6_steadyGlow_107 : decode cX6_steadyGlow 107 = .ok (.goto (-74), 3) := by decide +kernel
theorem dX6_steadyGlow_110 : decode cX6_steadyGlow 110 = .ok (.iload 5, 2) := by decide +kernel
theorem dX6_steadyGlow_112 : decode cX6_steadyGlow 112 = .ok (.ireturn, 1) := by decide +kernel
set_option maxRecDepth 20000 in
theorem ggX6_current_X6_in : GoodIn wsX6_current wsX6_in := goodIn_r _ [5] (by decide +kernel) (by decide +kernel)
set_option maxRecDepth 20000 in
theorem gX6_current_X6_in : GoodIn wsX6_current (va_wsS RX6 55 yX6_in wsX6_in) := goodIn_app (goodIn_of _ (by decide +kernel)) ggX6_current_X6_in
theorem dX6_current_0 : decode cX6_current 0 = .ok (.iload_n 1, 1) := by decide +kernel
theorem dX6_current_1 : decode cX6_current 1 = .ok (.iconst 0, 1) := by decide +kernel
theorem dX6_current_2 : decode cX6_current 2 = .ok (.iconst 2, 1) := by decide +kernel
theorem dX6_current_3 : decode cX6_current 3 = .ok (.invokestatic 55, 3) := by decide +kernel
theorem dX6_current_6 : decode cX6_current 6 = .ok (.ifCond .eq 12, 3) := by decide +kernel
theorem dX6_current_9 : decode cX6_current 9 = .ok (.aload_n 0, 1) := by decide +kernel
theorem dX6_current_10 : decode cX6_current 10 = .ok (.getfield 13, 3) := by decide +kernel
theorem dX6_current_13 : decode cX6_current 13 = .ok (.iload_n 1, 1) := by decide +kernel
theorem dX6_current_14 : decode cX6_current 14 = .ok (.faload, 1) := by decide +kernel
theorem dX6_current_15 : decode cX6_current 15 = .ok (.goto 4, 3) := by decide +kernel
theorem dX6_current_18 : decode cX6_current 18 = .ok (.fconst 0, 1) := by decide +kernel
theorem dX6_current_19 : decode cX6_current 19 = .ok (.freturn, 1) := by decide +kernel
set_option maxRecDepth 20000 in
theorem ggX6_thousandths_X6_in : GoodIn wsX6_thousandths wsX6_in := goodIn_r _ [6] (by decide +kernel) (by decide +kernel)
set_option maxRecDepth 20000 in
theorem gX6_thousandths_X6_in : GoodIn wsX6_thousandths (va_wsS RX6 55 yX6_in wsX6_in) := goodIn_app (goodIn_of _ (by decide +kernel)) ggX6_thousandths_X6_in
theorem dX6_thousandths_0 : decode cX6_thousandths 0 = .ok (.iload_n 1, 1) := by decide +kernel
theorem dX6_thousandths_1 : decode cX6_thousandths 1 = .ok (.iconst 0, 1) := by decide +kernel
theorem dX6_thousandths_2 : decode cX6_thousandths 2 = .ok (.iconst 2, 1) := by decide +kernel
theorem dX6_thousandths_3 : decode cX6_thousandths 3 = .ok (.invokestatic 55, 3) := by decide +kernel
theorem dX6_thousandths_6 : decode cX6_thousandths 6 = .ok (.ifCond .eq 16, 3) := by decide +kernel
theorem dX6_thousandths_9 : decode cX6_thousandths 9 = .ok (.aload_n 0, 1) := by decide +kernel
theorem dX6_thousandths_10 : decode cX6_thousandths 10 = .ok (.getfield 13, 3) := by decide +kernel
theorem dX6_thousandths_13 : decode cX6_thousandths 13 = .ok (.iload_n 1, 1) := by decide +kernel
theorem dX6_thousandths_14 : decode cX6_thousandths 14 = .ok (.faload, 1) := by decide +kernel
theorem dX6_thousandths_15 : decode cX6_thousandths 15 = .ok (.ldc 148, 2) := by decide +kernel
theorem dX6_thousandths_17 : decode cX6_thousandths 17 = .ok (.fmul, 1) := by decide +kernel
theorem dX6_thousandths_18 : decode cX6_thousandths 18 = .ok (.f2i, 1) := by decide +kernel
theorem dX6_thousandths_19 : decode cX6_thousandths 19 = .ok (.goto 5, 3) := by decide +kernel
theorem dX6_thousandths_22 : decode cX6_thousandths 22 = .ok (.bipush (-2), 2) := by decide +kernel
theorem dX6_thousandths_24 : decode cX6_thousandths 24 = .ok (.ireturn, 1) := by decide +kernel
set_option maxRecDepth 20000 in
theorem ggX6_duty_X6_noDigit : GoodIn wsX6_duty wsX6_noDigit := goodIn_r _ [6, 1, 7, 8, 5, 9, 14, 15, 16, 17, 18, 19, 20, 21, 22, 23, 24, 25, 26] (by decide +kernel) (by decide +kernel)
set_option maxRecDepth 20000 in
theorem gX6_duty_X6_noDigit : GoodIn wsX6_duty (wsV RX6 83 RX6 yX6_noDigit wsX6_noDigit) := goodIn_app (goodIn_of _ (by decide +kernel)) ggX6_duty_X6_noDigit
set_option maxRecDepth 20000 in
theorem ggX6_duty_X6_of : GoodIn wsX6_duty wsX6_of := goodIn_r _ [13, 1, 14, 15, 16, 17, 18, 19, 20, 21, 22, 23, 24, 25, 26] (by decide +kernel) (by decide +kernel)
set_option maxRecDepth 20000 in
theorem gX6_duty_X6_of : GoodIn wsX6_duty (wsV RX6 73 RX6 yX6_of wsX6_of) := goodIn_app (goodIn_of _ (by decide +kernel)) ggX6_duty_X6_of
theorem dX6_duty_0 : decode cX6_duty 0 = .ok (.aload_n 0, 1) := by decide +kernel
theorem dX6_duty_1 : decode cX6_duty 1 = .ok (.iload_n 1, 1) := by decide +kernel
theorem dX6_duty_2 : decode cX6_duty 2 = .ok (.invokevirtual 83, 3) := by decide +kernel
theorem dX6_duty_5 : decode cX6_duty 5 = .ok (.ifCond .ne 12, 3) := by decide +kernel
theorem dX6_duty_8 : decode cX6_duty 8 = .ok (.aload_n 0, 1) := by decide +kernel
theorem dX6_duty_9 : decode cX6_duty 9 = .ok (.getfield 7, 3) := by decide +kernel
theorem dX6_duty_12 : decode cX6_duty 12 = .ok (.iconst 1, 1) := by decide +kernel
theorem dX6_duty_13 : decode cX6_duty 13 = .ok (.iaload, 1) := by decide +kernel
theorem dX6_duty_14 : decode cX6_duty 14 = .ok (.ifCond .ne 7, 3) := by decide +kernel
theorem dX6_duty_17 : decode cX6_duty 17 = .ok (.fconst 0, 1) := by decide +kernel
theorem dX6_duty_18 : decode cX6_duty 18 = .ok (.goto 18, 3) := by decide +kernel
theorem dX6_duty_21 : decode cX6_duty 21 = .ok (.aload_n 0, 1) := by decide +kernel
theorem dX6_duty_22 : decode cX6_duty 22 = .ok (.iload_n 1, 1) := by decide +kernel
theorem dX6_duty_23 : decode cX6_duty 23 = .ok (.iconst 5, 1) := by decide +kernel
theorem dX6_duty_24 : decode cX6_duty 24 = .ok (.invokevirtual 73, 3) := by decide +kernel
theorem dX6_duty_27 : decode cX6_duty 27 = .ok (.i2f, 1) := by decide +kernel
theorem dX6_duty_28 : decode cX6_duty 28 = .ok (.aload_n 0, 1) := by decide +kernel
theorem dX6_duty_29 : decode cX6_duty 29 = .ok (.getfield 7, 3) := by decide +kernel
theorem dX6_duty_32 : decode cX6_duty 32 = .ok (.iconst 1, 1) := by decide +kernel
theorem dX6_duty_33 : decode cX6_duty 33 = .ok (.iaload, 1) := by decide +kernel
theorem dX6_duty_34 : decode cX6_duty 34 = .ok (.i2f, 1) := by decide +kernel
theorem dX6_duty_35 : decode cX6_duty 35 = .ok (.fdiv, 1) := by decide +kernel
theorem dX6_duty_36 : decode cX6_duty 36 = .ok (.freturn, 1) := by decide +kernel
set_option maxRecDepth 20000 in
theorem ggX6_broken_X6_brokenOf : GoodIn wsX6_broken wsX6_brokenOf := goodIn_r _ [6, 1, 7, 8, 9, 10, 11, 12, 13, 14, 15, 16, 17, 18, 19] (by decide +kernel) (by decide +kernel)
set_option maxRecDepth 20000 in
theorem gX6_broken_X6_brokenOf : GoodIn wsX6_broken (wsV RX6 98 RX6 yX6_brokenOf wsX6_brokenOf) := goodIn_app (goodIn_of _ (by decide +kernel)) ggX6_broken_X6_brokenOf
theorem dX6_broken_0 : decode cX6_broken 0 = .ok (.iconst 0, 1) := by decide +kernel
theorem dX6_broken_1 : decode cX6_broken 1 = .ok (.istore_n 1, 1) := by decide +kernel
theorem dX6_broken_2 : decode cX6_broken 2 = .ok (.iconst 0, 1) := by decide +kernel
theorem dX6_broken_3 : decode cX6_broken 3 = .ok (.istore_n 2, 1) := by decide +kernel
theorem dX6_broken_4 : decode cX6_broken 4 = .ok (.iload_n 2, 1) := by decide +kernel
theorem dX6_broken_5 : decode cX6_broken 5 = .ok (.aload_n 0, 1) := by decide +kernel
theorem dX6_broken_6 : decode cX6_broken 6 = .ok (.getfield 7, 3) := by decide +kernel
theorem dX6_broken_9 : decode cX6_broken 9 = .ok (.iconst 0, 1) := by decide +kernel
theorem dX6_broken_10 : decode cX6_broken 10 = .ok (.iaload, 1) := by decide +kernel
theorem dX6_broken_11 : decode cX6_broken 11 = .ok (.if_icmp .ge 17, 3) := by decide +kernel
theorem dX6_broken_14 : decode cX6_broken 14 = .ok (.iload_n 1, 1) := by decide +kernel
theorem dX6_broken_15 : decode cX6_broken 15 = .ok (.aload_n 0, 1) := by decide +kernel
theorem dX6_broken_16 : decode cX6_broken 16 = .ok (.iload_n 2, 1) := by decide +kernel
theorem dX6_broken_17 : decode cX6_broken 17 = .ok (.invokevirtual 98, 3) := by decide +kernel
theorem dX6_broken_20 : decode cX6_broken 20 = .ok (.iadd, 1) := by decide +kernel
theorem dX6_broken_21 : decode cX6_broken 21 = .ok (.istore_n 1, 1) := by decide +kernel
theorem dX6_broken_22 : decode cX6_broken 22 = .ok (.iinc 2 1, 3) := by decide +kernel
theorem dX6_broken_25 : decode cX6_broken 25 = .ok (.goto (-21), 3) := by decide +kernel
theorem dX6_broken_28 : decode cX6_broken 28 = .ok (.iload_n 1, 1) := by decide +kernel
theorem dX6_broken_29 : decode cX6_broken 29 = .ok (.ireturn, 1) := by decide +kernel
set_option maxRecDepth 20000 in
theorem ggX6_count_X6_frameLength : GoodIn wsX6_count wsX6_frameLength := goodIn_r _ [8, 1, 9, 10, 11, 7, 12, 13, 14, 15, 16, 29, 30, 31, 32, 33, 34, 35, 36, 37, 38, 39, 40, 41] (by decide +kernel) (by decide +kernel)
set_option maxRecDepth 20000 in
theorem gX6_count_X6_frameLength : GoodIn wsX6_count (wsV RX6 87 RX6 yX6_frameLength wsX6_frameLength) := goodIn_app (goodIn_of _ (by decide +kernel)) ggX6_count_X6_frameLength
set_option maxRecDepth 20000 in
theorem ggX6_count_X6_slotNow : GoodIn wsX6_count wsX6_slotNow := goodIn_r _ [20, 1, 9, 10, 11, 7, 12, 13, 14, 15, 16, 29, 30, 31, 32, 33, 34, 35, 36, 37, 38, 39, 40, 41] (by decide +kernel) (by decide +kernel)
set_option maxRecDepth 20000 in
theorem gX6_count_X6_slotNow : GoodIn wsX6_count (wsV RX6 104 RX6 yX6_slotNow wsX6_slotNow) := goodIn_app (goodIn_of _ (by decide +kernel)) ggX6_count_X6_slotNow
set_option maxRecDepth 20000 in
theorem ggX6_count_X6_broken : GoodIn wsX6_count wsX6_broken := goodIn_r _ [24, 1, 25, 26, 27, 7, 28, 29, 30, 31, 32, 33, 34, 35, 36, 37, 38, 39, 40, 41] (by decide +kernel) (by decide +kernel)
set_option maxRecDepth 20000 in
theorem gX6_count_X6_broken : GoodIn wsX6_count (wsV RX6 149 RX6 yX6_broken wsX6_broken) := goodIn_app (goodIn_of _ (by decide +kernel)) ggX6_count_X6_broken
theorem dX6_count_0 : decode cX6_count 0 = .ok (.iload_n 1, 1) := by decide +kernel
theorem dX6_count_1 : decode cX6_count 1 = .ok (.tableswitch 151 0 13 #[71, 78, 85, 90, 97, 104, 109, 116, 123, 128, 128, 128, 141, 146], 71) := by decide +kernel
theorem dX6_count_72 : decode cX6_count 72 = .ok (.aload_n 0, 1) := by decide +kernel
theorem dX6_count_73 : decode cX6_count 73 = .ok (.getfield 7, 3) := by decide +kernel
theorem dX6_count_76 : decode cX6_count 76 = .ok (.iconst 1, 1) := by decide +kernel
theorem dX6_count_77 : decode cX6_count 77 = .ok (.iaload, 1) := by decide +kernel
theorem dX6_count_78 : decode cX6_count 78 = .ok (.ireturn, 1) := by decide +kernel
theorem dX6_count_79 : decode cX6_count 79 = .ok (.aload_n 0, 1) := by decide +kernel
theorem dX6_count_80 : decode cX6_count 80 = .ok (.getfield 7, 3) := by decide +kernel
theorem dX6_count_83 : decode cX6_count 83 = .ok (.iconst 0, 1) := by decide +kernel
theorem dX6_count_84 : decode cX6_count 84 = .ok (.iaload, 1) := by decide +kernel
theorem dX6_count_85 : decode cX6_count 85 = .ok (.ireturn, 1) := by decide +kernel
theorem dX6_count_86 : decode cX6_count 86 = .ok (.aload_n 0, 1) := by decide +kernel
theorem dX6_count_87 : decode cX6_count 87 = .ok (.invokevirtual 87, 3) := by decide +kernel
theorem dX6_count_90 : decode cX6_count 90 = .ok (.ireturn, 1) := by decide +kernel
theorem dX6_count_91 : decode cX6_count 91 = .ok (.aload_n 0, 1) := by decide +kernel
theorem dX6_count_92 : decode cX6_count 92 = .ok (.getfield 7, 3) := by decide +kernel
theorem dX6_count_95 : decode cX6_count 95 = .ok (.iconst 2, 1) := by decide +kernel
theorem dX6_count_96 : decode cX6_count 96 = .ok (.iaload, 1) := by decide +kernel
theorem dX6_count_97 : decode cX6_count 97 = .ok (.ireturn, 1) := by decide +kernel
theorem dX6_count_98 : decode cX6_count 98 = .ok (.aload_n 0, 1) := by decide +kernel
theorem dX6_count_99 : decode cX6_count 99 = .ok (.getfield 7, 3) := by decide +kernel
theorem dX6_count_102 : decode cX6_count 102 = .ok (.iconst 3, 1) := by decide +kernel
theorem dX6_count_103 : decode cX6_count 103 = .ok (.iaload, 1) := by decide +kernel
theorem dX6_count_104 : decode cX6_count 104 = .ok (.ireturn, 1) := by decide +kernel
theorem dX6_count_105 : decode cX6_count 105 = .ok (.aload_n 0, 1) := by decide +kernel
theorem dX6_count_106 : decode cX6_count 106 = .ok (.invokevirtual 104, 3) := by decide +kernel
theorem dX6_count_109 : decode cX6_count 109 = .ok (.ireturn, 1) := by decide +kernel
theorem dX6_count_110 : decode cX6_count 110 = .ok (.aload_n 0, 1) := by decide +kernel
theorem dX6_count_111 : decode cX6_count 111 = .ok (.getfield 7, 3) := by decide +kernel
theorem dX6_count_114 : decode cX6_count 114 = .ok (.iconst 4, 1) := by decide +kernel
theorem dX6_count_115 : decode cX6_count 115 = .ok (.iaload, 1) := by decide +kernel
theorem dX6_count_116 : decode cX6_count 116 = .ok (.ireturn, 1) := by decide +kernel
theorem dX6_count_117 : decode cX6_count 117 = .ok (.aload_n 0, 1) := by decide +kernel
theorem dX6_count_118 : decode cX6_count 118 = .ok (.getfield 7, 3) := by decide +kernel
theorem dX6_count_121 : decode cX6_count 121 = .ok (.iconst 5, 1) := by decide +kernel
theorem dX6_count_122 : decode cX6_count 122 = .ok (.iaload, 1) := by decide +kernel
theorem dX6_count_123 : decode cX6_count 123 = .ok (.ireturn, 1) := by decide +kernel
theorem dX6_count_124 : decode cX6_count 124 = .ok (.aload_n 0, 1) := by decide +kernel
theorem dX6_count_125 : decode cX6_count 125 = .ok (.invokevirtual 149, 3) := by decide +kernel
theorem dX6_count_128 : decode cX6_count 128 = .ok (.ireturn, 1) := by decide +kernel
theorem dX6_count_129 : decode cX6_count 129 = .ok (.aload_n 0, 1) := by decide +kernel
theorem dX6_count_130 : decode cX6_count 130 = .ok (.getfield 7, 3) := by decide +kernel
theorem dX6_count_133 : decode cX6_count 133 = .ok (.bipush 6, 2) := by decide +kernel
theorem dX6_count_135 : decode cX6_count 135 = .ok (.iload_n 1, 1) := by decide +kernel
theorem dX6_count_136 : decode cX6_count 136 = .ok (.iadd, 1) := by decide +kernel
theorem dX6_count_137 : decode cX6_count 137 = .ok (.bipush 9, 2) := by decide +kernel
theorem dX6_count_139 : decode cX6_count 139 = .ok (.isub, 1) := by decide +kernel
theorem dX6_count_140 : decode cX6_count 140 = .ok (.iaload, 1) := by decide +kernel
theorem dX6_count_141 : decode cX6_count 141 = .ok (.ireturn, 1) := by decide +kernel
theorem dX6_count_142 : decode cX6_count 142 = .ok (.aload_n 0, 1) := by decide +kernel
theorem dX6_count_143 : decode cX6_count 143 = .ok (.getfield 51, 3) := by decide +kernel
theorem dX6_count_146 : decode cX6_count 146 = .ok (.ireturn, 1) := by decide +kernel
theorem dX6_count_147 : decode cX6_count 147 = .ok (.aload_n 0, 1) := by decide +kernel
theorem dX6_count_148 : decode cX6_count 148 = .ok (.getfield 129, 3) := by decide +kernel
theorem dX6_count_151 : decode cX6_count 151 = .ok (.ireturn, 1) := by decide +kernel
theorem dX6_count_152 : decode cX6_count 152 = .ok (.bipush (-2), 2) := by decide +kernel
theorem dX6_count_154 : decode cX6_count 154 = .ok (.ireturn, 1) := by decide +kernel
set_option maxRecDepth 20000 in
theorem ggX6_group_X6_in : GoodIn wsX6_group wsX6_in := goodIn_r _ [5] (by decide +kernel) (by decide +kernel)
set_option maxRecDepth 20000 in
theorem gX6_group_X6_in : GoodIn wsX6_group (va_wsS RX6 55 yX6_in wsX6_in) := goodIn_app (goodIn_of _ (by decide +kernel)) ggX6_group_X6_in
set_option maxRecDepth 20000 in
theorem ggX6_group_X6_isOn : GoodIn wsX6_group wsX6_isOn := goodIn_r _ [9, 1, 18, 19, 20, 21, 22, 23, 24, 25, 26, 27, 28, 29, 30] (by decide +kernel) (by decide +kernel)
set_option maxRecDepth 20000 in
theorem gX6_group_X6_isOn : GoodIn wsX6_group (wsV RX6 101 RX6 yX6_isOn wsX6_isOn) := goodIn_app (goodIn_of _ (by decide +kernel)) ggX6_group_X6_isOn
set_option maxRecDepth 20000 in
theorem ggX6_group_X6_digitsIn : GoodIn wsX6_group wsX6_digitsIn := goodIn_r _ [13, 1, 14, 15, 16, 4, 17, 18, 19, 20, 21, 22, 23, 24, 25, 26, 27, 28, 29, 30] (by decide +kernel) (by decide +kernel)
set_option maxRecDepth 20000 in
theorem gX6_group_X6_digitsIn : GoodIn wsX6_group (wsV RX6 94 RX6 yX6_digitsIn wsX6_digitsIn) := goodIn_app (goodIn_of _ (by decide +kernel)) ggX6_group_X6_digitsIn
theorem dX6_group_0 : decode cX6_group 0 = .ok (.iload_n 1, 1) := by decide +kernel
theorem dX6_group_1 : decode cX6_group 1 = .ok (.iconst 0, 1) := by decide +kernel
theorem dX6_group_2 : decode cX6_group 2 = .ok (.iconst 3, 1) := by decide +kernel
theorem dX6_group_3 : decode cX6_group 3 = .ok (.invokestatic 55, 3) := by decide +kernel
theorem dX6_group_6 : decode cX6_group 6 = .ok (.ifCond .ne 5, 3) := by decide +kernel
theorem dX6_group_9 : decode cX6_group 9 = .ok (.iconst (-1), 1) := by decide +kernel
theorem dX6_group_10 : decode cX6_group 10 = .ok (.ireturn, 1) := by decide +kernel
theorem dX6_group_11 : decode cX6_group 11 = .ok (.iload_n 2, 1) := by decide +kernel
theorem dX6_group_12 : decode cX6_group 12 = .ok (.tableswitch 92 0 3 #[32, 52, 72, 86], 32) := by decide +kernel
theorem dX6_group_44 : decode cX6_group 44 = .ok (.iload_n 1, 1) := by decide +kernel
theorem dX6_group_45 : decode cX6_group 45 = .ok (.ifCond .ne 7, 3) := by decide +kernel
theorem dX6_group_48 : decode cX6_group 48 = .ok (.iconst 0, 1) := by decide +kernel
theorem dX6_group_49 : decode cX6_group 49 = .ok (.goto 14, 3) := by decide +kernel
theorem dX6_group_52 : decode cX6_group 52 = .ok (.aload_n 0, 1) := by decide +kernel
theorem dX6_group_53 : decode cX6_group 53 = .ok (.getfield 7, 3) := by decide +kernel
theorem dX6_group_56 : decode cX6_group 56 = .ok (.bipush 9, 2) := by decide +kernel
theorem dX6_group_58 : decode cX6_group 58 = .ok (.iload_n 1, 1) := by decide +kernel
theorem dX6_group_59 : decode cX6_group 59 = .ok (.iadd, 1) := by decide +kernel
theorem dX6_group_60 : decode cX6_group 60 = .ok (.iconst 1, 1) := by decide +kernel
theorem dX6_group_61 : decode cX6_group 61 = .ok (.isub, 1) := by decide +kernel
theorem dX6_group_62 : decode cX6_group 62 = .ok (.iaload, 1) := by decide +kernel
theorem dX6_group_63 : decode cX6_group 63 = .ok (.ireturn, 1) := by decide +kernel
theorem dX6_group_64 : decode cX6_group 64 = .ok (.iload_n 1, 1) := by decide +kernel
theorem dX6_group_65 : decode cX6_group 65 = .ok (.ifCond .ne 7, 3) := by decide +kernel
theorem dX6_group_68 : decode cX6_group 68 = .ok (.iconst 0, 1) := by decide +kernel
theorem dX6_group_69 : decode cX6_group 69 = .ok (.goto 14, 3) := by decide +kernel
theorem dX6_group_72 : decode cX6_group 72 = .ok (.aload_n 0, 1) := by decide +kernel
theorem dX6_group_73 : decode cX6_group 73 = .ok (.getfield 7, 3) := by decide +kernel
theorem dX6_group_76 : decode cX6_group 76 = .ok (.bipush 12, 2) := by decide +kernel
theorem dX6_group_78 : decode cX6_group 78 = .ok (.iload_n 1, 1) := by decide +kernel
theorem dX6_group_79 : decode cX6_group 79 = .ok (.iadd, 1) := by decide +kernel
theorem dX6_group_80 : decode cX6_group 80 = .ok (.iconst 1, 1) := by decide +kernel
theorem dX6_group_81 : decode cX6_group 81 = .ok (.isub, 1) := by decide +kernel
theorem dX6_group_82 : decode cX6_group 82 = .ok (.iaload, 1) := by decide +kernel
theorem dX6_group_83 : decode cX6_group 83 = .ok (.ireturn, 1) := by decide +kernel
theorem dX6_group_84 : decode cX6_group 84 = .ok (.aload_n 0, 1) := by decide +kernel
theorem dX6_group_85 : decode cX6_group 85 = .ok (.iload_n 1, 1) := by decide +kernel
theorem dX6_group_86 : decode cX6_group 86 = .ok (.invokevirtual 101, 3) := by decide +kernel
theorem dX6_group_89 : decode cX6_group 89 = .ok (.ifCond .eq 7, 3) := by decide +kernel
theorem dX6_group_92 : decode cX6_group 92 = .ok (.iconst 1, 1) := by decide +kernel
theorem dX6_group_93 : decode cX6_group 93 = .ok (.goto 4, 3) := by decide +kernel
theorem dX6_group_96 : decode cX6_group 96 = .ok (.iconst 0, 1) := by decide +kernel
theorem dX6_group_97 : decode cX6_group 97 = .ok (.ireturn, 1) := by decide +kernel
theorem dX6_group_98 : decode cX6_group 98 = .ok (.aload_n 0, 1) := by decide +kernel
theorem dX6_group_99 : decode cX6_group 99 = .ok (.iload_n 1, 1) := by decide +kernel
theorem dX6_group_100 : decode cX6_group 100 = .ok (.invokevirtual 94, 3) := by decide +kernel
theorem dX6_group_103 : decode cX6_group 103 = .ok (.ireturn, 1) := by decide +kernel
theorem dX6_group_104 : decode cX6_group 104 = .ok (.bipush (-2), 2) := by decide +kernel
theorem dX6_group_106 : decode cX6_group 106 = .ok (.ireturn, 1) := by decide +kernel
theorem dJ6_bitCount_0f7a4_0 : decode cJ6_bitCount_0f7a4 0 = .ok (.iload_n 0, 1) := by decide +kernel
theorem dJ6_bitCount_0f7a4_1 : decode cJ6_bitCount_0f7a4 1 = .ok (.iload_n 0, 1) := by decide +kernel
theorem dJ6_bitCount_0f7a4_2 : decode cJ6_bitCount_0f7a4 2 = .ok (.iconst 1, 1) := by decide +kernel
theorem dJ6_bitCount_0f7a4_3 : decode cJ6_bitCount_0f7a4 3 = .ok (.iushr, 1) := by decide +kernel
theorem dJ6_bitCount_0f7a4_4 : decode cJ6_bitCount_0f7a4 4 = .ok (.ldc_w 265, 3) := by decide +kernel
theorem dJ6_bitCount_0f7a4_7 : decode cJ6_bitCount_0f7a4 7 = .ok (.iand, 1) := by decide +kernel
theorem dJ6_bitCount_0f7a4_8 : decode cJ6_bitCount_0f7a4 8 = .ok (.isub, 1) := by decide +kernel
theorem dJ6_bitCount_0f7a4_9 : decode cJ6_bitCount_0f7a4 9 = .ok (.istore_n 0, 1) := by decide +kernel
theorem dJ6_bitCount_0f7a4_10 : decode cJ6_bitCount_0f7a4 10 = .ok (.iload_n 0, 1) := by decide +kernel
theorem dJ6_bitCount_0f7a4_11 : decode cJ6_bitCount_0f7a4 11 = .ok (.ldc_w 266, 3) := by decide +kernel
theorem dJ6_bitCount_0f7a4_14 : decode cJ6_bitCount_0f7a4 14 = .ok (.iand, 1) := by decide +kernel
theorem dJ6_bitCount_0f7a4_15 : decode cJ6_bitCount_0f7a4 15 = .ok (.iload_n 0, 1) := by decide +kernel
theorem dJ6_bitCount_0f7a4_16 : decode cJ6_bitCount_0f7a4 16 = .ok (.iconst 2, 1) := by decide +kernel
theorem dJ6_bitCount_0f7a4_17 : decode cJ6_bitCount_0f7a4 17 = .ok (.iushr, 1) := by decide +kernel
theorem dJ6_bitCount_0f7a4_18 : decode cJ6_bitCount_0f7a4 18 = .ok (.ldc_w 266, 3) := by decide +kernel
theorem dJ6_bitCount_0f7a4_21 : decode cJ6_bitCount_0f7a4 21 = .ok (.iand, 1) := by decide +kernel
theorem dJ6_bitCount_0f7a4_22 : decode cJ6_bitCount_0f7a4 22 = .ok (.iadd, 1) := by decide +kernel
theorem dJ6_bitCount_0f7a4_23 : decode cJ6_bitCount_0f7a4 23 = .ok (.istore_n 0, 1) := by decide +kernel
theorem dJ6_bitCount_0f7a4_24 : decode cJ6_bitCount_0f7a4 24 = .ok (.iload_n 0, 1) := by decide +kernel
theorem dJ6_bitCount_0f7a4_25 : decode cJ6_bitCount_0f7a4 25 = .ok (.iload_n 0, 1) := by decide +kernel
theorem dJ6_bitCount_0f7a4_26 : decode cJ6_bitCount_0f7a4 26 = .ok (.iconst 4, 1) := by decide +kernel
theorem dJ6_bitCount_0f7a4_27 : decode cJ6_bitCount_0f7a4 27 = .ok (.iushr, 1) := by decide +kernel
theorem dJ6_bitCount_0f7a4_28 : decode cJ6_bitCount_0f7a4 28 = .ok (.iadd, 1) := by decide +kernel
theorem dJ6_bitCount_0f7a4_29 : decode cJ6_bitCount_0f7a4 29 = .ok (.ldc_w 267, 3) := by decide +kernel
theorem dJ6_bitCount_0f7a4_32 : decode cJ6_bitCount_0f7a4 32 = .ok (.iand, 1) := by decide +kernel
theorem dJ6_bitCount_0f7a4_33 : decode cJ6_bitCount_0f7a4 33 = .ok (.istore_n 0, 1) := by decide +kernel
theorem dJ6_bitCount_0f7a4_34 : decode cJ6_bitCount_0f7a4 34 = .ok (.iload_n 0, 1) := by decide +kernel
theorem dJ6_bitCount_0f7a4_35 : decode cJ6_bitCount_0f7a4 35 = .ok (.iload_n 0, 1) := by decide +kernel
theorem dJ6_bitCount_0f7a4_36 : decode cJ6_bitCount_0f7a4 36 = .ok (.bipush 8, 2) := by decide +kernel
theorem dJ6_bitCount_0f7a4_38 : decode cJ6_bitCount_0f7a4 38 = .ok (.iushr, 1) := by decide +kernel
theorem dJ6_bitCount_0f7a4_39 : decode cJ6_bitCount_0f7a4 39 = .ok (.iadd, 1) := by decide +kernel
theorem dJ6_bitCount_0f7a4_40 : decode cJ6_bitCount_0f7a4 40 = .ok (.istore_n 0, 1) := by decide +kernel
theorem dJ6_bitCount_0f7a4_41 : decode cJ6_bitCount_0f7a4 41 = .ok (.iload_n 0, 1) := by decide +kernel
theorem dJ6_bitCount_0f7a4_42 : decode cJ6_bitCount_0f7a4 42 = .ok (.iload_n 0, 1) := by decide +kernel
theorem dJ6_bitCount_0f7a4_43 : decode cJ6_bitCount_0f7a4 43 = .ok (.bipush 16, 2) := by decide +kernel
theorem dJ6_bitCount_0f7a4_45 : decode cJ6_bitCount_0f7a4 45 = .ok (.iushr, 1) := by decide +kernel
theorem dJ6_bitCount_0f7a4_46 : decode cJ6_bitCount_0f7a4 46 = .ok (.iadd, 1) := by decide +kernel
theorem dJ6_bitCount_0f7a4_47 : decode cJ6_bitCount_0f7a4 47 = .ok (.istore_n 0, 1) := by decide +kernel
theorem dJ6_bitCount_0f7a4_48 : decode cJ6_bitCount_0f7a4 48 = .ok (.iload_n 0, 1) := by decide +kernel
theorem dJ6_bitCount_0f7a4_49 : decode cJ6_bitCount_0f7a4 49 = .ok (.bipush 63, 2) := by decide +kernel
theorem dJ6_bitCount_0f7a4_51 : decode cJ6_bitCount_0f7a4 51 = .ok (.iand, 1) := by decide +kernel
theorem dJ6_bitCount_0f7a4_52 : decode cJ6_bitCount_0f7a4 52 = .ok (.ireturn, 1) := by decide +kernel
theorem dJ9_max_7cf53_0 : decode cJ9_max_7cf53 0 = .ok (.iload_n 0, 1) := by decide +kernel
theorem dJ9_max_7cf53_1 : decode cJ9_max_7cf53 1 = .ok (.iload_n 1, 1) := by decide +kernel
theorem dJ9_max_7cf53_2 : decode cJ9_max_7cf53 2 = .ok (.if_icmp .lt 7, 3) := by decide +kernel
theorem dJ9_max_7cf53_5 : decode cJ9_max_7cf53 5 = .ok (.iload_n 0, 1) := by decide +kernel
theorem dJ9_max_7cf53_6 : decode cJ9_max_7cf53 6 = .ok (.goto 4, 3) := by decide +kernel
theorem dJ9_max_7cf53_9 : decode cJ9_max_7cf53 9 = .ok (.iload_n 1, 1) := by decide +kernel
theorem dJ9_max_7cf53_10 : decode cJ9_max_7cf53 10 = .ok (.ireturn, 1) := by decide +kernel
theorem dJ9_min_7cf53_0 : decode cJ9_min_7cf53 0 = .ok (.iload_n 0, 1) := by decide +kernel
theorem dJ9_min_7cf53_1 : decode cJ9_min_7cf53 1 = .ok (.iload_n 1, 1) := by decide +kernel
theorem dJ9_min_7cf53_2 : decode cJ9_min_7cf53 2 = .ok (.if_icmp .gt 7, 3) := by decide +kernel
theorem dJ9_min_7cf53_5 : decode cJ9_min_7cf53 5 = .ok (.iload_n 0, 1) := by decide +kernel
theorem dJ9_min_7cf53_6 : decode cJ9_min_7cf53 6 = .ok (.goto 4, 3) := by decide +kernel
theorem dJ9_min_7cf53_9 : decode cJ9_min_7cf53 9 = .ok (.iload_n 1, 1) := by decide +kernel
theorem dJ9_min_7cf53_10 : decode cJ9_min_7cf53 10 = .ok (.ireturn, 1) := by decide +kernel
set_option maxRecDepth 20000 in
theorem ggL_law_X5_init : GoodIn wsL_law wsX5_init := goodIn_r _ [8, 9, 10, 11, 12, 13, 14, 15, 16, 17, 18, 19, 20, 21, 22, 23, 24, 25, 26, 27, 28, 29, 30, 31, 32, 33, 34, 35, 36, 37, 38, 39, 40, 41, 42, 43, 44, 45, 46, 47, 48, 49, 50, 51, 52, 53, 54, 55, 56, 57, 58, 59, 60, 61, 62, 63, 64, 65, 66, 67, 68, 69, 70, 71, 72, 73, 74, 75, 76, 77, 78, 79, 80, 81, 82, 83, 84, 85, 86, 87, 669, 670, 671, 672, 673, 674, 675, 676, 677, 678, 679, 680, 681, 651, 652, 653, 654, 655, 682, 683, 684, 685, 686, 687, 688, 689, 690, 691, 692, 693, 694, 695, 696, 697, 698, 699] (by decide +kernel) (by decide +kernel)
set_option maxRecDepth 20000 in
theorem gL_law_X5_init : GoodIn wsL_law (wsX5_init) := ggL_law_X5_init
set_option maxRecDepth 20000 in
theorem ggL_law_X6_init : GoodIn wsL_law wsX6_init := goodIn_r _ [90, 91, 10, 11, 36, 92, 93, 94, 95, 96, 97, 98, 99, 100, 101, 102, 79, 103, 104, 105, 106, 107, 108, 5, 109, 110, 111, 112, 113, 114, 115, 116, 117, 656, 657, 658, 659, 660, 661, 662, 663, 664, 665, 666, 667, 668] (by decide +kernel) (by decide +kernel)
set_option maxRecDepth 20000 in
theorem gL_law_X6_init : GoodIn wsL_law (wsX6_init) := ggL_law_X6_init
set_option maxRecDepth 20000 in
theorem ggL_law_X5_setDigits : GoodIn wsL_law wsX5_setDigits := goodIn_r _ [121, 20, 15, 122, 123, 124, 2, 125, 126, 127, 128, 19, 129, 74, 130, 131, 132, 133, 134, 135, 136, 137, 138, 14, 139, 34, 35, 37, 140, 141, 142, 143, 38, 45, 144, 145, 146, 147, 148, 149, 150, 151, 152, 153, 154, 47, 155, 58, 59, 60, 61, 62, 63, 68, 52, 156, 53, 157, 158, 159, 160, 161, 55, 56, 57, 64, 65, 66, 67, 162, 163, 164, 165, 651, 652, 653, 654, 655, 669, 670, 671, 672, 673, 674, 675, 676, 677, 678, 679, 680, 681, 682, 683, 684, 691, 692, 693, 694, 695, 696, 697, 698, 699] (by decide +kernel) (by decide +kernel)
set_option maxRecDepth 20000 in
theorem gL_law_X5_setDigits : GoodIn wsL_law (wsV RL 13 RX5 yX5_setDigits wsX5_setDigits) := goodIn_app (goodIn_of _ (by decide +kernel)) ggL_law_X5_setDigits
set_option maxRecDepth 20000 in
theorem ggL_law_X6_setDigits : GoodIn wsL_law wsX6_setDigits := goodIn_r _ [169, 92, 170, 171, 5, 172, 173, 174, 175, 176, 95, 96, 94, 106, 107, 108, 109, 110, 111, 112, 113, 114, 115, 116, 117, 177, 178, 179, 180, 181, 182, 183, 184, 185, 97, 98, 656, 657, 658, 659, 660, 661, 662, 663, 664, 665, 666, 667, 668] (by decide +kernel) (by decide +kernel)
set_option maxRecDepth 20000 in
theorem gL_law_X6_setDigits : GoodIn wsL_law (wsV RL 17 RX6 yX6_setDigits wsX6_setDigits) := goodIn_app (goodIn_of _ (by decide +kernel)) ggL_law_X6_setDigits
set_option maxRecDepth 20000 in
theorem ggL_law_X5_setWidth : GoodIn wsL_law wsX5_setWidth := goodIn_r _ [189, 15, 20, 190, 191, 192, 14, 193, 35, 34, 124, 2, 125, 123, 126, 127, 128, 19, 129, 74, 130, 131, 132, 133, 134, 135, 136, 137, 138, 139, 37, 140, 141, 142, 143, 38, 45, 144, 145, 146, 147, 148, 149, 150, 151, 152, 153, 154, 47, 155, 58, 59, 60, 61, 62, 63, 68, 52, 156, 53, 194, 195, 196, 197, 198, 162, 163, 164, 165, 199, 200, 201, 202, 203, 204, 205, 206, 651, 652, 653, 654, 655, 669, 670, 671, 672, 673, 674, 675, 676, 677, 678, 679, 680, 681, 682, 683, 684, 691, 692, 693, 694, 695, 696, 697, 698, 699] (by decide +kernel) (by decide +kernel)
set_option maxRecDepth 20000 in
theorem gL_law_X5_setWidth : GoodIn wsL_law (wsV RL 18 RX5 yX5_setWidth wsX5_setWidth) := goodIn_app (goodIn_of _ (by decide +kernel)) ggL_law_X5_setWidth
set_option maxRecDepth 20000 in
theorem ggL_law_X6_setWidth : GoodIn wsL_law wsX6_setWidth := goodIn_r _ [210, 211, 212, 213, 5, 214, 92, 170, 171, 172, 173, 174, 175, 176, 95, 96, 94, 215, 216, 217, 218, 110, 111, 112, 113, 177, 178, 179, 180, 219, 220, 221, 222, 223, 224, 225, 226, 181, 182, 183, 184, 185, 97, 98, 656, 657, 658, 659, 660, 661, 662, 663, 664, 665, 666, 667, 668] (by decide +kernel) (by decide +kernel)
set_option maxRecDepth 20000 in
theorem gL_law_X6_setWidth : GoodIn wsL_law (wsV RL 22 RX6 yX6_setWidth wsX6_setWidth) := goodIn_app (goodIn_of _ (by decide +kernel)) ggL_law_X6_setWidth
set_option maxRecDepth 20000 in
theorem ggL_law_X5_setGuard : GoodIn wsL_law wsX5_setGuard := goodIn_r _ [230, 15, 20, 231, 190, 191, 192, 14, 193, 35, 34, 124, 2, 125, 123, 126, 127, 128, 19, 129, 74, 130, 131, 132, 133, 134, 135, 136, 137, 138, 139, 37, 140, 141, 142, 143, 38, 45, 144, 145, 146, 147, 148, 149, 150, 151, 152, 153, 154, 47, 155, 58, 59, 60, 61, 62, 63, 68, 52, 156, 53, 232, 233, 234, 235, 236, 237, 238, 239, 651, 652, 653, 654, 655, 691, 692, 693, 694, 695, 696, 697, 698, 699, 669, 670, 671, 672, 673, 674, 675, 676, 677, 678, 679, 680, 681, 682, 683, 684] (by decide +kernel) (by decide +kernel)
set_option maxRecDepth 20000 in
theorem gL_law_X5_setGuard : GoodIn wsL_law (wsV RL 23 RX5 yX5_setGuard wsX5_setGuard) := goodIn_app (goodIn_of _ (by decide +kernel)) ggL_law_X5_setGuard
set_option maxRecDepth 20000 in
theorem ggL_law_X6_setGuard : GoodIn wsL_law wsX6_setGuard := goodIn_r _ [243, 211, 212, 213, 5, 214, 92, 170, 171, 172, 173, 174, 175, 176, 95, 96, 94, 110, 111, 112, 113, 244, 245, 246, 247, 215, 216, 217, 218, 181, 182, 183, 184, 185, 97, 98, 656, 657, 658, 659, 660, 661, 662, 663, 664, 665, 666, 667, 668] (by decide +kernel) (by decide +kernel)
set_option maxRecDepth 20000 in
theorem gL_law_X6_setGuard : GoodIn wsL_law (wsV RL 26 RX6 yX6_setGuard wsX6_setGuard) := goodIn_app (goodIn_of _ (by decide +kernel)) ggL_law_X6_setGuard
set_option maxRecDepth 20000 in
theorem ggL_law_X5_setBrightness : GoodIn wsL_law wsX5_setBrightness := goodIn_r _ [251, 15, 20, 252, 190, 191, 192, 14, 193, 35, 34, 124, 2, 125, 123, 126, 127, 128, 19, 129, 74, 130, 131, 132, 133, 134, 135, 136, 137, 138, 139, 37, 140, 141, 142, 143, 38, 45, 144, 145, 146, 147, 148, 149, 150, 151, 152, 153, 154, 47, 155, 58, 59, 60, 61, 62, 63, 68, 52, 156, 53, 232, 233, 234, 235, 236, 237, 238, 239, 651, 652, 653, 654, 655, 691, 692, 693, 694, 695, 696, 697, 698, 699, 669, 670, 671, 672, 673, 674, 675, 676, 677, 678, 679, 680, 681, 682, 683, 684] (by decide +kernel) (by decide +kernel)
set_option maxRecDepth 20000 in
theorem gL_law_X5_setBrightness : GoodIn wsL_law (wsV RL 27 RX5 yX5_setBrightness wsX5_setBrightness) := goodIn_app (goodIn_of _ (by decide +kernel)) ggL_law_X5_setBrightness
set_option maxRecDepth 20000 in
theorem ggL_law_X6_setBrightness : GoodIn wsL_law wsX6_setBrightness := goodIn_r _ [256, 211, 212, 213, 5, 214, 92, 170, 171, 172, 173, 174, 175, 176, 95, 96, 94, 110, 111, 112, 113, 244, 245, 246, 247, 215, 216, 217, 218, 181, 182, 183, 184, 185, 97, 98, 656, 657, 658, 659, 660, 661, 662, 663, 664, 665, 666, 667, 668] (by decide +kernel) (by decide +kernel)
set_option maxRecDepth 20000 in
theorem gL_law_X6_setBrightness : GoodIn wsL_law (wsV RL 30 RX6 yX6_setBrightness wsX6_setBrightness) := goodIn_app (goodIn_of _ (by decide +kernel)) ggL_law_X6_setBrightness
set_option maxRecDepth 20000 in
theorem ggL_law_X5_setPattern : GoodIn wsL_law wsX5_setPattern := goodIn_r _ [260, 15, 20, 261, 190, 191, 192, 14, 193, 35, 34, 124, 2, 125, 123, 126, 127, 128, 19, 129, 74, 130, 131, 132, 133, 134, 135, 136, 137, 138, 139, 37, 140, 141, 142, 143, 38, 45, 144, 145, 146, 147, 148, 149, 150, 151, 152, 153, 154, 47, 155, 58, 59, 60, 61, 62, 63, 68, 52, 156, 53, 651, 652, 653, 654, 655, 691, 692, 693, 694, 695, 696, 697, 698, 699, 669, 670, 671, 672, 673, 674, 675, 676, 677, 678, 679, 680, 681, 682, 683, 684] (by decide +kernel) (by decide +kernel)
set_option maxRecDepth 20000 in
theorem gL_law_X5_setPattern : GoodIn wsL_law (wsV RL 31 RX5 yX5_setPattern wsX5_setPattern) := goodIn_app (goodIn_of _ (by decide +kernel)) ggL_law_X5_setPattern
set_option maxRecDepth 20000 in
theorem ggL_law_X6_setPattern : GoodIn wsL_law wsX6_setPattern := goodIn_r _ [265, 211, 212, 213, 5, 214, 92, 170, 171, 172, 173, 174, 175, 176, 95, 96, 94, 215, 216, 217, 218, 110, 111, 112, 113, 181, 182, 183, 184, 185, 97, 98, 656, 657, 658, 659, 660, 661, 662, 663, 664, 665, 666, 667, 668] (by decide +kernel) (by decide +kernel)
set_option maxRecDepth 20000 in
theorem gL_law_X6_setPattern : GoodIn wsL_law (wsV RL 34 RX6 yX6_setPattern wsX6_setPattern) := goodIn_app (goodIn_of _ (by decide +kernel)) ggL_law_X6_setPattern
set_option maxRecDepth 20000 in
theorem ggL_law_X5_setGroup : GoodIn wsL_law wsX5_setGroup := goodIn_r _ [269, 15, 20, 270, 190, 191, 192, 14, 193, 35, 34, 124, 2, 125, 123, 126, 127, 128, 19, 129, 74, 130, 131, 132, 133, 134, 135, 136, 137, 138, 139, 37, 140, 141, 142, 143, 38, 45, 144, 145, 146, 147, 148, 149, 150, 151, 152, 153, 154, 47, 155, 58, 59, 60, 61, 62, 63, 68, 52, 156, 53, 651, 652, 653, 654, 655, 691, 692, 693, 694, 695, 696, 697, 698, 699, 669, 670, 671, 672, 673, 674, 675, 676, 677, 678, 679, 680, 681, 682, 683, 684] (by decide +kernel) (by decide +kernel)
set_option maxRecDepth 20000 in
theorem gL_law_X5_setGroup : GoodIn wsL_law (wsV RL 35 RX5 yX5_setGroup wsX5_setGroup) := goodIn_app (goodIn_of _ (by decide +kernel)) ggL_law_X5_setGroup
set_option maxRecDepth 20000 in
theorem ggL_law_X6_setGroup : GoodIn wsL_law wsX6_setGroup := goodIn_r _ [274, 211, 212, 213, 5, 214, 92, 170, 171, 172, 173, 174, 175, 176, 95, 96, 94, 215, 216, 217, 218, 110, 111, 112, 113, 181, 182, 183, 184, 185, 97, 98, 656, 657, 658, 659, 660, 661, 662, 663, 664, 665, 666, 667, 668] (by decide +kernel) (by decide +kernel)
set_option maxRecDepth 20000 in
theorem gL_law_X6_setGroup : GoodIn wsL_law (wsV RL 38 RX6 yX6_setGroup wsX6_setGroup) := goodIn_app (goodIn_of _ (by decide +kernel)) ggL_law_X6_setGroup
set_option maxRecDepth 20000 in
theorem ggL_law_X5_setBlink : GoodIn wsL_law wsX5_setBlink := goodIn_r _ [278, 20, 15, 279, 280, 123, 124, 2, 125, 126, 127, 128, 19, 129, 74, 130, 131, 132, 133, 134, 135, 136, 137, 138, 14, 139, 34, 35, 37, 140, 141, 142, 143, 38, 45, 144, 145, 146, 147, 148, 149, 150, 151, 152, 153, 154, 47, 155, 58, 59, 60, 61, 62, 63, 68, 52, 156, 53, 281, 282, 283, 284, 285, 651, 652, 653, 654, 655, 669, 670, 671, 672, 673, 674, 675, 676, 677, 678, 679, 680, 681, 682, 683, 684, 691, 692, 693, 694, 695, 696, 697, 698, 699] (by decide +kernel) (by decide +kernel)
set_option maxRecDepth 20000 in
theorem gL_law_X5_setBlink : GoodIn wsL_law (wsV RL 39 RX5 yX5_setBlink wsX5_setBlink) := goodIn_app (goodIn_of _ (by decide +kernel)) ggL_law_X5_setBlink
set_option maxRecDepth 20000 in
theorem ggL_law_X6_setBlink : GoodIn wsL_law wsX6_setBlink := goodIn_r _ [289, 92, 170, 171, 5, 172, 173, 174, 175, 176, 95, 96, 94, 290, 291, 292, 293, 215, 216, 217, 218, 181, 182, 183, 184, 185, 97, 98, 656, 657, 658, 659, 660, 661, 662, 663, 664, 665, 666, 667, 668] (by decide +kernel) (by decide +kernel)
set_option maxRecDepth 20000 in
theorem gL_law_X6_setBlink : GoodIn wsL_law (wsV RL 43 RX6 yX6_setBlink wsX6_setBlink) := goodIn_app (goodIn_of _ (by decide +kernel)) ggL_law_X6_setBlink
set_option maxRecDepth 20000 in
theorem ggL_law_X5_set : GoodIn wsL_law wsX5_set := goodIn_r _ [297, 298, 299, 20, 15, 300, 123, 124, 2, 125, 126, 127, 128, 19, 129, 74, 130, 131, 132, 133, 134, 135, 136, 137, 138, 14, 139, 34, 35, 37, 140, 141, 142, 143, 38, 45, 144, 145, 146, 147, 148, 149, 150, 151, 152, 153, 154, 47, 155, 58, 59, 60, 61, 62, 63, 68, 52, 156, 53, 651, 652, 653, 654, 655, 669, 670, 671, 672, 673, 674, 675, 676, 677, 678, 679, 680, 681, 682, 683, 684, 691, 692, 693, 694, 695, 696, 697, 698, 699] (by decide +kernel) (by decide +kernel)
set_option maxRecDepth 20000 in
theorem gL_law_X5_set : GoodIn wsL_law (wsV RL 44 RX5 yX5_set wsX5_set) := goodIn_app (goodIn_of _ (by decide +kernel)) ggL_law_X5_set
set_option maxRecDepth 20000 in
theorem ggL_law_X6_set : GoodIn wsL_law wsX6_set := goodIn_r _ [304, 305, 92, 170, 171, 5, 172, 173, 174, 175, 176, 95, 96, 94, 181, 182, 183, 184, 185, 97, 98, 656, 657, 658, 659, 660, 661, 662, 663, 664, 665, 666, 667, 668] (by decide +kernel) (by decide +kernel)
set_option maxRecDepth 20000 in
theorem gL_law_X6_set : GoodIn wsL_law (wsV RL 47 RX6 yX6_set wsX6_set) := goodIn_app (goodIn_of _ (by decide +kernel)) ggL_law_X6_set
set_option maxRecDepth 20000 in
theorem ggL_law_X5_replace : GoodIn wsL_law wsX5_replace := goodIn_r _ [309, 15, 20, 310, 190, 191, 192, 14, 193, 35, 34, 124, 2, 125, 126, 127, 128, 19, 129, 74, 130, 131, 132, 133, 134, 135, 136, 137, 138, 139, 37, 140, 141, 142, 143, 38, 45, 144, 145, 146, 147, 148, 149, 150, 151, 152, 153, 154, 47, 155, 58, 59, 60, 61, 62, 63, 68, 52, 156, 53, 311, 312, 313, 314, 315, 316, 317, 318, 65, 66, 67, 651, 652, 653, 654, 655, 691, 692, 693, 694, 695, 696, 697, 698, 699, 669, 670, 671, 672, 673, 674, 675, 676, 677, 678, 679, 680, 681, 682, 683, 684] (by decide +kernel) (by decide +kernel)
set_option maxRecDepth 20000 in
theorem gL_law_X5_replace : GoodIn wsL_law (wsV RL 48 RX5 yX5_replace wsX5_replace) := goodIn_app (goodIn_of _ (by decide +kernel)) ggL_law_X5_replace
set_option maxRecDepth 20000 in
theorem ggL_law_X6_replace : GoodIn wsL_law wsX6_replace := goodIn_r _ [322, 211, 212, 213, 5, 214, 92, 170, 171, 172, 173, 174, 175, 176, 95, 96, 94, 323, 324, 325, 326, 114, 115, 116, 117, 181, 182, 183, 184, 185, 97, 98, 656, 657, 658, 659, 660, 661, 662, 663, 664, 665, 666, 667, 668] (by decide +kernel) (by decide +kernel)
set_option maxRecDepth 20000 in
theorem gL_law_X6_replace : GoodIn wsL_law (wsV RL 51 RX6 yX6_replace wsX6_replace) := goodIn_app (goodIn_of _ (by decide +kernel)) ggL_law_X6_replace
set_option maxRecDepth 20000 in
theorem ggL_law_X5_test : GoodIn wsL_law wsX5_test := goodIn_r _ [330, 20, 15, 331, 123, 124, 2, 125, 126, 127, 128, 19, 129, 74, 130, 131, 132, 133, 134, 135, 136, 137, 138, 14, 139, 34, 35, 37, 140, 141, 142, 143, 38, 45, 144, 145, 146, 147, 148, 149, 150, 151, 152, 153, 154, 47, 155, 58, 59, 60, 61, 62, 63, 68, 52, 156, 53, 651, 652, 653, 654, 655, 669, 670, 671, 672, 673, 674, 675, 676, 677, 678, 679, 680, 681, 682, 683, 684, 691, 692, 693, 694, 695, 696, 697, 698, 699] (by decide +kernel) (by decide +kernel)
set_option maxRecDepth 20000 in
theorem gL_law_X5_test : GoodIn wsL_law (wsV RL 52 RX5 yX5_test wsX5_test) := goodIn_app (goodIn_of _ (by decide +kernel)) ggL_law_X5_test
set_option maxRecDepth 20000 in
theorem ggL_law_X6_test : GoodIn wsL_law wsX6_test := goodIn_r _ [335, 92, 170, 171, 5, 172, 173, 174, 175, 176, 95, 96, 94, 181, 182, 183, 184, 185, 97, 98, 656, 657, 658, 659, 660, 661, 662, 663, 664, 665, 666, 667, 668] (by decide +kernel) (by decide +kernel)
set_option maxRecDepth 20000 in
theorem gL_law_X6_test : GoodIn wsL_law (wsV RL 55 RX6 yX6_test wsX6_test) := goodIn_app (goodIn_of _ (by decide +kernel)) ggL_law_X6_test
set_option maxRecDepth 20000 in
theorem ggL_law_X5_pass : GoodIn wsL_law wsX5_pass := goodIn_r _ [339, 20, 15, 123, 124, 2, 125, 126, 127, 128, 19, 129, 74, 130, 131, 132, 133, 134, 135, 136, 137, 138, 14, 139, 34, 35, 37, 140, 141, 142, 143, 38, 45, 144, 145, 146, 147, 148, 149, 150, 151, 152, 153, 154, 47, 155, 58, 59, 60, 61, 62, 63, 68, 52, 156, 53, 340, 341, 342, 343, 344, 345, 346, 347, 348, 349, 350, 351, 352, 198, 353, 354, 355, 356, 357, 358, 359, 360, 361, 362, 363, 285, 364, 237, 238, 239, 203, 204, 205, 206, 365, 366, 367, 368, 369, 370, 371, 372, 373, 374, 375, 376, 377, 378, 379, 380, 381, 312, 313, 314, 315, 316, 317, 382, 383, 384, 385, 386, 387, 388, 389, 200, 201, 202, 162, 163, 164, 165, 651, 652, 653, 654, 655, 682, 683, 684, 669, 670, 671, 672, 673, 674, 675, 676, 677, 678, 679, 680, 681, 691, 692, 693, 694, 695, 696, 697, 698, 699] (by decide +kernel) (by decide +kernel)
set_option maxRecDepth 20000 in
theorem gL_law_X5_pass : GoodIn wsL_law (wsV RL 56 RX5 yX5_pass wsX5_pass) := goodIn_app (goodIn_of _ (by decide +kernel)) ggL_law_X5_pass
set_option maxRecDepth 20000 in
theorem ggL_law_X6_pass : GoodIn wsL_law wsX6_pass := goodIn_r _ [393, 170, 171, 5, 172, 173, 174, 175, 176, 95, 92, 96, 94, 394, 395, 396, 397, 398, 399, 400, 401, 402, 403, 404, 223, 224, 225, 226, 215, 216, 217, 218, 405, 406, 407, 408, 409, 410, 411, 412, 244, 245, 246, 247, 413, 414, 415, 416, 110, 111, 112, 113, 417, 418, 419, 420, 421, 422, 423, 424, 425, 426, 427, 219, 220, 221, 222, 177, 178, 179, 180, 181, 182, 183, 184, 185, 97, 98, 656, 657, 658, 659, 660, 661, 662, 663, 664, 665, 666, 667, 668] (by decide +kernel) (by decide +kernel)
set_option maxRecDepth 20000 in
theorem gL_law_X6_pass : GoodIn wsL_law (wsV RL 59 RX6 yX6_pass wsX6_pass) := goodIn_app (goodIn_of _ (by decide +kernel)) ggL_law_X6_pass
set_option maxRecDepth 20000 in
theorem ggL_law_X5_passFrames : GoodIn wsL_law wsX5_passFrames := goodIn_r _ [431, 20, 15, 432, 433, 123, 124, 2, 125, 126, 127, 128, 19, 129, 74, 130, 131, 132, 133, 134, 135, 136, 137, 138, 14, 139, 34, 35, 37, 140, 141, 142, 143, 38, 45, 144, 145, 146, 147, 148, 149, 150, 151, 152, 153, 154, 47, 155, 58, 59, 60, 61, 62, 63, 68, 52, 156, 53, 199, 200, 201, 202, 203, 204, 205, 206, 198, 340, 341, 342, 343, 344, 345, 346, 347, 348, 349, 350, 351, 352, 353, 354, 355, 356, 357, 358, 359, 360, 361, 362, 363, 285, 364, 237, 238, 239, 365, 366, 367, 368, 369, 370, 371, 372, 373, 374, 375, 376, 377, 378, 379, 380, 381, 312, 313, 314, 315, 316, 317, 382, 383, 384, 385, 386, 387, 388, 389, 162, 163, 164, 165, 651, 652, 653, 654, 655, 669, 670, 671, 672, 673, 674, 675, 676, 677, 678, 679, 680, 681, 682, 683, 684, 691, 692, 693, 694, 695, 696, 697, 698, 699] (by decide +kernel) (by decide +kernel)
set_option maxRecDepth 20000 in
theorem gL_law_X5_passFrames : GoodIn wsL_law (wsV RL 60 RX5 yX5_passFrames wsX5_passFrames) := goodIn_app (goodIn_of _ (by decide +kernel)) ggL_law_X5_passFrames
set_option maxRecDepth 20000 in
theorem ggL_law_X6_passFrames : GoodIn wsL_law wsX6_passFrames := goodIn_r _ [437, 92, 170, 171, 5, 172, 173, 174, 175, 176, 95, 96, 94, 394, 395, 396, 397, 398, 399, 400, 401, 402, 403, 404, 223, 224, 225, 226, 215, 216, 217, 218, 405, 406, 407, 408, 409, 410, 411, 412, 244, 245, 246, 247, 413, 414, 415, 416, 110, 111, 112, 113, 417, 418, 419, 420, 421, 422, 423, 424, 425, 426, 427, 219, 220, 221, 222, 177, 178, 179, 180, 181, 182, 183, 184, 185, 97, 98, 656, 657, 658, 659, 660, 661, 662, 663, 664, 665, 666, 667, 668] (by decide +kernel) (by decide +kernel)
set_option maxRecDepth 20000 in
theorem gL_law_X6_passFrames : GoodIn wsL_law (wsV RL 63 RX6 yX6_passFrames wsX6_passFrames) := goodIn_app (goodIn_of _ (by decide +kernel)) ggL_law_X6_passFrames
set_option maxRecDepth 20000 in
theorem ggL_law_X5_type : GoodIn wsL_law wsX5_type := goodIn_r _ [441, 26, 442, 443, 444, 445, 25, 446, 447, 448, 449, 450, 451, 80, 651, 652, 653, 654, 655, 685, 686, 687, 688] (by decide +kernel) (by decide +kernel)
set_option maxRecDepth 20000 in
theorem gL_law_X5_type : GoodIn wsL_law (wsV RL 64 RX5 yX5_type wsX5_type) := goodIn_app (goodIn_of _ (by decide +kernel)) ggL_law_X5_type
set_option maxRecDepth 20000 in
theorem ggL_law_X6_type : GoodIn wsL_law wsX6_type := goodIn_r _ [455, 456, 103, 656, 657, 658, 659, 660, 661, 662, 663, 664, 665, 666, 667, 668] (by decide +kernel) (by decide +kernel)
set_option maxRecDepth 20000 in
theorem gL_law_X6_type : GoodIn wsL_law (wsV RL 68 RX6 yX6_type wsX6_type) := goodIn_app (goodIn_of _ (by decide +kernel)) ggL_law_X6_type
set_option maxRecDepth 20000 in
theorem ggL_law_X5_clearText : GoodIn wsL_law wsX5_clearText := goodIn_r _ [460, 26, 442, 651, 652, 653, 654, 655, 685, 686, 687, 688] (by decide +kernel) (by decide +kernel)
set_option maxRecDepth 20000 in
theorem gL_law_X5_clearText : GoodIn wsL_law (wsV RL 69 RX5 yX5_clearText wsX5_clearText) := goodIn_app (goodIn_of _ (by decide +kernel)) ggL_law_X5_clearText
set_option maxRecDepth 20000 in
theorem ggL_law_X6_clearText : GoodIn wsL_law wsX6_clearText := goodIn_r _ [464, 456, 656, 657, 658, 659, 660, 661, 662, 663, 664, 665, 666, 667, 668] (by decide +kernel) (by decide +kernel)
set_option maxRecDepth 20000 in
theorem gL_law_X6_clearText : GoodIn wsL_law (wsV RL 73 RX6 yX6_clearText wsX6_clearText) := goodIn_app (goodIn_of _ (by decide +kernel)) ggL_law_X6_clearText
set_option maxRecDepth 20000 in
theorem ggL_law_X5_show : GoodIn wsL_law wsX5_show := goodIn_r _ [468, 26, 15, 122, 20, 469, 470, 471, 472, 473, 25, 474, 81, 475, 447, 80, 476, 2, 477, 478, 479, 126, 127, 128, 19, 129, 74, 130, 131, 132, 133, 134, 135, 136, 137, 138, 14, 139, 34, 35, 37, 140, 141, 142, 143, 38, 45, 144, 145, 146, 147, 148, 149, 150, 151, 152, 153, 154, 47, 155, 58, 59, 60, 61, 62, 63, 68, 52, 156, 53, 480, 481, 482, 483, 357, 651, 652, 653, 654, 655, 669, 670, 671, 672, 673, 674, 675, 676, 677, 678, 679, 680, 681, 685, 686, 687, 688, 682, 683, 684, 691, 692, 693, 694, 695, 696, 697, 698, 699] (by decide +kernel) (by decide +kernel)
set_option maxRecDepth 20000 in
theorem gL_law_X5_show : GoodIn wsL_law (wsV RL 74 RX5 yX5_show wsX5_show) := goodIn_app (goodIn_of _ (by decide +kernel)) ggL_law_X5_show
set_option maxRecDepth 20000 in
theorem ggL_law_X6_show : GoodIn wsL_law wsX6_show := goodIn_r _ [487, 456, 103, 92, 104, 488, 489, 5, 490, 173, 174, 175, 176, 95, 96, 94, 110, 111, 112, 113, 181, 182, 183, 184, 185, 97, 98, 656, 657, 658, 659, 660, 661, 662, 663, 664, 665, 666, 667, 668] (by decide +kernel) (by decide +kernel)
set_option maxRecDepth 20000 in
theorem gL_law_X6_show : GoodIn wsL_law (wsV RL 77 RX6 yX6_show wsX6_show) := goodIn_app (goodIn_of _ (by decide +kernel)) ggL_law_X6_show
set_option maxRecDepth 20000 in
theorem ggL_law_X5_undo : GoodIn wsL_law wsX5_undo := goodIn_r _ [494, 20, 495, 15, 496, 497, 498, 19, 499, 130, 74, 131, 136, 137, 138, 14, 139, 34, 35, 37, 140, 141, 142, 143, 38, 45, 144, 145, 146, 147, 148, 149, 150, 151, 152, 153, 154, 47, 155, 58, 59, 60, 61, 62, 63, 68, 52, 156, 53, 651, 652, 653, 654, 655, 682, 683, 684, 669, 670, 671, 672, 673, 674, 675, 676, 677, 678, 679, 680, 681, 691, 692, 693, 694, 695, 696, 697, 698, 699] (by decide +kernel) (by decide +kernel)
set_option maxRecDepth 20000 in
theorem gL_law_X5_undo : GoodIn wsL_law (wsV RL 78 RX5 yX5_undo wsX5_undo) := goodIn_app (goodIn_of _ (by decide +kernel)) ggL_law_X5_undo
set_option maxRecDepth 20000 in
theorem ggL_law_X6_undo : GoodIn wsL_law wsX6_undo := goodIn_r _ [503, 185, 92, 97, 94, 98, 656, 657, 658, 659, 660, 661, 662, 663, 664, 665, 666, 667, 668] (by decide +kernel) (by decide +kernel)
set_option maxRecDepth 20000 in
theorem gL_law_X6_undo : GoodIn wsL_law (wsV RL 81 RX6 yX6_undo wsX6_undo) := goodIn_app (goodIn_of _ (by decide +kernel)) ggL_law_X6_undo
set_option maxRecDepth 20000 in
theorem ggL_law_X5_keep : GoodIn wsL_law wsX5_keep := goodIn_r _ [507, 22, 508, 15, 509, 433, 123, 124, 2, 125, 510, 137, 138, 14, 139, 34, 35, 37, 140, 141, 142, 143, 38, 45, 144, 145, 146, 147, 148, 149, 150, 151, 152, 153, 154, 47, 155, 58, 59, 60, 61, 62, 63, 68, 52, 156, 53, 651, 652, 653, 654, 655, 689, 690, 669, 670, 671, 672, 673, 674, 675, 676, 677, 678, 679, 680, 681, 691, 692, 693, 694, 695, 696, 697, 698, 699] (by decide +kernel) (by decide +kernel)
set_option maxRecDepth 20000 in
theorem gL_law_X5_keep : GoodIn wsL_law (wsV RL 82 RX5 yX5_keep wsX5_keep) := goodIn_app (goodIn_of _ (by decide +kernel)) ggL_law_X5_keep
set_option maxRecDepth 20000 in
theorem ggL_law_X6_keep : GoodIn wsL_law wsX6_keep := goodIn_r _ [514, 102, 99, 92, 100, 94, 170, 171, 5, 172, 656, 657, 658, 659, 660, 661, 662, 663, 664, 665, 666, 667, 668] (by decide +kernel) (by decide +kernel)
set_option maxRecDepth 20000 in
theorem gL_law_X6_keep : GoodIn wsL_law (wsV RL 85 RX6 yX6_keep wsX6_keep) := goodIn_app (goodIn_of _ (by decide +kernel)) ggL_law_X6_keep
set_option maxRecDepth 20000 in
theorem ggL_law_X5_restore : GoodIn wsL_law wsX5_restore := goodIn_r _ [518, 22, 509, 20, 15, 508, 433, 123, 124, 2, 125, 126, 127, 128, 19, 129, 74, 130, 131, 132, 133, 134, 135, 136, 137, 138, 14, 139, 34, 35, 37, 140, 141, 142, 143, 38, 45, 144, 145, 146, 147, 148, 149, 150, 151, 152, 153, 154, 47, 155, 58, 59, 60, 61, 62, 63, 68, 52, 156, 53, 510, 651, 652, 653, 654, 655, 689, 690, 669, 670, 671, 672, 673, 674, 675, 676, 677, 678, 679, 680, 681, 682, 683, 684, 691, 692, 693, 694, 695, 696, 697, 698, 699] (by decide +kernel) (by decide +kernel)
set_option maxRecDepth 20000 in
theorem gL_law_X5_restore : GoodIn wsL_law (wsV RL 86 RX5 yX5_restore wsX5_restore) := goodIn_app (goodIn_of _ (by decide +kernel)) ggL_law_X5_restore
set_option maxRecDepth 20000 in
theorem ggL_law_X6_restore : GoodIn wsL_law wsX6_restore := goodIn_r _ [522, 102, 92, 99, 94, 100, 170, 171, 5, 172, 173, 174, 175, 176, 95, 96, 181, 182, 183, 184, 185, 97, 98, 656, 657, 658, 659, 660, 661, 662, 663, 664, 665, 666, 667, 668] (by decide +kernel) (by decide +kernel)
set_option maxRecDepth 20000 in
theorem gL_law_X6_restore : GoodIn wsL_law (wsV RL 89 RX6 yX6_restore wsX6_restore) := goodIn_app (goodIn_of _ (by decide +kernel)) ggL_law_X6_restore
set_option maxRecDepth 20000 in
theorem ggL_law_X5_digit : GoodIn wsL_law wsX5_digit := goodIn_r _ [526, 15, 261, 527, 231, 252, 270, 300, 310, 528, 190, 191, 192, 14, 193, 35, 34, 124, 2, 125, 232, 233, 234, 47, 235, 60, 236, 237, 238, 239, 58, 59, 529, 204, 205, 206, 198, 530, 531, 532, 533, 52, 534, 535, 536, 537, 538, 539, 540, 479, 478, 651, 652, 653, 654, 655, 691, 692, 693, 694, 695, 696, 697, 698, 699, 669, 670, 671, 672, 673, 674, 675, 676, 677, 678, 679, 680, 681] (by decide +kernel) (by decide +kernel)
set_option maxRecDepth 20000 in
theorem gL_law_X5_digit : GoodIn wsL_law (wsV RL 90 RX5 yX5_digit wsX5_digit) := goodIn_app (goodIn_of _ (by decide +kernel)) ggL_law_X5_digit
set_option maxRecDepth 20000 in
theorem ggL_law_X6_digit : GoodIn wsL_law wsX6_digit := goodIn_r _ [544, 92, 211, 212, 213, 5, 214, 170, 171, 172, 215, 216, 217, 218, 244, 245, 246, 247, 223, 224, 225, 226, 545, 546, 547, 548, 549, 550, 551, 552, 553, 554, 555, 556, 488, 489, 490, 656, 657, 658, 659, 660, 661, 662, 663, 664, 665, 666, 667, 668] (by decide +kernel) (by decide +kernel)
set_option maxRecDepth 20000 in
theorem gL_law_X6_digit : GoodIn wsL_law (wsV RL 93 RX6 yX6_digit wsX6_digit) := goodIn_app (goodIn_of _ (by decide +kernel)) ggL_law_X6_digit
set_option maxRecDepth 20000 in
theorem ggL_law_X5_segment : GoodIn wsL_law wsX5_segment := goodIn_r _ [560, 15, 561, 562, 310, 300, 190, 191, 192, 14, 193, 35, 34, 124, 2, 125, 123, 530, 531, 532, 47, 533, 52, 651, 652, 653, 654, 655, 691, 692, 693, 694, 695, 696, 697, 698, 699, 669, 670, 671, 672, 673, 674, 675, 676, 677, 678, 679, 680, 681] (by decide +kernel) (by decide +kernel)
set_option maxRecDepth 20000 in
theorem gL_law_X5_segment : GoodIn wsL_law (wsV RL 94 RX5 yX5_segment wsX5_segment) := goodIn_app (goodIn_of _ (by decide +kernel)) ggL_law_X5_segment
set_option maxRecDepth 20000 in
theorem ggL_law_X6_segment : GoodIn wsL_law wsX6_segment := goodIn_r _ [566, 92, 211, 212, 213, 5, 214, 170, 171, 172, 545, 546, 547, 548, 656, 657, 658, 659, 660, 661, 662, 663, 664, 665, 666, 667, 668] (by decide +kernel) (by decide +kernel)
set_option maxRecDepth 20000 in
theorem gL_law_X6_segment : GoodIn wsL_law (wsV RL 97 RX6 yX6_segment wsX6_segment) := goodIn_app (goodIn_of _ (by decide +kernel)) ggL_law_X6_segment
set_option maxRecDepth 20000 in
theorem ggL_law_X5_litIn : GoodIn wsL_law wsX5_litIn := goodIn_r _ [570, 15, 16, 190, 191, 192, 14, 193, 35, 34, 124, 2, 125, 123, 510, 137, 138, 139, 37, 140, 141, 142, 143, 38, 45, 144, 145, 146, 147, 148, 149, 150, 151, 152, 153, 154, 47, 155, 58, 59, 60, 61, 62, 63, 68, 52, 156, 53, 340, 341, 342, 343, 344, 345, 346, 347, 348, 349, 350, 351, 352, 198, 353, 354, 355, 356, 357, 358, 359, 360, 361, 362, 363, 285, 364, 237, 238, 239, 203, 204, 205, 206, 365, 366, 367, 368, 369, 370, 371, 372, 373, 374, 375, 376, 134, 377, 378, 379, 380, 133, 135, 381, 312, 313, 314, 315, 316, 317, 382, 383, 384, 385, 386, 387, 388, 389, 200, 201, 202, 162, 163, 164, 165, 571, 572, 651, 652, 653, 654, 655, 669, 670, 671, 672, 673, 674, 675, 676, 677, 678, 679, 680, 681, 691, 692, 693, 694, 695, 696, 697, 698, 699] (by decide +kernel) (by decide +kernel)
set_option maxRecDepth 20000 in
theorem gL_law_X5_litIn : GoodIn wsL_law (wsV RL 98 RX5 yX5_litIn wsX5_litIn) := goodIn_app (goodIn_of _ (by decide +kernel)) ggL_law_X5_litIn
set_option maxRecDepth 20000 in
theorem ggL_law_X6_litIn : GoodIn wsL_law wsX6_litIn := goodIn_r _ [576, 211, 212, 213, 5, 214, 92, 170, 171, 172, 173, 174, 175, 176, 95, 96, 94, 394, 395, 396, 397, 398, 399, 400, 401, 402, 403, 404, 223, 224, 225, 226, 215, 216, 217, 218, 405, 406, 407, 408, 409, 410, 411, 412, 244, 245, 246, 247, 413, 414, 415, 416, 110, 111, 112, 113, 417, 418, 419, 420, 421, 422, 423, 424, 425, 426, 427, 219, 220, 221, 222, 177, 178, 179, 180, 577, 578, 579, 580, 656, 657, 658, 659, 660, 661, 662, 663, 664, 665, 666, 667, 668] (by decide +kernel) (by decide +kernel)
set_option maxRecDepth 20000 in
theorem gL_law_X6_litIn : GoodIn wsL_law (wsV RL 101 RX6 yX6_litIn wsX6_litIn) := goodIn_app (goodIn_of _ (by decide +kernel)) ggL_law_X6_litIn
set_option maxRecDepth 20000 in
theorem ggL_law_X5_steadyGlow : GoodIn wsL_law wsX5_steadyGlow := goodIn_r _ [584, 15, 300, 190, 191, 192, 14, 193, 35, 34, 124, 2, 125, 232, 233, 234, 47, 235, 60, 236, 237, 238, 239, 58, 59, 199, 200, 201, 202, 203, 204, 205, 206, 198, 585, 586, 587, 588, 378, 379, 375, 376, 134, 377, 380, 133, 135, 589, 373, 374, 651, 652, 653, 654, 655, 669, 670, 671, 672, 673, 674, 675, 676, 677, 678, 679, 680, 681, 691, 692, 693, 694, 695, 696, 697, 698, 699] (by decide +kernel) (by decide +kernel)
set_option maxRecDepth 20000 in
theorem gL_law_X5_steadyGlow : GoodIn wsL_law (wsV RL 102 RX5 yX5_steadyGlow wsX5_steadyGlow) := goodIn_app (goodIn_of _ (by decide +kernel)) ggL_law_X5_steadyGlow
set_option maxRecDepth 20000 in
theorem ggL_law_X6_steadyGlow : GoodIn wsL_law wsX6_steadyGlow := goodIn_r _ [593, 211, 212, 213, 5, 214, 92, 170, 171, 172, 244, 245, 246, 247, 215, 216, 217, 218, 219, 220, 221, 222, 223, 224, 225, 226, 421, 422, 423, 424, 425, 426, 427, 656, 657, 658, 659, 660, 661, 662, 663, 664, 665, 666, 667, 668] (by decide +kernel) (by decide +kernel)
set_option maxRecDepth 20000 in
theorem gL_law_X6_steadyGlow : GoodIn wsL_law (wsV RL 105 RX6 yX6_steadyGlow wsX6_steadyGlow) := goodIn_app (goodIn_of _ (by decide +kernel)) ggL_law_X6_steadyGlow
set_option maxRecDepth 20000 in
theorem ggL_law_X5_current : GoodIn wsL_law wsX5_current := goodIn_r _ [597, 15, 598, 599, 600, 651, 652, 653, 654, 655, 669, 670, 671, 672, 673, 674, 675, 676, 677, 678, 679, 680, 681] (by decide +kernel) (by decide +kernel)
set_option maxRecDepth 20000 in
theorem gL_law_X5_current : GoodIn wsL_law (wsV RL 106 RX5 yX5_current wsX5_current) := goodIn_app (goodIn_of _ (by decide +kernel)) ggL_law_X5_current
set_option maxRecDepth 20000 in
theorem ggL_law_X6_current : GoodIn wsL_law wsX6_current := goodIn_r _ [604, 94, 170, 171, 5, 172, 656, 657, 658, 659, 660, 661, 662, 663, 664, 665, 666, 667, 668] (by decide +kernel) (by decide +kernel)
set_option maxRecDepth 20000 in
theorem gL_law_X6_current : GoodIn wsL_law (wsV RL 110 RX6 yX6_current wsX6_current) := goodIn_app (goodIn_of _ (by decide +kernel)) ggL_law_X6_current
set_option maxRecDepth 20000 in
theorem ggL_law_X5_thousandths : GoodIn wsL_law wsX5_thousandths := goodIn_r _ [608, 609, 123, 124, 2, 125, 610, 595, 596, 597, 15, 598, 599, 600, 651, 652, 653, 654, 655, 669, 670, 671, 672, 673, 674, 675, 676, 677, 678, 679, 680, 681] (by decide +kernel) (by decide +kernel)
set_option maxRecDepth 20000 in
theorem gL_law_X5_thousandths : GoodIn wsL_law (wsV RL 111 RX5 yX5_thousandths wsX5_thousandths) := goodIn_app (goodIn_of _ (by decide +kernel)) ggL_law_X5_thousandths
set_option maxRecDepth 20000 in
theorem ggL_law_X6_thousandths : GoodIn wsL_law wsX6_thousandths := goodIn_r _ [614, 94, 615, 170, 171, 5, 172, 656, 657, 658, 659, 660, 661, 662, 663, 664, 665, 666, 667, 668] (by decide +kernel) (by decide +kernel)
set_option maxRecDepth 20000 in
theorem gL_law_X6_thousandths : GoodIn wsL_law (wsV RL 114 RX6 yX6_thousandths wsX6_thousandths) := goodIn_app (goodIn_of _ (by decide +kernel)) ggL_law_X6_thousandths
set_option maxRecDepth 20000 in
theorem ggL_law_X5_duty : GoodIn wsL_law wsX5_duty := goodIn_r _ [619, 15, 433, 528, 190, 191, 192, 14, 193, 35, 34, 124, 2, 125, 651, 652, 653, 654, 655, 669, 670, 671, 672, 673, 674, 675, 676, 677, 678, 679, 680, 681, 691, 692, 693, 694, 695, 696, 697, 698, 699] (by decide +kernel) (by decide +kernel)
set_option maxRecDepth 20000 in
theorem gL_law_X5_duty : GoodIn wsL_law (wsV RL 115 RX5 yX5_duty wsX5_duty) := goodIn_app (goodIn_of _ (by decide +kernel)) ggL_law_X5_duty
set_option maxRecDepth 20000 in
theorem ggL_law_X6_duty : GoodIn wsL_law wsX6_duty := goodIn_r _ [623, 92, 211, 212, 213, 5, 214, 170, 171, 172, 215, 216, 217, 218, 656, 657, 658, 659, 660, 661, 662, 663, 664, 665, 666, 667, 668] (by decide +kernel) (by decide +kernel)
set_option maxRecDepth 20000 in
theorem gL_law_X6_duty : GoodIn wsL_law (wsV RL 118 RX6 yX6_duty wsX6_duty) := goodIn_app (goodIn_of _ (by decide +kernel)) ggL_law_X6_duty
set_option maxRecDepth 20000 in
theorem ggL_law_X5_count : GoodIn wsL_law wsX5_count := goodIn_r _ [627, 15, 433, 122, 628, 432, 331, 629, 300, 20, 495, 26, 442, 199, 200, 201, 14, 202, 35, 203, 204, 205, 206, 34, 198, 571, 350, 351, 352, 146, 630, 631, 632, 633, 358, 381, 312, 313, 314, 315, 316, 317, 651, 652, 653, 654, 655, 669, 670, 671, 672, 673, 674, 675, 676, 677, 678, 679, 680, 681, 682, 683, 684, 685, 686, 687, 688, 691, 692, 693, 694, 695, 696, 697, 698, 699] (by decide +kernel) (by decide +kernel)
set_option maxRecDepth 20000 in
theorem gL_law_X5_count : GoodIn wsL_law (wsV RL 119 RX5 yX5_count wsX5_count) := goodIn_app (goodIn_of _ (by decide +kernel)) ggL_law_X5_count
set_option maxRecDepth 20000 in
theorem ggL_law_X6_count : GoodIn wsL_law wsX6_count := goodIn_r _ [637, 92, 185, 456, 219, 220, 221, 5, 222, 223, 224, 225, 226, 215, 216, 217, 218, 401, 402, 403, 404, 638, 639, 640, 641, 323, 324, 325, 326, 656, 657, 658, 659, 660, 661, 662, 663, 664, 665, 666, 667, 668] (by decide +kernel) (by decide +kernel)
set_option maxRecDepth 20000 in
theorem gL_law_X6_count : GoodIn wsL_law (wsV RL 122 RX6 yX6_count wsX6_count) := goodIn_app (goodIn_of _ (by decide +kernel)) ggL_law_X6_count
set_option maxRecDepth 20000 in
theorem ggL_law_X5_group : GoodIn wsL_law wsX5_group := goodIn_r _ [645, 15, 279, 280, 123, 124, 2, 125, 646, 366, 367, 14, 368, 37, 38, 145, 281, 282, 283, 284, 35, 34, 285, 651, 652, 653, 654, 655, 669, 670, 671, 672, 673, 674, 675, 676, 677, 678, 679, 680, 681, 691, 692, 693, 694, 695, 696, 697, 698, 699] (by decide +kernel) (by decide +kernel)
set_option maxRecDepth 20000 in
theorem gL_law_X5_group : GoodIn wsL_law (wsV RL 123 RX5 yX5_group wsX5_group) := goodIn_app (goodIn_of _ (by decide +kernel)) ggL_law_X5_group
set_option maxRecDepth 20000 in
theorem ggL_law_X6_group : GoodIn wsL_law wsX6_group := goodIn_r _ [650, 92, 170, 171, 5, 172, 413, 414, 415, 416, 290, 291, 292, 293, 215, 216, 217, 218, 656, 657, 658, 659, 660, 661, 662, 663, 664, 665, 666, 667, 668] (by decide +kernel) (by decide +kernel)
set_option maxRecDepth 20000 in
theorem gL_law_X6_group : GoodIn wsL_law (wsV RL 126 RX6 yX6_group wsX6_group) := goodIn_app (goodIn_of _ (by decide +kernel)) ggL_law_X6_group
theorem dL_law_0 : decode cL_law 0 = .ok (.new 7, 3) := by decide +kernel
theorem dL_law_3 : decode cL_law 3 = .ok (.dup, 1) := by decide +kernel
theorem dL_law_4 : decode cL_law 4 = .ok (.invokespecial 9, 3) := by decide +kernel
theorem dL_law_7 : decode cL_law 7 = .ok (.astore_n 1, 1) := by decide +kernel
theorem dL_law_8 : decode cL_law 8 = .ok (.new 10, 3) := by decide +kernel
theorem dL_law_11 : decode cL_law 11 = .ok (.dup, 1) := by decide +kernel
theorem dL_law_12 : decode cL_law 12 = .ok (.invokespecial 12, 3) := by decide +kernel
theorem dL_law_15 : decode cL_law 15 = .ok (.astore_n 2, 1) := by decide +kernel
theorem dL_law_16 : decode cL_law 16 = .ok (.iconst 0, 1) := by decide +kernel
theorem dL_law_17 : decode cL_law 17 = .ok (.istore_n 3, 1) := by decide +kernel
theorem dL_law_18 : decode cL_law 18 = .ok (.iload_n 3, 1) := by decide +kernel
theorem dL_law_19 : decode cL_law 19 = .ok (.aload_n 0, 1) := by decide +kernel
theorem dL_law_20 : decode cL_law 20 = .ok (.arraylength, 1) := by decide +kernel
theorem dL_law_21 : decode cL_law 21 = .ok (.iconst 4, 1) := by decide +kernel
theorem dL_law_22 : decode cL_law 22 = .ok (.isub, 1) := by decide +kernel
theorem dL_law_23 : decode cL_law 23 = .ok (.if_icmp .gt 922, 3) := by decide +kernel
theorem dL_law_26 : decode cL_law 26 = .ok (.aload_n 0, 1) := by decide +kernel
theorem dL_law_27 : decode cL_law 27 = .ok (.iload_n 3, 1) := by decide +kernel
theorem dL_law_28 : decode cL_law 28 = .ok (.iaload, 1) := by decide +kernel
theorem dL_law_29 : decode cL_law 29 = .ok (.bipush 31, 2) := by decide +kernel
theorem dL_law_31 : decode cL_law 31 = .ok (.iand, 1) := by decide +kernel
theorem dL_law_32 : decode cL_law 32 = .ok (.tableswitch 907 0 26 #[124, 147, 180, 213, 246, 279, 312, 355, 388, 411, 434, 457, 480, 505, 518, 531, 544, 567, 590, 623, 666, 699, 722, 775, 798, 851, 874], 124) := by decide +kernel
theorem dL_law_156 : decode cL_law 156 = .ok (.aload_n 1, 1) := by decide +kernel
theorem dL_law_157 : decode cL_law 157 = .ok (.aload_n 0, 1) := by decide +kernel
theorem dL_law_158 : decode cL_law 158 = .ok (.iload_n 3, 1) := by decide +kernel
theorem dL_law_159 : decode cL_law 159 = .ok (.iconst 1, 1) := by decide +kernel
theorem dL_law_160 : decode cL_law 160 = .ok (.iadd, 1) := by decide +kernel
theorem dL_law_161 : decode cL_law 161 = .ok (.iaload, 1) := by decide +kernel
theorem dL_law_162 : decode cL_law 162 = .ok (.invokevirtual 13, 3) := by decide +kernel
theorem dL_law_165 : decode cL_law 165 = .ok (.aload_n 2, 1) := by decide +kernel
theorem dL_law_166 : decode cL_law 166 = .ok (.aload_n 0, 1) := by decide +kernel
theorem dL_law_167 : decode cL_law 167 = .ok (.iload_n 3, 1) := by decide +kernel
theorem dL_law_168 : decode cL_law 168 = .ok (.iconst 1, 1) := by decide +kernel
theorem dL_law_169 : decode cL_law 169 = .ok (.iadd, 1) := by decide +kernel
theorem dL_law_170 : decode cL_law 170 = .ok (.iaload, 1) := by decide +kernel
theorem dL_law_171 : decode cL_law 171 = .ok (.invokevirtual 17, 3) := by decide +kernel
theorem dL_law_174 : decode cL_law 174 = .ok (.if_icmp .eq 765, 3) := by decide +kernel
theorem dL_law_177 : decode cL_law 177 = .ok (.iconst 0, 1) := by decide +kernel
theorem dL_law_178 : decode cL_law 178 = .ok (.ireturn, 1) := by decide +kernel
theorem dL_law_179 : decode cL_law 179 = .ok (.aload_n 1, 1) := by decide +kernel
theorem dL_law_180 : decode cL_law 180 = .ok (.aload_n 0, 1) := by decide +kernel
theorem dL_law_181 : decode cL_law 181 = .ok (.iload_n 3, 1) := by decide +kernel
theorem dL_law_182 : decode cL_law 182 = .ok (.iconst 1, 1) := by decide +kernel
theorem dL_law_183 : decode cL_law 183 = .ok (.iadd, 1) := by decide +kernel
theorem dL_law_184 : decode cL_law 184 = .ok (.iaload, 1) := by decide +kernel
theorem dL_law_185 : decode cL_law 185 = .ok (.aload_n 0, 1) := by decide +kernel
theorem dL_law_186 : decode cL_law 186 = .ok (.iload_n 3, 1) := by decide +kernel
theorem dL_law_187 : decode cL_law 187 = .ok (.iconst 2, 1) := by decide +kernel
theorem dL_law_188 : decode cL_law 188 = .ok (.iadd, 1) := by decide +kernel
theorem dL_law_189 : decode cL_law 189 = .ok (.iaload, 1) := by decide +kernel
theorem dL_law_190 : decode cL_law 190 = .ok (.invokevirtual 18, 3) := by decide +kernel
theorem dL_law_193 : decode cL_law 193 = .ok (.aload_n 2, 1) := by decide +kernel
theorem dL_law_194 : decode cL_law 194 = .ok (.aload_n 0, 1) := by decide +kernel
theorem dL_law_195 : decode cL_law 195 = .ok (.iload_n 3, 1) := by decide +kernel
theorem dL_law_196 : decode cL_law 196 = .ok (.iconst 1, 1) := by decide +kernel
theorem dL_law_197 : decode cL_law 197 = .ok (.iadd, 1) := by decide +kernel
theorem dL_law_198 : decode cL_law 198 = .ok (.iaload, 1) := by decide +kernel
theorem dL_law_199 : decode cL_law 199 = .ok (.aload_n 0, 1) := by decide +kernel
theorem dL_law_200 : decode cL_law 200 = .ok (.iload_n 3, 1) := by decide +kernel
theorem dL_law_201 : decode cL_law 201 = .ok (.iconst 2, 1) := by decide +kernel
theorem dL_law_202 : decode cL_law 202 = .ok (.iadd, 1) := by decide +kernel
theorem dL_law_203 : decode cL_law 203 = .ok (.iaload, 1) := by decide +kernel
theorem dL_law_204 : decode cL_law 204 = .ok (.invokevirtual 22, 3) := by decide +kernel
theorem dL_law_207 : decode cL_law 207 = .ok (.if_icmp .eq 732, 3) := by decide +kernel
theorem dL_law_210 : decode cL_law 210 = .ok (.iconst 0, 1) := by decide +kernel
theorem dL_law_211 : decode cL_law 211 = .ok (.ireturn, 1) := by decide +kernel
theorem dL_law_212 : decode cL_law 212 = .ok (.aload_n 1, 1) := by decide +kernel
theorem dL_law_213 : decode cL_law 213 = .ok (.aload_n 0, 1) := by decide +kernel
theorem dL_law_214 : decode cL_law 214 = .ok (.iload_n 3, 1) := by decide +kernel
theorem dL_law_215 : decode cL_law 215 = .ok (.iconst 1, 1) := by decide +kernel
theorem dL_law_216 : decode cL_law 216 = .ok (.iadd, 1) := by decide +kernel
theorem dL_law_217 : decode cL_law 217 = .ok (.iaload, 1) := by decide +kernel
theorem dL_law_218 : decode cL_law 218 = .ok (.aload_n 0, 1) := by decide +kernel
theorem dL_law_219 : decode cL_law 219 = .ok (.iload_n 3, 1) := by decide +kernel
theorem dL_law_220 : decode cL_law 220 = .ok (.iconst 2, 1) := by decide +kernel
theorem dL_law_221 : decode cL_law 221 = .ok (.iadd, 1) := by decide +kernel
theorem dL_law_222 : decode cL_law 222 = .ok (.iaload, 1) := by decide +kernel
theorem dL_law_223 : decode cL_law 223 = .ok (.invokevirtual 23, 3) := by decide +kernel
theorem dL_law_226 : decode cL_law 226 = .ok (.aload_n 2, 1) := by decide +kernel
theorem dL_law_227 : decode cL_law 227 = .ok (.aload_n 0, 1) := by decide +kernel
theorem dL_law_228 : decode cL_law 228 = .ok (.iload_n 3, 1) := by decide +kernel
theorem dL_law_229 : decode cL_law 229 = .ok (.iconst 1, 1) := by decide +kernel
theorem dL_law_230 : decode cL_law 230 = .ok (.iadd, 1) := by decide +kernel
theorem dL_law_231 : decode cL_law 231 = .ok (.iaload, 1) := by decide +kernel
theorem dL_law_232 : decode cL_law 232 = .ok (.aload_n 0, 1) := by decide +kernel
theorem dL_law_233 : decode cL_law 233 = .ok (.iload_n 3, 1) := by decide +kernel
theorem dL_law_234 : decode cL_law 234 = .ok (.iconst 2, 1) := by decide +kernel
theorem dL_law_235 : decode cL_law 235 = .ok (.iadd, 1) := by decide +kernel
theorem dL_law_236 : decode cL_law 236 = .ok (.iaload, 1) := by decide +kernel
theorem dL_law_237 : decode cL_law 237 = .ok (.invokevirtual 26, 3) := by decide +kernel
theorem dL_law_240 : decode cL_law 240 = .ok (.if_icmp .eq 699, 3) := by decide +kernel
theorem dL_law_243 : decode cL_law 243 = .ok (.iconst 0, 1) := by decide +kernel
theorem dL_law_244 : decode cL_law 244 = .ok (.ireturn, 1) := by decide +kernel
theorem dL_law_245 : decode cL_law 245 = .ok (.aload_n 1, 1) := by decide +kernel
theorem dL_law_246 : decode cL_law 246 = .ok (.aload_n 0, 1) := by decide +kernel
theorem dL_law_247 : decode cL_law 247 = .ok (.iload_n 3, 1) := by decide +kernel
theorem dL_law_248 : decode cL_law 248 = .ok (.iconst 1, 1) := by decide +kernel
theorem dL_law_249 : decode cL_law 249 = .ok (.iadd, 1) := by decide +kernel
theorem dL_law_250 : decode cL_law 250 = .ok (.iaload, 1) := by decide +kernel
theorem dL_law_251 : decode cL_law 251 = .ok (.aload_n 0, 1) := by decide +kernel
theorem dL_law_252 : decode cL_law 252 = .ok (.iload_n 3, 1) := by decide +kernel
theorem dL_law_253 : decode cL_law 253 = .ok (.iconst 2, 1) := by decide +kernel
theorem dL_law_254 : decode cL_law 254 = .ok (.iadd, 1) := by decide +kernel
theorem dL_law_255 : decode cL_law 255 = .ok (.iaload, 1) := by decide +kernel
theorem dL_law_256 : decode cL_law 256 = .ok (.invokevirtual 27, 3) := by decide +kernel
theorem dL_law_259 : decode cL_law 259 = .ok (.aload_n 2, 1) := by decide +kernel
theorem dL_law_260 : decode cL_law 260 = .ok (.aload_n 0, 1) := by decide +kernel
theorem dL_law_261 : decode cL_law 261 = .ok (.iload_n 3, 1) := by decide +kernel
theorem dL_law_262 : decode cL_law 262 = .ok (.iconst 1, 1) := by decide +kernel
theorem dL_law_263 : decode cL_law 263 = .ok (.iadd, 1) := by decide +kernel
theorem dL_law_264 : decode cL_law 264 = .ok (.iaload, 1) := by decide +kernel
theorem dL_law_265 : decode cL_law 265 = .ok (.aload_n 0, 1) := by decide +kernel
theorem dL_law_266 : decode cL_law 266 = .ok (.iload_n 3, 1) := by decide +kernel
theorem dL_law_267 : decode cL_law 267 = .ok (.iconst 2, 1) := by decide +kernel
theorem dL_law_268 : decode cL_law 268 = .ok (.iadd, 1) := by decide +kernel
theorem dL_law_269 : decode cL_law 269 = .ok (.iaload, 1) := by decide +kernel
theorem dL_law_270 : decode cL_law 270 = .ok (.invokevirtual 30, 3) := by decide +kernel
theorem dL_law_273 : decode cL_law 273 = .ok (.if_icmp .eq 666, 3) := by decide +kernel
theorem dL_law_276 : decode cL_law 276 = .ok (.iconst 0, 1) := by decide +kernel
theorem dL_law_277 : decode cL_law 277 = .ok (.ireturn, 1) := by decide +kernel
theorem dL_law_278 : decode cL_law 278 = .ok (.aload_n 1, 1) := by decide +kernel
theorem dL_law_279 : decode cL_law 279 = .ok (.aload_n 0, 1) := by decide +kernel
theorem dL_law_280 : decode cL_law 280 = .ok (.iload_n 3, 1) := by decide +kernel
theorem dL_law_281 : decode cL_law 281 = .ok (.iconst 1, 1) := by decide +kernel
theorem dL_law_282 : decode cL_law 282 = .ok (.iadd, 1) := by decide +kernel
theorem dL_law_283 : decode cL_law 283 = .ok (.iaload, 1) := by decide +kernel
theorem dL_law_284 : decode cL_law 284 = .ok (.aload_n 0, 1) := by decide +kernel
theorem dL_law_285 : decode cL_law 285 = .ok (.iload_n 3, 1) := by decide +kernel
theorem dL_law_286 : decode cL_law 286 = .ok (.iconst 2, 1) := by decide +kernel
theorem dL_law_287 : decode cL_law 287 = .ok (.iadd, 1) := by decide +kernel
theorem dL_law_288 : decode cL_law 288 = .ok (.iaload, 1) := by decide +kernel
theorem dL_law_289 : decode cL_law 289 = .ok (.invokevirtual 31, 3) := by decide +kernel
theorem dL_law_292 : decode cL_law 292 = .ok (.aload_n 2, 1) := by decide +kernel
theorem dL_law_293 : decode cL_law 293 = .ok (.aload_n 0, 1) := by decide +kernel
theorem dL_law_294 : decode cL_law 294 = .ok (.iload_n 3, 1) := by decide +kernel
theorem dL_law_295 : decode cL_law 295 = .ok (.iconst 1, 1) := by decide +kernel
theorem dL_law_296 : decode cL_law 296 = .ok (.iadd, 1) := by decide +kernel
theorem dL_law_297 : decode cL_law 297 = .ok (.iaload, 1) := by decide +kernel
theorem dL_law_298 : decode cL_law 298 = .ok (.aload_n 0, 1) := by decide +kernel
theorem dL_law_299 : decode cL_law 299 = .ok (.iload_n 3, 1) := by decide +kernel
theorem dL_law_300 : decode cL_law 300 = .ok (.iconst 2, 1) := by decide +kernel
theorem dL_law_301 : decode cL_law 301 = .ok (.iadd, 1) := by decide +kernel
theorem dL_law_302 : decode cL_law 302 = .ok (.iaload, 1) := by decide +kernel
theorem dL_law_303 : decode cL_law 303 = .ok (.invokevirtual 34, 3) := by decide +kernel
theorem dL_law_306 : decode cL_law 306 = .ok (.if_icmp .eq 633, 3) := by decide +kernel
theorem dL_law_309 : decode cL_law 309 = .ok (.iconst 0, 1) := by decide +kernel
theorem dL_law_310 : decode cL_law 310 = .ok (.ireturn, 1) := by decide +kernel
theorem dL_law_311 : decode cL_law 311 = .ok (.aload_n 1, 1) := by decide +kernel
theorem dL_law_312 : decode cL_law 312 = .ok (.aload_n 0, 1) := by decide +kernel
theorem dL_law_313 : decode cL_law 313 = .ok (.iload_n 3, 1) := by decide +kernel
theorem dL_law_314 : decode cL_law 314 = .ok (.iconst 1, 1) := by decide +kernel
theorem dL_law_315 : decode cL_law 315 = .ok (.iadd, 1) := by decide +kernel
theorem dL_law_316 : decode cL_law 316 = .ok (.iaload, 1) := by decide +kernel
theorem dL_law_317 : decode cL_law 317 = .ok (.aload_n 0, 1) := by decide +kernel
theorem dL_law_318 : decode cL_law 318 = .ok (.iload_n 3, 1) := by decide +kernel
theorem dL_law_319 : decode cL_law 319 = .ok (.iconst 2, 1) := by decide +kernel
theorem dL_law_320 : decode cL_law 320 = .ok (.iadd, 1) := by decide +kernel
theorem dL_law_321 : decode cL_law 321 = .ok (.iaload, 1) := by decide +kernel
theorem dL_law_322 : decode cL_law 322 = .ok (.invokevirtual 35, 3) := by decide +kernel
theorem dL_law_325 : decode cL_law 325 = .ok (.aload_n 2, 1) := by decide +kernel
theorem dL_law_326 : decode cL_law 326 = .ok (.aload_n 0, 1) := by decide +kernel
theorem dL_law_327 : decode cL_law 327 = .ok (.iload_n 3, 1) := by decide +kernel
theorem dL_law_328 : decode cL_law 328 = .ok (.iconst 1, 1) := by decide +kernel
theorem dL_law_329 : decode cL_law 329 = .ok (.iadd, 1) := by decide +kernel
theorem dL_law_330 : decode cL_law 330 = .ok (.iaload, 1) := by decide +kernel
theorem dL_law_331 : decode cL_law 331 = .ok (.aload_n 0, 1) := by decide +kernel
theorem dL_law_332 : decode cL_law 332 = .ok (.iload_n 3, 1) := by decide +kernel
theorem dL_law_333 : decode cL_law 333 = .ok (.iconst 2, 1) := by decide +kernel
theorem dL_law_334 : decode cL_law 334 = .ok (.iadd, 1) := by decide +kernel
theorem dL_law_335 : decode cL_law 335 = .ok (.iaload, 1) := by decide +kernel
theorem dL_law_336 : decode cL_law 336 = .ok (.invokevirtual 38, 3) := by decide +kernel
theorem dL_law_339 : decode cL_law 339 = .ok (.if_icmp .eq 600, 3) := by decide +kernel
theorem dL_law_342 : decode cL_law 342 = .ok (.iconst 0, 1) := by decide +kernel
theorem dL_law_343 : decode cL_law 343 = .ok (.ireturn, 1) := by decide +kernel
theorem dL_law_344 : decode cL_law 344 = .ok (.aload_n 1, 1) := by decide +kernel
theorem dL_law_345 : decode cL_law 345 = .ok (.aload_n 0, 1) := by decide +kernel
theorem dL_law_346 : decode cL_law 346 = .ok (.iload_n 3, 1) := by decide +kernel
theorem dL_law_347 : decode cL_law 347 = .ok (.iconst 1, 1) := by decide +kernel
theorem dL_law_348 : decode cL_law 348 = .ok (.iadd, 1) := by decide +kernel
theorem dL_law_349 : decode cL_law 349 = .ok (.iaload, 1) := by decide +kernel
theorem dL_law_350 : decode cL_law 350 = .ok (.aload_n 0, 1) := by decide +kernel
theorem dL_law_351 : decode cL_law 351 = .ok (.iload_n 3, 1) := by decide +kernel
theorem dL_law_352 : decode cL_law 352 = .ok (.iconst 2, 1) := by decide +kernel
theorem dL_law_353 : decode cL_law 353 = .ok (.iadd, 1) := by decide +kernel
theorem dL_law_354 : decode cL_law 354 = .ok (.iaload, 1) := by decide +kernel
theorem dL_law_355 : decode cL_law 355 = .ok (.aload_n 0, 1) := by decide +kernel
theorem dL_law_356 : decode cL_law 356 = .ok (.iload_n 3, 1) := by decide +kernel
theorem dL_law_357 : decode cL_law 357 = .ok (.iconst 3, 1) := by decide +kernel
theorem dL_law_358 : decode cL_law 358 = .ok (.iadd, 1) := by decide +kernel
theorem dL_law_359 : decode cL_law 359 = .ok (.iaload, 1) := by decide +kernel
theorem dL_law_360 : decode cL_law 360 = .ok (.invokevirtual 39, 3) := by decide +kernel
theorem dL_law_363 : decode cL_law 363 = .ok (.aload_n 2, 1) := by decide +kernel
theorem dL_law_364 : decode cL_law 364 = .ok (.aload_n 0, 1) := by decide +kernel
theorem dL_law_365 : decode cL_law 365 = .ok (.iload_n 3, 1) := by decide +kernel
theorem dL_law_366 : decode cL_law 366 = .ok (.iconst 1, 1) := by decide +kernel
theorem dL_law_367 : decode cL_law 367 = .ok (.iadd, 1) := by decide +kernel
theorem dL_law_368 : decode cL_law 368 = .ok (.iaload, 1) := by decide +kernel
theorem dL_law_369 : decode cL_law 369 = .ok (.aload_n 0, 1) := by decide +kernel
theorem dL_law_370 : decode cL_law 370 = .ok (.iload_n 3, 1) := by decide +kernel
theorem dL_law_371 : decode cL_law 371 = .ok (.iconst 2, 1) := by decide +kernel
theorem dL_law_372 : decode cL_law 372 = .ok (.iadd, 1) := by decide +kernel
theorem dL_law_373 : decode cL_law 373 = .ok (.iaload, 1) := by decide +kernel
theorem dL_law_374 : decode cL_law 374 = .ok (.aload_n 0, 1) := by decide +kernel
theorem dL_law_375 : decode cL_law 375 = .ok (.iload_n 3, 1) := by decide +kernel
theorem dL_law_376 : decode cL_law 376 = .ok (.iconst 3, 1) := by decide +kernel
theorem dL_law_377 : decode cL_law 377 = .ok (.iadd, 1) := by decide +kernel
theorem dL_law_378 : decode cL_law 378 = .ok (.iaload, 1) := by decide +kernel
theorem dL_law_379 : decode cL_law 379 = .ok (.invokevirtual 43, 3) := by decide +kernel
theorem dL_law_382 : decode cL_law 382 = .ok (.if_icmp .eq 557, 3) := by decide +kernel
theorem dL_law_385 : decode cL_law 385 = .ok (.iconst 0, 1) := by decide +kernel
theorem dL_law_386 : decode cL_law 386 = .ok (.ireturn, 1) := by decide +kernel
theorem dL_law_387 : decode cL_law 387 = .ok (.aload_n 1, 1) := by decide +kernel
theorem dL_law_388 : decode cL_law 388 = .ok (.aload_n 0, 1) := by decide +kernel
theorem dL_law_389 : decode cL_law 389 = .ok (.iload_n 3, 1) := by decide +kernel
theorem dL_law_390 : decode cL_law 390 = .ok (.iconst 1, 1) := by decide +kernel
theorem dL_law_391 : decode cL_law 391 = .ok (.iadd, 1) := by decide +kernel
theorem dL_law_392 : decode cL_law 392 = .ok (.iaload, 1) := by decide +kernel
theorem dL_law_393 : decode cL_law 393 = .ok (.aload_n 0, 1) := by decide +kernel
theorem dL_law_394 : decode cL_law 394 = .ok (.iload_n 3, 1) := by decide +kernel
theorem dL_law_395 : decode cL_law 395 = .ok (.iconst 2, 1) := by decide +kernel
theorem dL_law_396 : decode cL_law 396 = .ok (.iadd, 1) := by decide +kernel
theorem dL_law_397 : decode cL_law 397 = .ok (.iaload, 1) := by decide +kernel
theorem dL_law_398 : decode cL_law 398 = .ok (.invokevirtual 44, 3) := by decide +kernel
theorem dL_law_401 : decode cL_law 401 = .ok (.aload_n 2, 1) := by decide +kernel
theorem dL_law_402 : decode cL_law 402 = .ok (.aload_n 0, 1) := by decide +kernel
theorem dL_law_403 : decode cL_law 403 = .ok (.iload_n 3, 1) := by decide +kernel
theorem dL_law_404 : decode cL_law 404 = .ok (.iconst 1, 1) := by decide +kernel
theorem dL_law_405 : decode cL_law 405 = .ok (.iadd, 1) := by decide +kernel
theorem dL_law_406 : decode cL_law 406 = .ok (.iaload, 1) := by decide +kernel
theorem dL_law_407 : decode cL_law 407 = .ok (.aload_n 0, 1) := by decide +kernel
theorem dL_law_408 : decode cL_law 408 = .ok (.iload_n 3, 1) := by decide +kernel
theorem dL_law_409 : decode cL_law 409 = .ok (.iconst 2, 1) := by decide +kernel
theorem dL_law_410 : decode cL_law 410 = .ok (.iadd, 1) := by decide +kernel
theorem dL_law_411 : decode cL_law 411 = .ok (.iaload, 1) := by decide +kernel
theorem dL_law_412 : decode cL_law 412 = .ok (.invokevirtual 47, 3) := by decide +kernel
theorem dL_law_415 : decode cL_law 415 = .ok (.if_icmp .eq 524, 3) := by decide +kernel
theorem dL_law_418 : decode cL_law 418 = .ok (.iconst 0, 1) := by decide +kernel
theorem dL_law_419 : decode cL_law 419 = .ok (.ireturn, 1) := by decide +kernel
theorem dL_law_420 : decode cL_law 420 = .ok (.aload_n 1, 1) := by decide +kernel
theorem dL_law_421 : decode cL_law 421 = .ok (.aload_n 0, 1) := by decide +kernel
theorem dL_law_422 : decode cL_law 422 = .ok (.iload_n 3, 1) := by decide +kernel
theorem dL_law_423 : decode cL_law 423 = .ok (.iconst 1, 1) := by decide +kernel
theorem dL_law_424 : decode cL_law 424 = .ok (.iadd, 1) := by decide +kernel
theorem dL_law_425 : decode cL_law 425 = .ok (.iaload, 1) := by decide +kernel
theorem dL_law_426 : decode cL_law 426 = .ok (.invokevirtual 48, 3) := by decide +kernel
theorem dL_law_429 : decode cL_law 429 = .ok (.aload_n 2, 1) := by decide +kernel
theorem dL_law_430 : decode cL_law 430 = .ok (.aload_n 0, 1) := by decide +kernel
theorem dL_law_431 : decode cL_law 431 = .ok (.iload_n 3, 1) := by decide +kernel
theorem dL_law_432 : decode cL_law 432 = .ok (.iconst 1, 1) := by decide +kernel
theorem dL_law_433 : decode cL_law 433 = .ok (.iadd, 1) := by decide +kernel
theorem dL_law_434 : decode cL_law 434 = .ok (.iaload, 1) := by decide +kernel
theorem dL_law_435 : decode cL_law 435 = .ok (.invokevirtual 51, 3) := by decide +kernel
theorem dL_law_438 : decode cL_law 438 = .ok (.if_icmp .eq 501, 3) := by decide +kernel
theorem dL_law_441 : decode cL_law 441 = .ok (.iconst 0, 1) := by decide +kernel
theorem dL_law_442 : decode cL_law 442 = .ok (.ireturn, 1) := by decide +kernel
theorem dL_law_443 : decode cL_law 443 = .ok (.aload_n 1, 1) := by decide +kernel
theorem dL_law_444 : decode cL_law 444 = .ok (.aload_n 0, 1) := by decide +kernel
theorem dL_law_445 : decode cL_law 445 = .ok (.iload_n 3, 1) := by decide +kernel
theorem dL_law_446 : decode cL_law 446 = .ok (.iconst 1, 1) := by decide +kernel
theorem dL_law_447 : decode cL_law 447 = .ok (.iadd, 1) := by decide +kernel
theorem dL_law_448 : decode cL_law 448 = .ok (.iaload, 1) := by decide +kernel
theorem dL_law_449 : decode cL_law 449 = .ok (.invokevirtual 52, 3) := by decide +kernel
theorem dL_law_452 : decode cL_law 452 = .ok (.aload_n 2, 1) := by decide +kernel
theorem dL_law_453 : decode cL_law 453 = .ok (.aload_n 0, 1) := by decide +kernel
theorem dL_law_454 : decode cL_law 454 = .ok (.iload_n 3, 1) := by decide +kernel
theorem dL_law_455 : decode cL_law 455 = .ok (.iconst 1, 1) := by decide +kernel
theorem dL_law_456 : decode cL_law 456 = .ok (.iadd, 1) := by decide +kernel
theorem dL_law_457 : decode cL_law 457 = .ok (.iaload, 1) := by decide +kernel
theorem dL_law_458 : decode cL_law 458 = .ok (.invokevirtual 55, 3) := by decide +kernel
theorem dL_law_461 : decode cL_law 461 = .ok (.if_icmp .eq 478, 3) := by decide +kernel
theorem dL_law_464 : decode cL_law 464 = .ok (.iconst 0, 1) := by decide +kernel
theorem dL_law_465 : decode cL_law 465 = .ok (.ireturn, 1) := by decide +kernel
theorem dL_law_466 : decode cL_law 466 = .ok (.aload_n 1, 1) := by decide +kernel
theorem dL_law_467 : decode cL_law 467 = .ok (.aload_n 0, 1) := by decide +kernel
theorem dL_law_468 : decode cL_law 468 = .ok (.iload_n 3, 1) := by decide +kernel
theorem dL_law_469 : decode cL_law 469 = .ok (.iconst 1, 1) := by decide +kernel
theorem dL_law_470 : decode cL_law 470 = .ok (.iadd, 1) := by decide +kernel
theorem dL_law_471 : decode cL_law 471 = .ok (.iaload, 1) := by decide +kernel
theorem dL_law_472 : decode cL_law 472 = .ok (.invokevirtual 56, 3) := by decide +kernel
theorem dL_law_475 : decode cL_law 475 = .ok (.aload_n 2, 1) := by decide +kernel
theorem dL_law_476 : decode cL_law 476 = .ok (.aload_n 0, 1) := by decide +kernel
theorem dL_law_477 : decode cL_law 477 = .ok (.iload_n 3, 1) := by decide +kernel
theorem dL_law_478 : decode cL_law 478 = .ok (.iconst 1, 1) := by decide +kernel
theorem dL_law_479 : decode cL_law 479 = .ok (.iadd, 1) := by decide +kernel
theorem dL_law_480 : decode cL_law 480 = .ok (.iaload, 1) := by decide +kernel
theorem dL_law_481 : decode cL_law 481 = .ok (.invokevirtual 59, 3) := by decide +kernel
theorem dL_law_484 : decode cL_law 484 = .ok (.if_icmp .eq 455, 3) := by decide +kernel
theorem dL_law_487 : decode cL_law 487 = .ok (.iconst 0, 1) := by decide +kernel
theorem dL_law_488 : decode cL_law 488 = .ok (.ireturn, 1) := by decide +kernel
theorem dL_law_489 : decode cL_law 489 = .ok (.aload_n 1, 1) := by decide +kernel
theorem dL_law_490 : decode cL_law 490 = .ok (.aload_n 0, 1) := by decide +kernel
theorem dL_law_491 : decode cL_law 491 = .ok (.iload_n 3, 1) := by decide +kernel
theorem dL_law_492 : decode cL_law 492 = .ok (.iconst 1, 1) := by decide +kernel
theorem dL_law_493 : decode cL_law 493 = .ok (.iadd, 1) := by decide +kernel
theorem dL_law_494 : decode cL_law 494 = .ok (.iaload, 1) := by decide +kernel
theorem dL_law_495 : decode cL_law 495 = .ok (.invokevirtual 60, 3) := by decide +kernel
theorem dL_law_498 : decode cL_law 498 = .ok (.aload_n 2, 1) := by decide +kernel
theorem dL_law_499 : decode cL_law 499 = .ok (.aload_n 0, 1) := by decide +kernel
theorem dL_law_500 : decode cL_law 500 = .ok (.iload_n 3, 1) := by decide +kernel
theorem dL_law_501 : decode cL_law 501 = .ok (.iconst 1, 1) := by decide +kernel
theorem dL_law_502 : decode cL_law 502 = .ok (.iadd, 1) := by decide +kernel
theorem dL_law_503 : decode cL_law 503 = .ok (.iaload, 1) := by decide +kernel
theorem dL_law_504 : decode cL_law 504 = .ok (.invokevirtual 63, 3) := by decide +kernel
theorem dL_law_507 : decode cL_law 507 = .ok (.if_icmp .eq 432, 3) := by decide +kernel
theorem dL_law_510 : decode cL_law 510 = .ok (.iconst 0, 1) := by decide +kernel
theorem dL_law_511 : decode cL_law 511 = .ok (.ireturn, 1) := by decide +kernel
theorem dL_law_512 : decode cL_law 512 = .ok (.aload_n 1, 1) := by decide +kernel
theorem dL_law_513 : decode cL_law 513 = .ok (.aload_n 0, 1) := by decide +kernel
theorem dL_law_514 : decode cL_law 514 = .ok (.iload_n 3, 1) := by decide +kernel
theorem dL_law_515 : decode cL_law 515 = .ok (.iconst 1, 1) := by decide +kernel
theorem dL_law_516 : decode cL_law 516 = .ok (.iadd, 1) := by decide +kernel
theorem dL_law_517 : decode cL_law 517 = .ok (.iaload, 1) := by decide +kernel
theorem dL_law_518 : decode cL_law 518 = .ok (.i2c, 1) := by decide +kernel
theorem dL_law_519 : decode cL_law 519 = .ok (.invokevirtual 64, 3) := by decide +kernel
theorem dL_law_522 : decode cL_law 522 = .ok (.aload_n 2, 1) := by decide +kernel
theorem dL_law_523 : decode cL_law 523 = .ok (.aload_n 0, 1) := by decide +kernel
theorem dL_law_524 : decode cL_law 524 = .ok (.iload_n 3, 1) := by decide +kernel
theorem dL_law_525 : decode cL_law 525 = .ok (.iconst 1, 1) := by decide +kernel
theorem dL_law_526 : decode cL_law 526 = .ok (.iadd, 1) := by decide +kernel
theorem dL_law_527 : decode cL_law 527 = .ok (.iaload, 1) := by decide +kernel
theorem dL_law_528 : decode cL_law 528 = .ok (.i2c, 1) := by decide +kernel
theorem dL_law_529 : decode cL_law 529 = .ok (.invokevirtual 68, 3) := by decide +kernel
theorem dL_law_532 : decode cL_law 532 = .ok (.if_icmp .eq 407, 3) := by decide +kernel
theorem dL_law_535 : decode cL_law 535 = .ok (.iconst 0, 1) := by decide +kernel
theorem dL_law_536 : decode cL_law 536 = .ok (.ireturn, 1) := by decide +kernel
theorem dL_law_537 : decode cL_law 537 = .ok (.aload_n 1, 1) := by decide +kernel
theorem dL_law_538 : decode cL_law 538 = .ok (.invokevirtual 69, 3) := by decide +kernel
theorem dL_law_541 : decode cL_law 541 = .ok (.aload_n 2, 1) := by decide +kernel
theorem dL_law_542 : decode cL_law 542 = .ok (.invokevirtual 73, 3) := by decide +kernel
theorem dL_law_545 : decode cL_law 545 = .ok (.if_icmp .eq 394, 3) := by decide +kernel
theorem dL_law_548 : decode cL_law 548 = .ok (.iconst 0, 1) := by decide +kernel
theorem dL_law_549 : decode cL_law 549 = .ok (.ireturn, 1) := by decide +kernel
theorem dL_law_550 : decode cL_law 550 = .ok (.aload_n 1, 1) := by decide +kernel
theorem dL_law_551 : decode cL_law 551 = .ok (.invokevirtual 74, 3) := by decide +kernel
theorem dL_law_554 : decode cL_law 554 = .ok (.aload_n 2, 1) := by decide +kernel
theorem dL_law_555 : decode cL_law 555 = .ok (.invokevirtual 77, 3) := by decide +kernel
theorem dL_law_558 : decode cL_law 558 = .ok (.if_icmp .eq 381, 3) := by decide +kernel
theorem dL_law_561 : decode cL_law 561 = .ok (.iconst 0, 1) := by decide +kernel
theorem dL_law_562 : decode cL_law 562 = .ok (.ireturn, 1) := by decide +kernel
theorem dL_law_563 : decode cL_law 563 = .ok (.aload_n 1, 1) := by decide +kernel
theorem dL_law_564 : decode cL_law 564 = .ok (.invokevirtual 78, 3) := by decide +kernel
theorem dL_law_567 : decode cL_law 567 = .ok (.aload_n 2, 1) := by decide +kernel
theorem dL_law_568 : decode cL_law 568 = .ok (.invokevirtual 81, 3) := by decide +kernel
theorem dL_law_571 : decode cL_law 571 = .ok (.if_icmp .eq 368, 3) := by decide +kernel
theorem dL_law_574 : decode cL_law 574 = .ok (.iconst 0, 1) := by decide +kernel
theorem dL_law_575 : decode cL_law 575 = .ok (.ireturn, 1) := by decide +kernel
theorem dL_law_576 : decode cL_law 576 = .ok (.aload_n 1, 1) := by decide +kernel
theorem dL_law_577 : decode cL_law 577 = .ok (.aload_n 0, 1) := by decide +kernel
theorem dL_law_578 : decode cL_law 578 = .ok (.iload_n 3, 1) := by decide +kernel
theorem dL_law_579 : decode cL_law 579 = .ok (.iconst 1, 1) := by decide +kernel
theorem dL_law_580 : decode cL_law 580 = .ok (.iadd, 1) := by decide +kernel
theorem dL_law_581 : decode cL_law 581 = .ok (.iaload, 1) := by decide +kernel
theorem dL_law_582 : decode cL_law 582 = .ok (.invokevirtual 82, 3) := by decide +kernel
theorem dL_law_585 : decode cL_law 585 = .ok (.aload_n 2, 1) := by decide +kernel
theorem dL_law_586 : decode cL_law 586 = .ok (.aload_n 0, 1) := by decide +kernel
theorem dL_law_587 : decode cL_law 587 = .ok (.iload_n 3, 1) := by decide +kernel
theorem dL_law_588 : decode cL_law 588 = .ok (.iconst 1, 1) := by decide +kernel
theorem dL_law_589 : decode cL_law 589 = .ok (.iadd, 1) := by decide +kernel
theorem dL_law_590 : decode cL_law 590 = .ok (.iaload, 1) := by decide +kernel
theorem dL_law_591 : decode cL_law 591 = .ok (.invokevirtual 85, 3) := by decide +kernel
theorem dL_law_594 : decode cL_law 594 = .ok (.if_icmp .eq 345, 3) := by decide +kernel
theorem dL_law_597 : decode cL_law 597 = .ok (.iconst 0, 1) := by decide +kernel
theorem dL_law_598 : decode cL_law 598 = .ok (.ireturn, 1) := by decide +kernel
theorem dL_law_599 : decode cL_law 599 = .ok (.aload_n 1, 1) := by decide +kernel
theorem dL_law_600 : decode cL_law 600 = .ok (.aload_n 0, 1) := by decide +kernel
theorem dL_law_601 : decode cL_law 601 = .ok (.iload_n 3, 1) := by decide +kernel
theorem dL_law_602 : decode cL_law 602 = .ok (.iconst 1, 1) := by decide +kernel
theorem dL_law_603 : decode cL_law 603 = .ok (.iadd, 1) := by decide +kernel
theorem dL_law_604 : decode cL_law 604 = .ok (.iaload, 1) := by decide +kernel
theorem dL_law_605 : decode cL_law 605 = .ok (.invokevirtual 86, 3) := by decide +kernel
theorem dL_law_608 : decode cL_law 608 = .ok (.aload_n 2, 1) := by decide +kernel
theorem dL_law_609 : decode cL_law 609 = .ok (.aload_n 0, 1) := by decide +kernel
theorem dL_law_610 : decode cL_law 610 = .ok (.iload_n 3, 1) := by decide +kernel
theorem dL_law_611 : decode cL_law 611 = .ok (.iconst 1, 1) := by decide +kernel
theorem dL_law_612 : decode cL_law 612 = .ok (.iadd, 1) := by decide +kernel
theorem dL_law_613 : decode cL_law 613 = .ok (.iaload, 1) := by decide +kernel
theorem dL_law_614 : decode cL_law 614 = .ok (.invokevirtual 89, 3) := by decide +kernel
theorem dL_law_617 : decode cL_law 617 = .ok (.if_icmp .eq 322, 3) := by decide +kernel
theorem dL_law_620 : decode cL_law 620 = .ok (.iconst 0, 1) := by decide +kernel
theorem dL_law_621 : decode cL_law 621 = .ok (.ireturn, 1) := by decide +kernel
theorem dL_law_622 : decode cL_law 622 = .ok (.aload_n 1, 1) := by decide +kernel
theorem dL_law_623 : decode cL_law 623 = .ok (.aload_n 0, 1) := by decide +kernel
theorem dL_law_624 : decode cL_law 624 = .ok (.iload_n 3, 1) := by decide +kernel
theorem dL_law_625 : decode cL_law 625 = .ok (.iconst 1, 1) := by decide +kernel
theorem dL_law_626 : decode cL_law 626 = .ok (.iadd, 1) := by decide +kernel
theorem dL_law_627 : decode cL_law 627 = .ok (.iaload, 1) := by decide +kernel
theorem dL_law_628 : decode cL_law 628 = .ok (.aload_n 0, 1) := by decide +kernel
theorem dL_law_629 : decode cL_law 629 = .ok (.iload_n 3, 1) := by decide +kernel
theorem dL_law_630 : decode cL_law 630 = .ok (.iconst 2, 1) := by decide +kernel
theorem dL_law_631 : decode cL_law 631 = .ok (.iadd, 1) := by decide +kernel
theorem dL_law_632 : decode cL_law 632 = .ok (.iaload, 1) := by decide +kernel
theorem dL_law_633 : decode cL_law 633 = .ok (.invokevirtual 90, 3) := by decide +kernel
theorem dL_law_636 : decode cL_law 636 = .ok (.aload_n 2, 1) := by decide +kernel
theorem dL_law_637 : decode cL_law 637 = .ok (.aload_n 0, 1) := by decide +kernel
theorem dL_law_638 : decode cL_law 638 = .ok (.iload_n 3, 1) := by decide +kernel
theorem dL_law_639 : decode cL_law 639 = .ok (.iconst 1, 1) := by decide +kernel
theorem dL_law_640 : decode cL_law 640 = .ok (.iadd, 1) := by decide +kernel
theorem dL_law_641 : decode cL_law 641 = .ok (.iaload, 1) := by decide +kernel
theorem dL_law_642 : decode cL_law 642 = .ok (.aload_n 0, 1) := by decide +kernel
theorem dL_law_643 : decode cL_law 643 = .ok (.iload_n 3, 1) := by decide +kernel
theorem dL_law_644 : decode cL_law 644 = .ok (.iconst 2, 1) := by decide +kernel
theorem dL_law_645 : decode cL_law 645 = .ok (.iadd, 1) := by decide +kernel
theorem dL_law_646 : decode cL_law 646 = .ok (.iaload, 1) := by decide +kernel
theorem dL_law_647 : decode cL_law 647 = .ok (.invokevirtual 93, 3) := by decide +kernel
theorem dL_law_650 : decode cL_law 650 = .ok (.if_icmp .eq 289, 3) := by decide +kernel
theorem dL_law_653 : decode cL_law 653 = .ok (.iconst 0, 1) := by decide +kernel
theorem dL_law_654 : decode cL_law 654 = .ok (.ireturn, 1) := by decide +kernel
theorem dL_law_655 : decode cL_law 655 = .ok (.aload_n 1, 1) := by decide +kernel
theorem dL_law_656 : decode cL_law 656 = .ok (.aload_n 0, 1) := by decide +kernel
theorem dL_law_657 : decode cL_law 657 = .ok (.iload_n 3, 1) := by decide +kernel
theorem dL_law_658 : decode cL_law 658 = .ok (.iconst 1, 1) := by decide +kernel
theorem dL_law_659 : decode cL_law 659 = .ok (.iadd, 1) := by decide +kernel
theorem dL_law_660 : decode cL_law 660 = .ok (.iaload, 1) := by decide +kernel
theorem dL_law_661 : decode cL_law 661 = .ok (.aload_n 0, 1) := by decide +kernel
theorem dL_law_662 : decode cL_law 662 = .ok (.iload_n 3, 1) := by decide +kernel
theorem dL_law_663 : decode cL_law 663 = .ok (.iconst 2, 1) := by decide +kernel
theorem dL_law_664 : decode cL_law 664 = .ok (.iadd, 1) := by decide +kernel
theorem dL_law_665 : decode cL_law 665 = .ok (.iaload, 1) := by decide +kernel
theorem dL_law_666 : decode cL_law 666 = .ok (.aload_n 0, 1) := by decide +kernel
theorem dL_law_667 : decode cL_law 667 = .ok (.iload_n 3, 1) := by decide +kernel
theorem dL_law_668 : decode cL_law 668 = .ok (.iconst 3, 1) := by decide +kernel
theorem dL_law_669 : decode cL_law 669 = .ok (.iadd, 1) := by decide +kernel
theorem dL_law_670 : decode cL_law 670 = .ok (.iaload, 1) := by decide +kernel
theorem dL_law_671 : decode cL_law 671 = .ok (.invokevirtual 94, 3) := by decide +kernel
theorem dL_law_674 : decode cL_law 674 = .ok (.aload_n 2, 1) := by decide +kernel
theorem dL_law_675 : decode cL_law 675 = .ok (.aload_n 0, 1) := by decide +kernel
theorem dL_law_676 : decode cL_law 676 = .ok (.iload_n 3, 1) := by decide +kernel
theorem dL_law_677 : decode cL_law 677 = .ok (.iconst 1, 1) := by decide +kernel
theorem dL_law_678 : decode cL_law 678 = .ok (.iadd, 1) := by decide +kernel
theorem dL_law_679 : decode cL_law 679 = .ok (.iaload, 1) := by decide +kernel
theorem dL_law_680 : decode cL_law 680 = .ok (.aload_n 0, 1) := by decide +kernel
theorem dL_law_681 : decode cL_law 681 = .ok (.iload_n 3, 1) := by decide +kernel
theorem dL_law_682 : decode cL_law 682 = .ok (.iconst 2, 1) := by decide +kernel
theorem dL_law_683 : decode cL_law 683 = .ok (.iadd, 1) := by decide +kernel
theorem dL_law_684 : decode cL_law 684 = .ok (.iaload, 1) := by decide +kernel
theorem dL_law_685 : decode cL_law 685 = .ok (.aload_n 0, 1) := by decide +kernel
theorem dL_law_686 : decode cL_law 686 = .ok (.iload_n 3, 1) := by decide +kernel
theorem dL_law_687 : decode cL_law 687 = .ok (.iconst 3, 1) := by decide +kernel
theorem dL_law_688 : decode cL_law 688 = .ok (.iadd, 1) := by decide +kernel
theorem dL_law_689 : decode cL_law 689 = .ok (.iaload, 1) := by decide +kernel
theorem dL_law_690 : decode cL_law 690 = .ok (.invokevirtual 97, 3) := by decide +kernel
theorem dL_law_693 : decode cL_law 693 = .ok (.if_icmp .eq 246, 3) := by decide +kernel
theorem dL_law_696 : decode cL_law 696 = .ok (.iconst 0, 1) := by decide +kernel
theorem dL_law_697 : decode cL_law 697 = .ok (.ireturn, 1) := by decide +kernel
theorem dL_law_698 : decode cL_law 698 = .ok (.aload_n 1, 1) := by decide +kernel
theorem dL_law_699 : decode cL_law 699 = .ok (.aload_n 0, 1) := by decide +kernel
theorem dL_law_700 : decode cL_law 700 = .ok (.iload_n 3, 1) := by decide +kernel
theorem dL_law_701 : decode cL_law 701 = .ok (.iconst 1, 1) := by decide +kernel
theorem dL_law_702 : decode cL_law 702 = .ok (.iadd, 1) := by decide +kernel
theorem dL_law_703 : decode cL_law 703 = .ok (.iaload, 1) := by decide +kernel
theorem dL_law_704 : decode cL_law 704 = .ok (.aload_n 0, 1) := by decide +kernel
theorem dL_law_705 : decode cL_law 705 = .ok (.iload_n 3, 1) := by decide +kernel
theorem dL_law_706 : decode cL_law 706 = .ok (.iconst 2, 1) := by decide +kernel
theorem dL_law_707 : decode cL_law 707 = .ok (.iadd, 1) := by decide +kernel
theorem dL_law_708 : decode cL_law 708 = .ok (.iaload, 1) := by decide +kernel
theorem dL_law_709 : decode cL_law 709 = .ok (.invokevirtual 98, 3) := by decide +kernel
theorem dL_law_712 : decode cL_law 712 = .ok (.aload_n 2, 1) := by decide +kernel
theorem dL_law_713 : decode cL_law 713 = .ok (.aload_n 0, 1) := by decide +kernel
theorem dL_law_714 : decode cL_law 714 = .ok (.iload_n 3, 1) := by decide +kernel
theorem dL_law_715 : decode cL_law 715 = .ok (.iconst 1, 1) := by decide +kernel
theorem dL_law_716 : decode cL_law 716 = .ok (.iadd, 1) := by decide +kernel
theorem dL_law_717 : decode cL_law 717 = .ok (.iaload, 1) := by decide +kernel
theorem dL_law_718 : decode cL_law 718 = .ok (.aload_n 0, 1) := by decide +kernel
theorem dL_law_719 : decode cL_law 719 = .ok (.iload_n 3, 1) := by decide +kernel
theorem dL_law_720 : decode cL_law 720 = .ok (.iconst 2, 1) := by decide +kernel
theorem dL_law_721 : decode cL_law 721 = .ok (.iadd, 1) := by decide +kernel
theorem dL_law_722 : decode cL_law 722 = .ok (.iaload, 1) := by decide +kernel
theorem dL_law_723 : decode cL_law 723 = .ok (.invokevirtual 101, 3) := by decide +kernel
theorem dL_law_726 : decode cL_law 726 = .ok (.if_icmp .eq 213, 3) := by decide +kernel
theorem dL_law_729 : decode cL_law 729 = .ok (.iconst 0, 1) := by decide +kernel
theorem dL_law_730 : decode cL_law 730 = .ok (.ireturn, 1) := by decide +kernel
theorem dL_law_731 : decode cL_law 731 = .ok (.aload_n 1, 1) := by decide +kernel
theorem dL_law_732 : decode cL_law 732 = .ok (.aload_n 0, 1) := by decide +kernel
theorem dL_law_733 : decode cL_law 733 = .ok (.iload_n 3, 1) := by decide +kernel
theorem dL_law_734 : decode cL_law 734 = .ok (.iconst 1, 1) := by decide +kernel
theorem dL_law_735 : decode cL_law 735 = .ok (.iadd, 1) := by decide +kernel
theorem dL_law_736 : decode cL_law 736 = .ok (.iaload, 1) := by decide +kernel
theorem dL_law_737 : decode cL_law 737 = .ok (.invokevirtual 102, 3) := by decide +kernel
theorem dL_law_740 : decode cL_law 740 = .ok (.aload_n 2, 1) := by decide +kernel
theorem dL_law_741 : decode cL_law 741 = .ok (.aload_n 0, 1) := by decide +kernel
theorem dL_law_742 : decode cL_law 742 = .ok (.iload_n 3, 1) := by decide +kernel
theorem dL_law_743 : decode cL_law 743 = .ok (.iconst 1, 1) := by decide +kernel
theorem dL_law_744 : decode cL_law 744 = .ok (.iadd, 1) := by decide +kernel
theorem dL_law_745 : decode cL_law 745 = .ok (.iaload, 1) := by decide +kernel
theorem dL_law_746 : decode cL_law 746 = .ok (.invokevirtual 105, 3) := by decide +kernel
theorem dL_law_749 : decode cL_law 749 = .ok (.if_icmp .eq 190, 3) := by decide +kernel
theorem dL_law_752 : decode cL_law 752 = .ok (.iconst 0, 1) := by decide +kernel
theorem dL_law_753 : decode cL_law 753 = .ok (.ireturn, 1) := by decide +kernel
theorem dL_law_754 : decode cL_law 754 = .ok (.aload_n 1, 1) := by decide +kernel
theorem dL_law_755 : decode cL_law 755 = .ok (.aload_n 0, 1) := by decide +kernel
theorem dL_law_756 : decode cL_law 756 = .ok (.iload_n 3, 1) := by decide +kernel
theorem dL_law_757 : decode cL_law 757 = .ok (.iconst 1, 1) := by decide +kernel
theorem dL_law_758 : decode cL_law 758 = .ok (.iadd, 1) := by decide +kernel
theorem dL_law_759 : decode cL_law 759 = .ok (.iaload, 1) := by decide +kernel
theorem dL_law_760 : decode cL_law 760 = .ok (.invokevirtual 106, 3) := by decide +kernel
theorem dL_law_763 : decode cL_law 763 = .ok (.f2d, 1) := by decide +kernel
theorem dL_law_764 : decode cL_law 764 = .ok (.dstore 4, 2) := by decide +kernel
theorem dL_law_766 : decode cL_law 766 = .ok (.aload_n 2, 1) := by decide +kernel
theorem dL_law_767 : decode cL_law 767 = .ok (.aload_n 0, 1) := by decide +kernel
theorem dL_law_768 : decode cL_law 768 = .ok (.iload_n 3, 1) := by decide +kernel
theorem dL_law_769 : decode cL_law 769 = .ok (.iconst 1, 1) := by decide +kernel
theorem dL_law_770 : decode cL_law 770 = .ok (.iadd, 1) := by decide +kernel
theorem dL_law_771 : decode cL_law 771 = .ok (.iaload, 1) := by decide +kernel
theorem dL_law_772 : decode cL_law 772 = .ok (.invokevirtual 110, 3) := by decide +kernel
theorem dL_law_775 : decode cL_law 775 = .ok (.f2d, 1) := by decide +kernel
theorem dL_law_776 : decode cL_law 776 = .ok (.dstore 6, 2) := by decide +kernel
theorem dL_law_778 : decode cL_law 778 = .ok (.dload 4, 2) := by decide +kernel
theorem dL_law_780 : decode cL_law 780 = .ok (.dload 6, 2) := by decide +kernel
theorem dL_law_782 : decode cL_law 782 = .ok (.dcmp .l, 1) := by decide +kernel
theorem dL_law_783 : decode cL_law 783 = .ok (.ifCond .eq 21, 3) := by decide +kernel
theorem dL_law_786 : decode cL_law 786 = .ok (.dload 4, 2) := by decide +kernel
theorem dL_law_788 : decode cL_law 788 = .ok (.dload 4, 2) := by decide +kernel
theorem dL_law_790 : decode cL_law 790 = .ok (.dcmp .l, 1) := by decide +kernel
theorem dL_law_791 : decode cL_law 791 = .ok (.ifCond .eq 11, 3) := by decide +kernel
theorem dL_law_794 : decode cL_law 794 = .ok (.dload 6, 2) := by decide +kernel
theorem dL_law_796 : decode cL_law 796 = .ok (.dload 6, 2) := by decide +kernel
theorem dL_law_798 : decode cL_law 798 = .ok (.dcmp .l, 1) := by decide +kernel
theorem dL_law_799 : decode cL_law 799 = .ok (.ifCond .ne 5, 3) := by decide +kernel
theorem dL_law_802 : decode cL_law 802 = .ok (.iconst 0, 1) := by decide +kernel
theorem dL_law_803 : decode cL_law 803 = .ok (.ireturn, 1) := by decide +kernel
theorem dL_law_804 : decode cL_law 804 = .ok (.goto 135, 3) := by decide +kernel
theorem dL_law_807 : decode cL_law 807 = .ok (.aload_n 1, 1) := by decide +kernel
theorem dL_law_808 : decode cL_law 808 = .ok (.aload_n 0, 1) := by decide +kernel
theorem dL_law_809 : decode cL_law 809 = .ok (.iload_n 3, 1) := by decide +kernel
theorem dL_law_810 : decode cL_law 810 = .ok (.iconst 1, 1) := by decide +kernel
theorem dL_law_811 : decode cL_law 811 = .ok (.iadd, 1) := by decide +kernel
theorem dL_law_812 : decode cL_law 812 = .ok (.iaload, 1) := by decide +kernel
theorem dL_law_813 : decode cL_law 813 = .ok (.invokevirtual 111, 3) := by decide +kernel
theorem dL_law_816 : decode cL_law 816 = .ok (.aload_n 2, 1) := by decide +kernel
theorem dL_law_817 : decode cL_law 817 = .ok (.aload_n 0, 1) := by decide +kernel
theorem dL_law_818 : decode cL_law 818 = .ok (.iload_n 3, 1) := by decide +kernel
theorem dL_law_819 : decode cL_law 819 = .ok (.iconst 1, 1) := by decide +kernel
theorem dL_law_820 : decode cL_law 820 = .ok (.iadd, 1) := by decide +kernel
theorem dL_law_821 : decode cL_law 821 = .ok (.iaload, 1) := by decide +kernel
theorem dL_law_822 : decode cL_law 822 = .ok (.invokevirtual 114, 3) := by decide +kernel
theorem dL_law_825 : decode cL_law 825 = .ok (.if_icmp .eq 114, 3) := by decide +kernel
theorem dL_law_828 : decode cL_law 828 = .ok (.iconst 0, 1) := by decide +kernel
theorem dL_law_829 : decode cL_law 829 = .ok (.ireturn, 1) := by decide +kernel
theorem dL_law_830 : decode cL_law 830 = .ok (.aload_n 1, 1) := by decide +kernel
theorem dL_law_831 : decode cL_law 831 = .ok (.aload_n 0, 1) := by decide +kernel
theorem dL_law_832 : decode cL_law 832 = .ok (.iload_n 3, 1) := by decide +kernel
theorem dL_law_833 : decode cL_law 833 = .ok (.iconst 1, 1) := by decide +kernel
theorem dL_law_834 : decode cL_law 834 = .ok (.iadd, 1) := by decide +kernel
theorem dL_law_835 : decode cL_law 835 = .ok (.iaload, 1) := by decide +kernel
theorem dL_law_836 : decode cL_law 836 = .ok (.invokevirtual 115, 3) := by decide +kernel
theorem dL_law_839 : decode cL_law 839 = .ok (.f2d, 1) := by decide +kernel
theorem dL_law_840 : decode cL_law 840 = .ok (.dstore 4, 2) := by decide +kernel
theorem dL_law_842 : decode cL_law 842 = .ok (.aload_n 2, 1) := by decide +kernel
theorem dL_law_843 : decode cL_law 843 = .ok (.aload_n 0, 1) := by decide +kernel
theorem dL_law_844 : decode cL_law 844 = .ok (.iload_n 3, 1) := by decide +kernel
theorem dL_law_845 : decode cL_law 845 = .ok (.iconst 1, 1) := by decide +kernel
theorem dL_law_846 : decode cL_law 846 = .ok (.iadd, 1) := by decide +kernel
theorem dL_law_847 : decode cL_law 847 = .ok (.iaload, 1) := by decide +kernel
theorem dL_law_848 : decode cL_law 848 = .ok (.invokevirtual 118, 3) := by decide +kernel
theorem dL_law_851 : decode cL_law 851 = .ok (.f2d, 1) := by decide +kernel
theorem dL_law_852 : decode cL_law 852 = .ok (.dstore 6, 2) := by decide +kernel
theorem dL_law_854 : decode cL_law 854 = .ok (.dload 4, 2) := by decide +kernel
theorem dL_law_856 : decode cL_law 856 = .ok (.dload 6, 2) := by decide +kernel
theorem dL_law_858 : decode cL_law 858 = .ok (.dcmp .l, 1) := by decide +kernel
theorem dL_law_859 : decode cL_law 859 = .ok (.ifCond .eq 21, 3) := by decide +kernel
theorem dL_law_862 : decode cL_law 862 = .ok (.dload 4, 2) := by decide +kernel
theorem dL_law_864 : decode cL_law 864 = .ok (.dload 4, 2) := by decide +kernel
theorem dL_law_866 : decode cL_law 866 = .ok (.dcmp .l, 1) := by decide +kernel
theorem dL_law_867 : decode cL_law 867 = .ok (.ifCond .eq 11, 3) := by decide +kernel
theorem dL_law_870 : decode cL_law 870 = .ok (.dload 6, 2) := by decide +kernel
theorem dL_law_872 : decode cL_law 872 = .ok (.dload 6, 2) := by decide +kernel
theorem dL_law_874 : decode cL_law 874 = .ok (.dcmp .l, 1) := by decide +kernel
theorem dL_law_875 : decode cL_law 875 = .ok (.ifCond .ne 5, 3) := by decide +kernel
theorem dL_law_878 : decode cL_law 878 = .ok (.iconst 0, 1) := by decide +kernel
theorem dL_law_879 : decode cL_law 879 = .ok (.ireturn, 1) := by decide +kernel
theorem dL_law_880 : decode cL_law 880 = .ok (.goto 59, 3) := by decide +kernel
theorem dL_law_883 : decode cL_law 883 = .ok (.aload_n 1, 1) := by decide +kernel
theorem dL_law_884 : decode cL_law 884 = .ok (.aload_n 0, 1) := by decide +kernel
theorem dL_law_885 : decode cL_law 885 = .ok (.iload_n 3, 1) := by decide +kernel
theorem dL_law_886 : decode cL_law 886 = .ok (.iconst 1, 1) := by decide +kernel
theorem dL_law_887 : decode cL_law 887 = .ok (.iadd, 1) := by decide +kernel
theorem dL_law_888 : decode cL_law 888 = .ok (.iaload, 1) := by decide +kernel
theorem dL_law_889 : decode cL_law 889 = .ok (.invokevirtual 119, 3) := by decide +kernel
theorem dL_law_892 : decode cL_law 892 = .ok (.aload_n 2, 1) := by decide +kernel
theorem dL_law_893 : decode cL_law 893 = .ok (.aload_n 0, 1) := by decide +kernel
theorem dL_law_894 : decode cL_law 894 = .ok (.iload_n 3, 1) := by decide +kernel
theorem dL_law_895 : decode cL_law 895 = .ok (.iconst 1, 1) := by decide +kernel
theorem dL_law_896 : decode cL_law 896 = .ok (.iadd, 1) := by decide +kernel
theorem dL_law_897 : decode cL_law 897 = .ok (.iaload, 1) := by decide +kernel
theorem dL_law_898 : decode cL_law 898 = .ok (.invokevirtual 122, 3) := by decide +kernel
theorem dL_law_901 : decode cL_law 901 = .ok (.if_icmp .eq 38, 3) := by decide +kernel
theorem dL_law_904 : decode cL_law 904 = .ok (.iconst 0, 1) := by decide +kernel
theorem dL_law_905 : decode cL_law 905 = .ok (.ireturn, 1) := by decide +kernel
theorem dL_law_906 : decode cL_law 906 = .ok (.aload_n 1, 1) := by decide +kernel
theorem dL_law_907 : decode cL_law 907 = .ok (.aload_n 0, 1) := by decide +kernel
theorem dL_law_908 : decode cL_law 908 = .ok (.iload_n 3, 1) := by decide +kernel
theorem dL_law_909 : decode cL_law 909 = .ok (.iconst 1, 1) := by decide +kernel
theorem dL_law_910 : decode cL_law 910 = .ok (.iadd, 1) := by decide +kernel
theorem dL_law_911 : decode cL_law 911 = .ok (.iaload, 1) := by decide +kernel
theorem dL_law_912 : decode cL_law 912 = .ok (.aload_n 0, 1) := by decide +kernel
theorem dL_law_913 : decode cL_law 913 = .ok (.iload_n 3, 1) := by decide +kernel
theorem dL_law_914 : decode cL_law 914 = .ok (.iconst 2, 1) := by decide +kernel
theorem dL_law_915 : decode cL_law 915 = .ok (.iadd, 1) := by decide +kernel
theorem dL_law_916 : decode cL_law 916 = .ok (.iaload, 1) := by decide +kernel
theorem dL_law_917 : decode cL_law 917 = .ok (.invokevirtual 123, 3) := by decide +kernel
theorem dL_law_920 : decode cL_law 920 = .ok (.aload_n 2, 1) := by decide +kernel
theorem dL_law_921 : decode cL_law 921 = .ok (.aload_n 0, 1) := by decide +kernel
theorem dL_law_922 : decode cL_law 922 = .ok (.iload_n 3, 1) := by decide +kernel
theorem dL_law_923 : decode cL_law 923 = .ok (.iconst 1, 1) := by decide +kernel
theorem dL_law_924 : decode cL_law 924 = .ok (.iadd, 1) := by decide +kernel
theorem dL_law_925 : decode cL_law 925 = .ok (.iaload, 1) := by decide +kernel
theorem dL_law_926 : decode cL_law 926 = .ok (.aload_n 0, 1) := by decide +kernel
theorem dL_law_927 : decode cL_law 927 = .ok (.iload_n 3, 1) := by decide +kernel
theorem dL_law_928 : decode cL_law 928 = .ok (.iconst 2, 1) := by decide +kernel
theorem dL_law_929 : decode cL_law 929 = .ok (.iadd, 1) := by decide +kernel
theorem dL_law_930 : decode cL_law 930 = .ok (.iaload, 1) := by decide +kernel
theorem dL_law_931 : decode cL_law 931 = .ok (.invokevirtual 126, 3) := by decide +kernel
theorem dL_law_934 : decode cL_law 934 = .ok (.if_icmp .eq 5, 3) := by decide +kernel
theorem dL_law_937 : decode cL_law 937 = .ok (.iconst 0, 1) := by decide +kernel
theorem dL_law_938 : decode cL_law 938 = .ok (.ireturn, 1) := by decide +kernel
theorem dL_law_939 : decode cL_law 939 = .ok (.iinc 3 4, 3) := by decide +kernel
theorem dL_law_942 : decode cL_law 942 = .ok (.goto (-924), 3) := by decide +kernel
theorem dL_law_945 : decode cL_law 945 = .ok (.iconst 1, 1) := by decide +kernel
theorem dL_law_946 : decode cL_law 946 = .ok (.ireturn, 1) := by decide +kernel
abbrev vwCl : List vw_C := [(RX0, TX0, 9), (RX1, TX1, 3), (RX2, TX2, 2), (RX3, TX3, 13), (RX4, TX4, 4), (RX5, TX5, 5), (RX6, TX6, 13)]
