theorem dX3_runTick_59 : decode cX3_runTick 59 = .ok (.iload_n 3, 1) := by decide +kernel
theorem dX3_runTick_60 : decode cX3_runTick 60 = .ok (.iload_n 1, 1) := by decide +kernel
theorem dX3_runTick_61 : decode cX3_runTick 61 = .ok (.if_icmp .ne 7, 3) := by decide +kernel
theorem dX3_runTick_64 : decode cX3_runTick 64 = .ok (.iload_n 2, 1) := by decide +kernel
theorem dX3_runTick_65 : decode cX3_runTick 65 = .ok (.goto 4, 3) := by decide +kernel
theorem dX3_runTick_68 : decode cX3_runTick 68 = .ok (.iconst 0, 1) := by decide +kernel
theorem dX3_runTick_69 : decode cX3_runTick 69 = .ok (.aload_n 0, 1) := by decide +kernel
theorem dX3_runTick_70 : decode cX3_runTick 70 = .ok (.getfield 36, 3) := by decide +kernel
theorem dX3_runTick_73 : decode cX3_runTick 73 = .ok (.iconst 0, 1) := by decide +kernel
theorem dX3_runTick_74 : decode cX3_runTick 74 = .ok (.iaload, 1) := by decide +kernel
theorem dX3_runTick_75 : decode cX3_runTick 75 = .ok (.aload_n 0, 1) := by decide +kernel
theorem dX3_runTick_76 : decode cX3_runTick 76 = .ok (.getfield 36, 3) := by decide +kernel
theorem dX3_runTick_79 : decode cX3_runTick 79 = .ok (.iconst 2, 1) := by decide +kernel
theorem dX3_runTick_80 : decode cX3_runTick 80 = .ok (.iaload, 1) := by decide +kernel
theorem dX3_runTick_81 : decode cX3_runTick 81 = .ok (.invokevirtual 130, 3) := by decide +kernel
theorem dX3_runTick_84 : decode cX3_runTick 84 = .ok (.iinc 3 1, 3) := by decide +kernel
theorem dX3_runTick_87 : decode cX3_runTick 87 = .ok (.goto (-42), 3) := by decide +kernel
theorem dX3_runTick_90 : decode cX3_runTick 90 = .ok (.iload_n 2, 1) := by decide +kernel
theorem dX3_runTick_91 : decode cX3_runTick 91 = .ok (.invokestatic 101, 3) := by decide +kernel
theorem dX3_runTick_94 : decode cX3_runTick 94 = .ok (.istore_n 3, 1) := by decide +kernel
theorem dX3_runTick_95 : decode cX3_runTick 95 = .ok (.aload_n 0, 1) := by decide +kernel
theorem dX3_runTick_96 : decode cX3_runTick 96 = .ok (.iload_n 3, 1) := by decide +kernel
theorem dX3_runTick_97 : decode cX3_runTick 97 = .ok (.invokevirtual 133, 3) := by decide +kernel
theorem dX3_runTick_100 : decode cX3_runTick 100 = .ok (.aload_n 0, 1) := by decide +kernel
theorem dX3_runTick_101 : decode cX3_runTick 101 = .ok (.dup, 1) := by decide +kernel
theorem dX3_runTick_102 : decode cX3_runTick 102 = .ok (.getfield 50, 3) := by decide +kernel
theorem dX3_runTick_105 : decode cX3_runTick 105 = .ok (.iconst 1, 1) := by decide +kernel
theorem dX3_runTick_106 : decode cX3_runTick 106 = .ok (.iadd, 1) := by decide +kernel
theorem dX3_runTick_107 : decode cX3_runTick 107 = .ok (.putfield 50, 3) := by decide +kernel
theorem dX3_runTick_110 : decode cX3_runTick 110 = .ok (.aload_n 0, 1) := by decide +kernel
theorem dX3_runTick_111 : decode cX3_runTick 111 = .ok (.dup, 1) := by decide +kernel
theorem dX3_runTick_112 : decode cX3_runTick 112 = .ok (.getfield 56, 3) := by decide +kernel
theorem dX3_runTick_115 : decode cX3_runTick 115 = .ok (.iconst 1, 1) := by decide +kernel
theorem dX3_runTick_116 : decode cX3_runTick 116 = .ok (.iadd, 1) := by decide +kernel
theorem dX3_runTick_117 : decode cX3_runTick 117 = .ok (.putfield 56, 3) := by decide +kernel
theorem dX3_runTick_120 : decode cX3_runTick 120 = .ok (.aload_n 0, 1) := by decide +kernel
theorem dX3_runTick_121 : decode cX3_runTick 121 = .ok (.getfield 56, 3) := by decide +kernel
theorem dX3_runTick_124 : decode cX3_runTick 124 = .ok (.aload_n 0, 1) := by decide +kernel
theorem dX3_runTick_125 : decode cX3_runTick 125 = .ok (.invokevirtual 137, 3) := by decide +kernel
theorem dX3_runTick_128 : decode cX3_runTick 128 = .ok (.if_icmp .lt 7, 3) := by decide +kernel
theorem dX3_runTick_131 : decode cX3_runTick 131 = .ok (.aload_n 0, 1) := by decide +kernel
theorem dX3_runTick_132 : decode cX3_runTick 132 = .ok (.invokevirtual 82, 3) := by decide +kernel
theorem dX3_runTick_135 : decode cX3_runTick 135 = .ok (.iload_n 3, 1) := by decide +kernel
theorem dX3_runTick_136 : decode cX3_runTick 136 = .ok (.ireturn, 1) := by decide +kernel
theorem dX3_runCurrent_0 : decode cX3_runCurrent 0 = .ok (.aload_n 0, 1) := by decide +kernel
theorem dX3_runCurrent_1 : decode cX3_runCurrent 1 = .ok (.aload_n 0, 1) := by decide +kernel
theorem dX3_runCurrent_2 : decode cX3_runCurrent 2 = .ok (.getfield 65, 3) := by decide +kernel
theorem dX3_runCurrent_5 : decode cX3_runCurrent 5 = .ok (.iload_n 1, 1) := by decide +kernel
theorem dX3_runCurrent_6 : decode cX3_runCurrent 6 = .ok (.i2f, 1) := by decide +kernel
theorem dX3_runCurrent_7 : decode cX3_runCurrent 7 = .ok (.ldc 140, 2) := by decide +kernel
theorem dX3_runCurrent_9 : decode cX3_runCurrent 9 = .ok (.fmul, 1) := by decide +kernel
theorem dX3_runCurrent_10 : decode cX3_runCurrent 10 = .ok (.aload_n 0, 1) := by decide +kernel
theorem dX3_runCurrent_11 : decode cX3_runCurrent 11 = .ok (.getfield 65, 3) := by decide +kernel
theorem dX3_runCurrent_14 : decode cX3_runCurrent 14 = .ok (.fsub, 1) := by decide +kernel
theorem dX3_runCurrent_15 : decode cX3_runCurrent 15 = .ok (.ldc 141, 2) := by decide +kernel
theorem dX3_runCurrent_17 : decode cX3_runCurrent 17 = .ok (.fmul, 1) := by decide +kernel
theorem dX3_runCurrent_18 : decode cX3_runCurrent 18 = .ok (.fadd, 1) := by decide +kernel
theorem dX3_runCurrent_19 : decode cX3_runCurrent 19 = .ok (.putfield 65, 3) := by decide +kernel
theorem dX3_runCurrent_22 : decode cX3_runCurrent 22 = .ok (.aload_n 0, 1) := by decide +kernel
theorem dX3_runCurrent_23 : decode cX3_runCurrent 23 = .ok (.aload_n 0, 1) := by decide +kernel
theorem dX3_runCurrent_24 : decode cX3_runCurrent 24 = .ok (.getfield 65, 3) := by decide +kernel
theorem dX3_runCurrent_27 : decode cX3_runCurrent 27 = .ok (.aload_n 0, 1) := by decide +kernel
theorem dX3_runCurrent_28 : decode cX3_runCurrent 28 = .ok (.getfield 69, 3) := by decide +kernel
theorem dX3_runCurrent_31 : decode cX3_runCurrent 31 = .ok (.fcmp .l, 1) := by decide +kernel
theorem dX3_runCurrent_32 : decode cX3_runCurrent 32 = .ok (.ifCond .le 10, 3) := by decide +kernel
theorem dX3_runCurrent_35 : decode cX3_runCurrent 35 = .ok (.aload_n 0, 1) := by decide +kernel
theorem dX3_runCurrent_36 : decode cX3_runCurrent 36 = .ok (.getfield 65, 3) := by decide +kernel
theorem dX3_runCurrent_39 : decode cX3_runCurrent 39 = .ok (.goto 7, 3) := by decide +kernel
theorem dX3_runCurrent_42 : decode cX3_runCurrent 42 = .ok (.aload_n 0, 1) := by decide +kernel
theorem dX3_runCurrent_43 : decode cX3_runCurrent 43 = .ok (.getfield 69, 3) := by decide +kernel
theorem dX3_runCurrent_46 : decode cX3_runCurrent 46 = .ok (.putfield 69, 3) := by decide +kernel
theorem dX3_runCurrent_49 : decode cX3_runCurrent 49 = .ok (.aload_n 0, 1) := by decide +kernel
theorem dX3_runCurrent_50 : decode cX3_runCurrent 50 = .ok (.aload_n 0, 1) := by decide +kernel
theorem dX3_runCurrent_51 : decode cX3_runCurrent 51 = .ok (.getfield 72, 3) := by decide +kernel
theorem dX3_runCurrent_54 : decode cX3_runCurrent 54 = .ok (.aload_n 0, 1) := by decide +kernel
theorem dX3_runCurrent_55 : decode cX3_runCurrent 55 = .ok (.getfield 65, 3) := by decide +kernel
theorem dX3_runCurrent_58 : decode cX3_runCurrent 58 = .ok (.ldc 142, 2) := by decide +kernel
theorem dX3_runCurrent_60 : decode cX3_runCurrent 60 = .ok (.fmul, 1) := by decide +kernel
theorem dX3_runCurrent_61 : decode cX3_runCurrent 61 = .ok (.fadd, 1) := by decide +kernel
theorem dX3_runCurrent_62 : decode cX3_runCurrent 62 = .ok (.putfield 72, 3) := by decide +kernel
theorem dX3_runCurrent_65 : decode cX3_runCurrent 65 = .ok (.return_, 1) := by decide +kernel
theorem dX4_init_0 : decode cX4_init 0 = .ok (.aload_n 0, 1) := by decide +kernel
theorem dX4_init_1 : decode cX4_init 1 = .ok (.invokespecial 3, 3) := by decide +kernel
theorem dX4_init_4 : decode cX4_init 4 = .ok (.aload_n 0, 1) := by decide +kernel
theorem dX4_init_5 : decode cX4_init 5 = .ok (.bipush 30, 2) := by decide +kernel
theorem dX4_init_7 : decode cX4_init 7 = .ok (.newarray .char, 2) := by decide +kernel
theorem dX4_init_9 : decode cX4_init 9 = .ok (.putfield 9, 3) := by decide +kernel
theorem dX4_init_12 : decode cX4_init 12 = .ok (.aload_n 0, 1) := by decide +kernel
theorem dX4_init_13 : decode cX4_init 13 = .ok (.bipush 8, 2) := by decide +kernel
theorem dX4_init_15 : decode cX4_init 15 = .ok (.newarray .int, 2) := by decide +kernel
theorem dX4_init_17 : decode cX4_init 17 = .ok (.putfield 15, 3) := by decide +kernel
theorem dX4_init_20 : decode cX4_init 20 = .ok (.return_, 1) := by decide +kernel
theorem dX4_isFull_0 : decode cX4_isFull 0 = .ok (.aload_n 0, 1) := by decide +kernel
theorem dX4_isFull_1 : decode cX4_isFull 1 = .ok (.getfield 19, 3) := by decide +kernel
theorem dX4_isFull_4 : decode cX4_isFull 4 = .ok (.bipush 30, 2) := by decide +kernel
theorem dX4_isFull_6 : decode cX4_isFull 6 = .ok (.if_icmp .lt 7, 3) := by decide +kernel
theorem dX4_isFull_9 : decode cX4_isFull 9 = .ok (.iconst 1, 1) := by decide +kernel
theorem dX4_isFull_10 : decode cX4_isFull 10 = .ok (.goto 4, 3) := by decide +kernel
theorem dX4_isFull_13 : decode cX4_isFull 13 = .ok (.iconst 0, 1) := by decide +kernel
theorem dX4_isFull_14 : decode cX4_isFull 14 = .ok (.ireturn, 1) := by decide +kernel
theorem dX4_append_0 : decode cX4_append 0 = .ok (.aload_n 0, 1) := by decide +kernel
theorem dX4_append_1 : decode cX4_append 1 = .ok (.getfield 9, 3) := by decide +kernel
theorem dX4_append_4 : decode cX4_append 4 = .ok (.aload_n 0, 1) := by decide +kernel
theorem dX4_append_5 : decode cX4_append 5 = .ok (.getfield 19, 3) := by decide +kernel
theorem dX4_append_8 : decode cX4_append 8 = .ok (.iload_n 1, 1) := by decide +kernel
theorem dX4_append_9 : decode cX4_append 9 = .ok (.castore, 1) := by decide +kernel
theorem dX4_append_10 : decode cX4_append 10 = .ok (.aload_n 0, 1) := by decide +kernel
theorem dX4_append_11 : decode cX4_append 11 = .ok (.dup, 1) := by decide +kernel
theorem dX4_append_12 : decode cX4_append 12 = .ok (.getfield 19, 3) := by decide +kernel
theorem dX4_append_15 : decode cX4_append 15 = .ok (.iconst 1, 1) := by decide +kernel
theorem dX4_append_16 : decode cX4_append 16 = .ok (.iadd, 1) := by decide +kernel
theorem dX4_append_17 : decode cX4_append 17 = .ok (.putfield 19, 3) := by decide +kernel
theorem dX4_append_20 : decode cX4_append 20 = .ok (.return_, 1) := by decide +kernel
set_option maxRecDepth 20000 in
theorem ggX4_layOut_X5_patternOf : GoodIn wsX4_layOut wsX5_patternOf := goodIn_r _ [7, 8, 9] (by decide +kernel) (by decide +kernel)
set_option maxRecDepth 20000 in
theorem gX4_layOut_X5_patternOf_n26 : GoodIn wsX4_layOut (wsX5_patternOf) := ggX4_layOut_X5_patternOf
theorem dX4_layOut_0 : decode cX4_layOut 0 = .ok (.iconst 0, 1) := by decide +kernel
theorem dX4_layOut_1 : decode cX4_layOut 1 = .ok (.istore_n 2, 1) := by decide +kernel
theorem dX4_layOut_2 : decode cX4_layOut 2 = .ok (.iload_n 2, 1) := by decide +kernel
theorem dX4_layOut_3 : decode cX4_layOut 3 = .ok (.aload_n 0, 1) := by decide +kernel
theorem dX4_layOut_4 : decode cX4_layOut 4 = .ok (.getfield 15, 3) := by decide +kernel
theorem dX4_layOut_7 : decode cX4_layOut 7 = .ok (.arraylength, 1) := by decide +kernel
theorem dX4_layOut_8 : decode cX4_layOut 8 = .ok (.if_icmp .ge 16, 3) := by decide +kernel
theorem dX4_layOut_11 : decode cX4_layOut 11 = .ok (.aload_n 0, 1) := by decide +kernel
theorem dX4_layOut_12 : decode cX4_layOut 12 = .ok (.getfield 15, 3) := by decide +kernel
theorem dX4_layOut_15 : decode cX4_layOut 15 = .ok (.iload_n 2, 1) := by decide +kernel
theorem dX4_layOut_16 : decode cX4_layOut 16 = .ok (.iconst 0, 1) := by decide +kernel
theorem dX4_layOut_17 : decode cX4_layOut 17 = .ok (.iastore, 1) := by decide +kernel
theorem dX4_layOut_18 : decode cX4_layOut 18 = .ok (.iinc 2 1, 3) := by decide +kernel
theorem dX4_layOut_21 : decode cX4_layOut 21 = .ok (.goto (-19), 3) := by decide +kernel
theorem dX4_layOut_24 : decode cX4_layOut 24 = .ok (.aload_n 0, 1) := by decide +kernel
theorem dX4_layOut_25 : decode cX4_layOut 25 = .ok (.iconst 0, 1) := by decide +kernel
theorem dX4_layOut_26 : decode cX4_layOut 26 = .ok (.putfield 23, 3) := by decide +kernel
theorem dX4_layOut_29 : decode cX4_layOut 29 = .ok (.iconst 0, 1) := by decide +kernel
theorem dX4_layOut_30 : decode cX4_layOut 30 = .ok (.istore_n 2, 1) := by decide +kernel
theorem dX4_layOut_31 : decode cX4_layOut 31 = .ok (.iconst 0, 1) := by decide +kernel
theorem dX4_layOut_32 : decode cX4_layOut 32 = .ok (.istore_n 3, 1) := by decide +kernel
theorem dX4_layOut_33 : decode cX4_layOut 33 = .ok (.iload_n 3, 1) := by decide +kernel
theorem dX4_layOut_34 : decode cX4_layOut 34 = .ok (.aload_n 0, 1) := by decide +kernel
theorem dX4_layOut_35 : decode cX4_layOut 35 = .ok (.getfield 19, 3) := by decide +kernel
theorem dX4_layOut_38 : decode cX4_layOut 38 = .ok (.if_icmp .ge 127, 3) := by decide +kernel
theorem dX4_layOut_41 : decode cX4_layOut 41 = .ok (.aload_n 0, 1) := by decide +kernel
theorem dX4_layOut_42 : decode cX4_layOut 42 = .ok (.getfield 9, 3) := by decide +kernel
theorem dX4_layOut_45 : decode cX4_layOut 45 = .ok (.iload_n 3, 1) := by decide +kernel
theorem dX4_layOut_46 : decode cX4_layOut 46 = .ok (.caload, 1) := by decide +kernel
theorem dX4_layOut_47 : decode cX4_layOut 47 = .ok (.bipush 46, 2) := by decide +kernel
theorem dX4_layOut_49 : decode cX4_layOut 49 = .ok (.if_icmp .ne 7, 3) := by decide +kernel
theorem dX4_layOut_52 : decode cX4_layOut 52 = .ok (.iconst 1, 1) := by decide +kernel
theorem dX4_layOut_53 : decode cX4_layOut 53 = .ok (.goto 4, 3) := by decide +kernel
theorem dX4_layOut_56 : decode cX4_layOut 56 = .ok (.iconst 0, 1) := by decide +kernel
theorem dX4_layOut_57 : decode cX4_layOut 57 = .ok (.istore 4, 2) := by decide +kernel
theorem dX4_layOut_59 : decode cX4_layOut 59 = .ok (.iload 4, 2) := by decide +kernel
theorem dX4_layOut_61 : decode cX4_layOut 61 = .ok (.ifCond .eq 27, 3) := by decide +kernel
theorem dX4_layOut_64 : decode cX4_layOut 64 = .ok (.iload_n 2, 1) := by decide +kernel
theorem dX4_layOut_65 : decode cX4_layOut 65 = .ok (.ifCond .eq 23, 3) := by decide +kernel
theorem dX4_layOut_68 : decode cX4_layOut 68 = .ok (.aload_n 0, 1) := by decide +kernel
theorem dX4_layOut_69 : decode cX4_layOut 69 = .ok (.getfield 15, 3) := by decide +kernel
theorem dX4_layOut_72 : decode cX4_layOut 72 = .ok (.aload_n 0, 1) := by decide +kernel
theorem dX4_layOut_73 : decode cX4_layOut 73 = .ok (.getfield 23, 3) := by decide +kernel
theorem dX4_layOut_76 : decode cX4_layOut 76 = .ok (.iconst 1, 1) := by decide +kernel
theorem dX4_layOut_77 : decode cX4_layOut 77 = .ok (.isub, 1) := by decide +kernel
theorem dX4_layOut_78 : decode cX4_layOut 78 = .ok (.dup2, 1) := by decide +kernel
theorem dX4_layOut_79 : decode cX4_layOut 79 = .ok (.iaload, 1) := by decide +kernel
theorem dX4_layOut_80 : decode cX4_layOut 80 = .ok (.sipush 128, 3) := by decide +kernel
theorem dX4_layOut_83 : decode cX4_layOut 83 = .ok (.ior, 1) := by decide +kernel
theorem dX4_layOut_84 : decode cX4_layOut 84 = .ok (.iastore, 1) := by decide +kernel
theorem dX4_layOut_85 : decode cX4_layOut 85 = .ok (.goto 63, 3) := by decide +kernel
theorem dX4_layOut_88 : decode cX4_layOut 88 = .ok (.iload 4, 2) := by decide +kernel
theorem dX4_layOut_90 : decode cX4_layOut 90 = .ok (.ifCond .eq 9, 3) := by decide +kernel
theorem dX4_layOut_93 : decode cX4_layOut 93 = .ok (.sipush 128, 3) := by decide +kernel
theorem dX4_layOut_96 : decode cX4_layOut 96 = .ok (.goto 12, 3) := by decide +kernel
theorem dX4_layOut_99 : decode cX4_layOut 99 = .ok (.aload_n 0, 1) := by decide +kernel
theorem dX4_layOut_100 : decode cX4_layOut 100 = .ok (.getfield 9, 3) := by decide +kernel
theorem dX4_layOut_103 : decode cX4_layOut 103 = .ok (.iload_n 3, 1) := by decide +kernel
theorem dX4_layOut_104 : decode cX4_layOut 104 = .ok (.caload, 1) := by decide +kernel
theorem dX4_layOut_105 : decode cX4_layOut 105 = .ok (.invokestatic 26, 3) := by decide +kernel
theorem dX4_layOut_108 : decode cX4_layOut 108 = .ok (.istore 5, 2) := by decide +kernel
theorem dX4_layOut_110 : decode cX4_layOut 110 = .ok (.iload 5, 2) := by decide +kernel
theorem dX4_layOut_112 : decode cX4_layOut 112 = .ok (.bipush (-4), 2) := by decide +kernel
theorem dX4_layOut_114 : decode cX4_layOut 114 = .ok (.if_icmp .eq 11, 3) := by decide +kernel
theorem dX4_layOut_117 : decode cX4_layOut 117 = .ok (.aload_n 0, 1) := by decide +kernel
theorem dX4_layOut_118 : decode cX4_layOut 118 = .ok (.getfield 23, 3) := by decide +kernel
theorem dX4_layOut_121 : decode cX4_layOut 121 = .ok (.iload_n 1, 1) := by decide +kernel
theorem dX4_layOut_122 : decode cX4_layOut 122 = .ok (.if_icmp .lt 5, 3) := by decide +kernel
theorem dX4_layOut_125 : decode cX4_layOut 125 = .ok (.iload_n 3, 1) := by decide +kernel
theorem dX4_layOut_126 : decode cX4_layOut 126 = .ok (.ireturn, 1) := by decide +kernel
theorem dX4_layOut_127 : decode cX4_layOut 127 = .ok (.aload_n 0, 1) := by decide +kernel
theorem dX4_layOut_128 : decode cX4_layOut 128 = .ok (.getfield 15, 3) := by decide +kernel
theorem dX4_layOut_131 : decode cX4_layOut 131 = .ok (.aload_n 0, 1) := by decide +kernel
theorem dX4_layOut_132 : decode cX4_layOut 132 = .ok (.getfield 23, 3) := by decide +kernel
theorem dX4_layOut_135 : decode cX4_layOut 135 = .ok (.iload 5, 2) := by decide +kernel
theorem dX4_layOut_137 : decode cX4_layOut 137 = .ok (.iastore, 1) := by decide +kernel
theorem dX4_layOut_138 : decode cX4_layOut 138 = .ok (.aload_n 0, 1) := by decide +kernel
theorem dX4_layOut_139 : decode cX4_layOut 139 = .ok (.dup, 1) := by decide +kernel
theorem dX4_layOut_140 : decode cX4_layOut 140 = .ok (.getfield 23, 3) := by decide +kernel
theorem dX4_layOut_143 : decode cX4_layOut 143 = .ok (.iconst 1, 1) := by decide +kernel
theorem dX4_layOut_144 : decode cX4_layOut 144 = .ok (.iadd, 1) := by decide +kernel
theorem dX4_layOut_145 : decode cX4_layOut 145 = .ok (.putfield 23, 3) := by decide +kernel
theorem dX4_layOut_148 : decode cX4_layOut 148 = .ok (.iload 4, 2) := by decide +kernel
theorem dX4_layOut_150 : decode cX4_layOut 150 = .ok (.ifCond .ne 7, 3) := by decide +kernel
theorem dX4_layOut_153 : decode cX4_layOut 153 = .ok (.iconst 1, 1) := by decide +kernel
theorem dX4_layOut_154 : decode cX4_layOut 154 = .ok (.goto 4, 3) := by decide +kernel
theorem dX4_layOut_157 : decode cX4_layOut 157 = .ok (.iconst 0, 1) := by decide +kernel
theorem dX4_layOut_158 : decode cX4_layOut 158 = .ok (.istore_n 2, 1) := by decide +kernel
theorem dX4_layOut_159 : decode cX4_layOut 159 = .ok (.iinc 3 1, 3) := by decide +kernel
theorem dX4_layOut_162 : decode cX4_layOut 162 = .ok (.goto (-129), 3) := by decide +kernel
theorem dX4_layOut_165 : decode cX4_layOut 165 = .ok (.bipush (-4), 2) := by decide +kernel
theorem dX4_layOut_167 : decode cX4_layOut 167 = .ok (.ireturn, 1) := by decide +kernel
set_option maxRecDepth 20000 in
theorem ggX5_init_X3_init : GoodIn wsX5_init wsX3_init := goodIn_r _ [23, 24, 2, 3, 25, 26, 27, 28, 29, 30, 31, 32, 33, 34, 35, 36, 37, 38, 39, 40, 41, 42, 43, 44, 45, 46, 47, 48, 49, 50, 51, 52, 53, 54, 55, 56, 57, 58, 59, 60, 80, 81, 82, 83, 84, 85, 86, 87, 88, 89, 90, 91, 92, 107, 108, 109, 110, 111, 112, 113, 114, 115] (by decide +kernel) (by decide +kernel)
set_option maxRecDepth 20000 in
theorem gX5_init_X3_init : GoodIn wsX5_init (wsX3_init) := ggX5_init_X3_init
set_option maxRecDepth 20000 in
theorem ggX5_init_X1_init : GoodIn wsX5_init wsX1_init := goodIn_r _ [63, 64, 2, 3, 65, 66, 5, 6, 67, 22, 23, 24, 25, 26, 27, 28, 29, 30, 31, 32, 33, 34, 35, 36, 37, 38, 39, 40, 41, 42, 43, 44, 45, 46, 47, 48, 49, 50, 51, 52, 53, 54, 55, 56, 57, 58, 59, 60, 98, 99, 100, 80, 81, 82, 83, 84, 85, 86, 87, 88, 89, 90, 91, 92, 107, 108, 109, 110, 111, 112, 113, 114, 115] (by decide +kernel) (by decide +kernel)
set_option maxRecDepth 20000 in
theorem gX5_init_X1_init : GoodIn wsX5_init (wsX1_init) := ggX5_init_X1_init
set_option maxRecDepth 20000 in
theorem ggX5_init_X4_init : GoodIn wsX5_init wsX4_init := goodIn_r _ [69, 70, 2, 3, 71, 72, 28, 73, 101, 102, 103, 104] (by decide +kernel) (by decide +kernel)
set_option maxRecDepth 20000 in
theorem gX5_init_X4_init_n34 : GoodIn wsX5_init (wsX4_init) := ggX5_init_X4_init
set_option maxRecDepth 20000 in
theorem ggX5_init_X2_init : GoodIn wsX5_init wsX2_init := goodIn_r _ [75, 76, 2, 3, 77, 5, 6, 78, 79, 22, 23, 24, 25, 26, 27, 28, 29, 30, 31, 32, 33, 34, 35, 36, 37, 38, 39, 40, 41, 42, 43, 44, 45, 46, 47, 48, 49, 50, 51, 52, 53, 54, 55, 56, 57, 58, 59, 60, 80, 81, 82, 83, 84, 85, 86, 87, 88, 89, 90, 91, 92, 105, 106, 107, 108, 109, 110, 111, 112, 113, 114, 115] (by decide +kernel) (by decide +kernel)
set_option maxRecDepth 20000 in
theorem gX5_init_X2_init_n39 : GoodIn wsX5_init (wsX2_init) := ggX5_init_X2_init
theorem dX5_init_0 : decode cX5_init 0 = .ok (.aload_n 0, 1) := by decide +kernel
theorem dX5_init_1 : decode cX5_init 1 = .ok (.invokespecial 1, 3) := by decide +kernel
theorem dX5_init_4 : decode cX5_init 4 = .ok (.aload_n 0, 1) := by decide +kernel
theorem dX5_init_5 : decode cX5_init 5 = .ok (.new 7, 3) := by decide +kernel
theorem dX5_init_8 : decode cX5_init 8 = .ok (.dup, 1) := by decide +kernel
theorem dX5_init_9 : decode cX5_init 9 = .ok (.invokespecial 9, 3) := by decide +kernel
theorem dX5_init_12 : decode cX5_init 12 = .ok (.putfield 10, 3) := by decide +kernel
theorem dX5_init_15 : decode cX5_init 15 = .ok (.aload_n 0, 1) := by decide +kernel
theorem dX5_init_16 : decode cX5_init 16 = .ok (.new 7, 3) := by decide +kernel
theorem dX5_init_19 : decode cX5_init 19 = .ok (.dup, 1) := by decide +kernel
theorem dX5_init_20 : decode cX5_init 20 = .ok (.invokespecial 9, 3) := by decide +kernel
theorem dX5_init_23 : decode cX5_init 23 = .ok (.putfield 16, 3) := by decide +kernel
theorem dX5_init_26 : decode cX5_init 26 = .ok (.aload_n 0, 1) := by decide +kernel
theorem dX5_init_27 : decode cX5_init 27 = .ok (.new 19, 3) := by decide +kernel
theorem dX5_init_30 : decode cX5_init 30 = .ok (.dup, 1) := by decide +kernel
theorem dX5_init_31 : decode cX5_init 31 = .ok (.invokespecial 21, 3) := by decide +kernel
theorem dX5_init_34 : decode cX5_init 34 = .ok (.putfield 22, 3) := by decide +kernel
theorem dX5_init_37 : decode cX5_init 37 = .ok (.aload_n 0, 1) := by decide +kernel
theorem dX5_init_38 : decode cX5_init 38 = .ok (.iconst 2, 1) := by decide +kernel
theorem dX5_init_39 : decode cX5_init 39 = .ok (.anewarray 26, 3) := by decide +kernel
theorem dX5_init_42 : decode cX5_init 42 = .ok (.putfield 28, 3) := by decide +kernel
theorem dX5_init_45 : decode cX5_init 45 = .ok (.aload_n 0, 1) := by decide +kernel
theorem dX5_init_46 : decode cX5_init 46 = .ok (.new 32, 3) := by decide +kernel
theorem dX5_init_49 : decode cX5_init 49 = .ok (.dup, 1) := by decide +kernel
theorem dX5_init_50 : decode cX5_init 50 = .ok (.invokespecial 34, 3) := by decide +kernel
theorem dX5_init_53 : decode cX5_init 53 = .ok (.putfield 35, 3) := by decide +kernel
theorem dX5_init_56 : decode cX5_init 56 = .ok (.iconst 0, 1) := by decide +kernel
theorem dX5_init_57 : decode cX5_init 57 = .ok (.istore_n 1, 1) := by decide +kernel
theorem dX5_init_58 : decode cX5_init 58 = .ok (.iload_n 1, 1) := by decide +kernel
theorem dX5_init_59 : decode cX5_init 59 = .ok (.aload_n 0, 1) := by decide +kernel
theorem dX5_init_60 : decode cX5_init 60 = .ok (.getfield 28, 3) := by decide +kernel
theorem dX5_init_63 : decode cX5_init 63 = .ok (.arraylength, 1) := by decide +kernel
theorem dX5_init_64 : decode cX5_init 64 = .ok (.if_icmp .ge 22, 3) := by decide +kernel
theorem dX5_init_67 : decode cX5_init 67 = .ok (.aload_n 0, 1) := by decide +kernel
theorem dX5_init_68 : decode cX5_init 68 = .ok (.getfield 28, 3) := by decide +kernel
theorem dX5_init_71 : decode cX5_init 71 = .ok (.iload_n 1, 1) := by decide +kernel
theorem dX5_init_72 : decode cX5_init 72 = .ok (.new 26, 3) := by decide +kernel
theorem dX5_init_75 : decode cX5_init 75 = .ok (.dup, 1) := by decide +kernel
theorem dX5_init_76 : decode cX5_init 76 = .ok (.invokespecial 39, 3) := by decide +kernel
theorem dX5_init_79 : decode cX5_init 79 = .ok (.aastore, 1) := by decide +kernel
theorem dX5_init_80 : decode cX5_init 80 = .ok (.iinc 1 1, 3) := by decide +kernel
theorem dX5_init_83 : decode cX5_init 83 = .ok (.goto (-25), 3) := by decide +kernel
theorem dX5_init_86 : decode cX5_init 86 = .ok (.return_, 1) := by decide +kernel
set_option maxRecDepth 20000 in
theorem ggX5_setDigits_X5_isWithin : GoodIn wsX5_setDigits wsX5_isWithin := goodIn_r _ [7] (by decide +kernel) (by decide +kernel)
set_option maxRecDepth 20000 in
theorem gX5_setDigits_X5_isWithin : GoodIn wsX5_setDigits (va_wsS RX5 40 yX5_isWithin wsX5_isWithin) := goodIn_app (goodIn_of _ (by decide +kernel)) ggX5_setDigits_X5_isWithin
set_option maxRecDepth 20000 in
theorem ggX5_setDigits_X1_record : GoodIn wsX5_setDigits wsX1_record := goodIn_r _ [12, 13, 14, 15, 16, 17, 18, 19, 20, 21, 22, 23, 24, 25, 26, 27, 28, 29, 30, 31, 32, 33, 34, 35, 36, 37, 38, 39, 40, 41, 42, 43, 44, 45, 46, 47, 48, 49, 50, 51, 52, 53, 54, 55, 56, 91, 92, 93, 78, 79, 80, 81, 82, 83, 84, 85, 86, 87, 88, 89, 90, 94, 95, 96, 97, 98, 99, 100, 101, 102] (by decide +kernel) (by decide +kernel)
set_option maxRecDepth 20000 in
theorem gX5_setDigits_X1_record : GoodIn wsX5_setDigits (wsV RX5 44 RX1 yX1_record wsX1_record) := goodIn_app (goodIn_of _ (by decide +kernel)) ggX5_setDigits_X1_record
set_option maxRecDepth 20000 in
theorem ggX5_setDigits_X3_changeDigitCount : GoodIn wsX5_setDigits wsX3_changeDigitCount := goodIn_r _ [60, 26, 25, 61, 62, 63, 45, 64, 47, 48, 49, 50, 51, 52, 65, 66, 67, 68, 53, 54, 56, 69, 70, 71, 23, 72, 35, 36, 37, 78, 79, 80, 81, 82, 83, 84, 85, 86, 87, 88, 89, 90, 94, 95, 96, 97, 98, 99, 100, 101, 102] (by decide +kernel) (by decide +kernel)
set_option maxRecDepth 20000 in
theorem gX5_setDigits_X3_changeDigitCount : GoodIn wsX5_setDigits (wsV RX5 52 RX3 yX3_changeDigitCount wsX3_changeDigitCount) := goodIn_app (goodIn_of _ (by decide +kernel)) ggX5_setDigits_X3_changeDigitCount
theorem dX5_setDigits_0 : decode cX5_setDigits 0 = .ok (.iload_n 1, 1) := by decide +kernel
theorem dX5_setDigits_1 : decode cX5_setDigits 1 = .ok (.iconst 1, 1) := by decide +kernel
theorem dX5_setDigits_2 : decode cX5_setDigits 2 = .ok (.bipush 8, 2) := by decide +kernel
theorem dX5_setDigits_4 : decode cX5_setDigits 4 = .ok (.invokestatic 40, 3) := by decide +kernel
theorem dX5_setDigits_7 : decode cX5_setDigits 7 = .ok (.ifCond .ne 6, 3) := by decide +kernel
theorem dX5_setDigits_10 : decode cX5_setDigits 10 = .ok (.bipush (-2), 2) := by decide +kernel
theorem dX5_setDigits_12 : decode cX5_setDigits 12 = .ok (.ireturn, 1) := by decide +kernel
theorem dX5_setDigits_13 : decode cX5_setDigits 13 = .ok (.aload_n 0, 1) := by decide +kernel
theorem dX5_setDigits_14 : decode cX5_setDigits 14 = .ok (.getfield 22, 3) := by decide +kernel
theorem dX5_setDigits_17 : decode cX5_setDigits 17 = .ok (.aload_n 0, 1) := by decide +kernel
theorem dX5_setDigits_18 : decode cX5_setDigits 18 = .ok (.getfield 10, 3) := by decide +kernel
theorem dX5_setDigits_21 : decode cX5_setDigits 21 = .ok (.invokevirtual 44, 3) := by decide +kernel
theorem dX5_setDigits_24 : decode cX5_setDigits 24 = .ok (.aload_n 0, 1) := by decide +kernel
theorem dX5_setDigits_25 : decode cX5_setDigits 25 = .ok (.getfield 10, 3) := by decide +kernel
theorem dX5_setDigits_28 : decode cX5_setDigits 28 = .ok (.getfield 48, 3) := by decide +kernel
theorem dX5_setDigits_31 : decode cX5_setDigits 31 = .ok (.istore_n 2, 1) := by decide +kernel
theorem dX5_setDigits_32 : decode cX5_setDigits 32 = .ok (.aload_n 0, 1) := by decide +kernel
theorem dX5_setDigits_33 : decode cX5_setDigits 33 = .ok (.getfield 10, 3) := by decide +kernel
theorem dX5_setDigits_36 : decode cX5_setDigits 36 = .ok (.iload_n 1, 1) := by decide +kernel
theorem dX5_setDigits_37 : decode cX5_setDigits 37 = .ok (.invokevirtual 52, 3) := by decide +kernel
theorem dX5_setDigits_40 : decode cX5_setDigits 40 = .ok (.iload_n 2, 1) := by decide +kernel
theorem dX5_setDigits_41 : decode cX5_setDigits 41 = .ok (.ireturn, 1) := by decide +kernel
set_option maxRecDepth 20000 in
theorem ggX5_setWidth_X3_find : GoodIn wsX5_setWidth wsX3_find := goodIn_r _ [7, 8, 9, 10, 11, 12, 82, 83, 84, 85, 86, 87, 88, 89, 90, 91, 92, 93, 94] (by decide +kernel) (by decide +kernel)
set_option maxRecDepth 20000 in
theorem gX5_setWidth_X3_find : GoodIn wsX5_setWidth (wsV RX5 56 RX3 yX3_find wsX3_find) := goodIn_app (goodIn_of _ (by decide +kernel)) ggX5_setWidth_X3_find
set_option maxRecDepth 20000 in
theorem ggX5_setWidth_X5_isWithin : GoodIn wsX5_setWidth wsX5_isWithin := goodIn_r _ [12] (by decide +kernel) (by decide +kernel)
set_option maxRecDepth 20000 in
theorem gX5_setWidth_X5_isWithin : GoodIn wsX5_setWidth (va_wsS RX5 40 yX5_isWithin wsX5_isWithin) := goodIn_app (goodIn_of _ (by decide +kernel)) ggX5_setWidth_X5_isWithin
set_option maxRecDepth 20000 in
theorem ggX5_setWidth_X1_record : GoodIn wsX5_setWidth wsX1_record := goodIn_r _ [18, 19, 20, 21, 22, 23, 24, 25, 26, 27, 28, 6, 29, 9, 8, 30, 31, 32, 33, 34, 35, 36, 37, 38, 39, 40, 41, 42, 43, 44, 45, 46, 47, 48, 49, 50, 51, 52, 53, 54, 55, 56, 57, 58, 59, 95, 96, 97, 82, 83, 84, 85, 86, 87, 88, 89, 90, 91, 92, 93, 94, 98, 99, 100, 101, 102, 103, 104, 105, 106] (by decide +kernel) (by decide +kernel)
set_option maxRecDepth 20000 in
theorem gX5_setWidth_X1_record : GoodIn wsX5_setWidth (wsV RX5 44 RX1 yX1_record wsX1_record) := goodIn_app (goodIn_of _ (by decide +kernel)) ggX5_setWidth_X1_record
set_option maxRecDepth 20000 in
theorem ggX5_setWidth_X3_changeWidth : GoodIn wsX5_setWidth wsX3_changeWidth := goodIn_r _ [63, 64, 65, 66, 67, 6, 68, 38, 39, 40, 98, 99, 100, 101, 102, 103, 104, 105, 106, 82, 83, 84, 85, 86, 87, 88, 89, 90, 91, 92, 93, 94] (by decide +kernel) (by decide +kernel)
set_option maxRecDepth 20000 in
theorem gX5_setWidth_X3_changeWidth : GoodIn wsX5_setWidth (wsV RX5 60 RX3 yX3_changeWidth wsX3_changeWidth) := goodIn_app (goodIn_of _ (by decide +kernel)) ggX5_setWidth_X3_changeWidth
set_option maxRecDepth 20000 in
theorem ggX5_setWidth_X3_frameLength : GoodIn wsX5_setWidth wsX3_frameLength := goodIn_r _ [72, 8, 73, 74, 75, 6, 76, 9, 64, 82, 83, 84, 85, 86, 87, 88, 89, 90, 91, 92, 93, 94, 98, 99, 100, 101, 102, 103, 104, 105, 106] (by decide +kernel) (by decide +kernel)
set_option maxRecDepth 20000 in
theorem gX5_setWidth_X3_frameLength : GoodIn wsX5_setWidth (wsV RX5 64 RX3 yX3_frameLength wsX3_frameLength) := goodIn_app (goodIn_of _ (by decide +kernel)) ggX5_setWidth_X3_frameLength
theorem dX5_setWidth_0 : decode cX5_setWidth 0 = .ok (.aload_n 0, 1) := by decide +kernel
theorem dX5_setWidth_1 : decode cX5_setWidth 1 = .ok (.getfield 10, 3) := by decide +kernel
theorem dX5_setWidth_4 : decode cX5_setWidth 4 = .ok (.iload_n 1, 1) := by decide +kernel
theorem dX5_setWidth_5 : decode cX5_setWidth 5 = .ok (.invokevirtual 56, 3) := by decide +kernel
theorem dX5_setWidth_8 : decode cX5_setWidth 8 = .ok (.astore_n 3, 1) := by decide +kernel
theorem dX5_setWidth_9 : decode cX5_setWidth 9 = .ok (.aload_n 3, 1) := by decide +kernel
theorem dX5_setWidth_10 : decode cX5_setWidth 10 = .ok (.ifnonnull 5, 3) := by decide +kernel
theorem dX5_setWidth_13 : decode cX5_setWidth 13 = .ok (.iconst (-1), 1) := by decide +kernel
theorem dX5_setWidth_14 : decode cX5_setWidth 14 = .ok (.ireturn, 1) := by decide +kernel
theorem dX5_setWidth_15 : decode cX5_setWidth 15 = .ok (.iload_n 2, 1) := by decide +kernel
theorem dX5_setWidth_16 : decode cX5_setWidth 16 = .ok (.iconst 4, 1) := by decide +kernel
theorem dX5_setWidth_17 : decode cX5_setWidth 17 = .ok (.bipush 40, 2) := by decide +kernel
theorem dX5_setWidth_19 : decode cX5_setWidth 19 = .ok (.invokestatic 40, 3) := by decide +kernel
theorem dX5_setWidth_22 : decode cX5_setWidth 22 = .ok (.ifCond .ne 6, 3) := by decide +kernel
theorem dX5_setWidth_25 : decode cX5_setWidth 25 = .ok (.bipush (-2), 2) := by decide +kernel
theorem dX5_setWidth_27 : decode cX5_setWidth 27 = .ok (.ireturn, 1) := by decide +kernel
theorem dX5_setWidth_28 : decode cX5_setWidth 28 = .ok (.aload_n 0, 1) := by decide +kernel
theorem dX5_setWidth_29 : decode cX5_setWidth 29 = .ok (.getfield 22, 3) := by decide +kernel
theorem dX5_setWidth_32 : decode cX5_setWidth 32 = .ok (.aload_n 0, 1) := by decide +kernel
theorem dX5_setWidth_33 : decode cX5_setWidth 33 = .ok (.getfield 10, 3) := by decide +kernel
theorem dX5_setWidth_36 : decode cX5_setWidth 36 = .ok (.invokevirtual 44, 3) := by decide +kernel
theorem dX5_setWidth_39 : decode cX5_setWidth 39 = .ok (.aload_n 0, 1) := by decide +kernel
theorem dX5_setWidth_40 : decode cX5_setWidth 40 = .ok (.getfield 10, 3) := by decide +kernel
theorem dX5_setWidth_43 : decode cX5_setWidth 43 = .ok (.aload_n 3, 1) := by decide +kernel
theorem dX5_setWidth_44 : decode cX5_setWidth 44 = .ok (.iload_n 2, 1) := by decide +kernel
theorem dX5_setWidth_45 : decode cX5_setWidth 45 = .ok (.invokevirtual 60, 3) := by decide +kernel
theorem dX5_setWidth_48 : decode cX5_setWidth 48 = .ok (.aload_n 0, 1) := by decide +kernel
theorem dX5_setWidth_49 : decode cX5_setWidth 49 = .ok (.getfield 10, 3) := by decide +kernel
theorem dX5_setWidth_52 : decode cX5_setWidth 52 = .ok (.invokevirtual 64, 3) := by decide +kernel
theorem dX5_setWidth_55 : decode cX5_setWidth 55 = .ok (.ireturn, 1) := by decide +kernel
set_option maxRecDepth 20000 in
theorem ggX5_setGuard_X3_find : GoodIn wsX5_setGuard wsX3_find := goodIn_r _ [8, 9, 10, 11, 12, 13, 83, 84, 85, 86, 87, 88, 89, 90, 91, 92, 93, 94, 95] (by decide +kernel) (by decide +kernel)
set_option maxRecDepth 20000 in
theorem gX5_setGuard_X3_find : GoodIn wsX5_setGuard (wsV RX5 56 RX3 yX3_find wsX3_find) := goodIn_app (goodIn_of _ (by decide +kernel)) ggX5_setGuard_X3_find
set_option maxRecDepth 20000 in
theorem ggX5_setGuard_X5_isWithin : GoodIn wsX5_setGuard wsX5_isWithin := goodIn_r _ [13] (by decide +kernel) (by decide +kernel)
set_option maxRecDepth 20000 in
theorem gX5_setGuard_X5_isWithin : GoodIn wsX5_setGuard (va_wsS RX5 40 yX5_isWithin wsX5_isWithin) := goodIn_app (goodIn_of _ (by decide +kernel)) ggX5_setGuard_X5_isWithin
set_option maxRecDepth 20000 in
theorem ggX5_setGuard_X1_record : GoodIn wsX5_setGuard wsX1_record := goodIn_r _ [19, 20, 21, 22, 23, 24, 25, 26, 27, 28, 29, 7, 30, 10, 9, 31, 32, 33, 34, 35, 36, 37, 38, 39, 40, 41, 42, 43, 44, 45, 46, 47, 48, 49, 50, 51, 52, 53, 54, 55, 56, 57, 58, 59, 60, 96, 97, 98, 83, 84, 85, 86, 87, 88, 89, 90, 91, 92, 93, 94, 95, 74, 75, 76, 77, 78, 79, 80, 81, 82] (by decide +kernel) (by decide +kernel)
set_option maxRecDepth 20000 in
theorem gX5_setGuard_X1_record : GoodIn wsX5_setGuard (wsV RX5 44 RX1 yX1_record wsX1_record) := goodIn_app (goodIn_of _ (by decide +kernel)) ggX5_setGuard_X1_record
set_option maxRecDepth 20000 in
theorem ggX5_setGuard_X0_litPart : GoodIn wsX5_setGuard wsX0_litPart := goodIn_r _ [64, 53, 65, 66, 67, 49, 68, 51, 52, 74, 75, 76, 77, 78, 79, 80, 81, 82] (by decide +kernel) (by decide +kernel)
set_option maxRecDepth 20000 in
theorem gX5_setGuard_X0_litPart : GoodIn wsX5_setGuard (wsV RX5 73 RX0 yX0_litPart wsX0_litPart) := goodIn_app (goodIn_of _ (by decide +kernel)) ggX5_setGuard_X0_litPart
theorem dX5_setGuard_0 : decode cX5_setGuard 0 = .ok (.aload_n 0, 1) := by decide +kernel
theorem dX5_setGuard_1 : decode cX5_setGuard 1 = .ok (.getfield 10, 3) := by decide +kernel
theorem dX5_setGuard_4 : decode cX5_setGuard 4 = .ok (.iload_n 1, 1) := by decide +kernel
theorem dX5_setGuard_5 : decode cX5_setGuard 5 = .ok (.invokevirtual 56, 3) := by decide +kernel
theorem dX5_setGuard_8 : decode cX5_setGuard 8 = .ok (.astore_n 3, 1) := by decide +kernel
theorem dX5_setGuard_9 : decode cX5_setGuard 9 = .ok (.aload_n 3, 1) := by decide +kernel
theorem dX5_setGuard_10 : decode cX5_setGuard 10 = .ok (.ifnonnull 5, 3) := by decide +kernel
theorem dX5_setGuard_13 : decode cX5_setGuard 13 = .ok (.iconst (-1), 1) := by decide +kernel
theorem dX5_setGuard_14 : decode cX5_setGuard 14 = .ok (.ireturn, 1) := by decide +kernel
theorem dX5_setGuard_15 : decode cX5_setGuard 15 = .ok (.iload_n 2, 1) := by decide +kernel
theorem dX5_setGuard_16 : decode cX5_setGuard 16 = .ok (.iconst 0, 1) := by decide +kernel
theorem dX5_setGuard_17 : decode cX5_setGuard 17 = .ok (.iconst 3, 1) := by decide +kernel
theorem dX5_setGuard_18 : decode cX5_setGuard 18 = .ok (.invokestatic 40, 3) := by decide +kernel
theorem dX5_setGuard_21 : decode cX5_setGuard 21 = .ok (.ifCond .ne 6, 3) := by decide +kernel
theorem dX5_setGuard_24 : decode cX5_setGuard 24 = .ok (.bipush (-2), 2) := by decide +kernel
theorem dX5_setGuard_26 : decode cX5_setGuard 26 = .ok (.ireturn, 1) := by decide +kernel
theorem dX5_setGuard_27 : decode cX5_setGuard 27 = .ok (.aload_n 0, 1) := by decide +kernel
theorem dX5_setGuard_28 : decode cX5_setGuard 28 = .ok (.getfield 22, 3) := by decide +kernel
theorem dX5_setGuard_31 : decode cX5_setGuard 31 = .ok (.aload_n 0, 1) := by decide +kernel
theorem dX5_setGuard_32 : decode cX5_setGuard 32 = .ok (.getfield 10, 3) := by decide +kernel
theorem dX5_setGuard_35 : decode cX5_setGuard 35 = .ok (.invokevirtual 44, 3) := by decide +kernel
theorem dX5_setGuard_38 : decode cX5_setGuard 38 = .ok (.aload_n 3, 1) := by decide +kernel
theorem dX5_setGuard_39 : decode cX5_setGuard 39 = .ok (.iload_n 2, 1) := by decide +kernel
theorem dX5_setGuard_40 : decode cX5_setGuard 40 = .ok (.putfield 68, 3) := by decide +kernel
theorem dX5_setGuard_43 : decode cX5_setGuard 43 = .ok (.aload_n 3, 1) := by decide +kernel
theorem dX5_setGuard_44 : decode cX5_setGuard 44 = .ok (.invokevirtual 73, 3) := by decide +kernel
theorem dX5_setGuard_47 : decode cX5_setGuard 47 = .ok (.ireturn, 1) := by decide +kernel
set_option maxRecDepth 20000 in
theorem ggX5_setBrightness_X3_find : GoodIn wsX5_setBrightness wsX3_find := goodIn_r _ [8, 9, 10, 11, 12, 13, 83, 84, 85, 86, 87, 88, 89, 90, 91, 92, 93, 94, 95] (by decide +kernel) (by decide +kernel)
set_option maxRecDepth 20000 in
theorem gX5_setBrightness_X3_find : GoodIn wsX5_setBrightness (wsV RX5 56 RX3 yX3_find wsX3_find) := goodIn_app (goodIn_of _ (by decide +kernel)) ggX5_setBrightness_X3_find
set_option maxRecDepth 20000 in
theorem ggX5_setBrightness_X5_isWithin : GoodIn wsX5_setBrightness wsX5_isWithin := goodIn_r _ [13] (by decide +kernel) (by decide +kernel)
set_option maxRecDepth 20000 in
theorem gX5_setBrightness_X5_isWithin : GoodIn wsX5_setBrightness (va_wsS RX5 40 yX5_isWithin wsX5_isWithin) := goodIn_app (goodIn_of _ (by decide +kernel)) ggX5_setBrightness_X5_isWithin
set_option maxRecDepth 20000 in
theorem ggX5_setBrightness_X1_record : GoodIn wsX5_setBrightness wsX1_record := goodIn_r _ [19, 20, 21, 22, 23, 24, 25, 26, 27, 28, 29, 7, 30, 10, 9, 31, 32, 33, 34, 35, 36, 37, 38, 39, 40, 41, 42, 43, 44, 45, 46, 47, 48, 49, 50, 51, 52, 53, 54, 55, 56, 57, 58, 59, 60, 96, 97, 98, 83, 84, 85, 86, 87, 88, 89, 90, 91, 92, 93, 94, 95, 74, 75, 76, 77, 78, 79, 80, 81, 82] (by decide +kernel) (by decide +kernel)
set_option maxRecDepth 20000 in
theorem gX5_setBrightness_X1_record : GoodIn wsX5_setBrightness (wsV RX5 44 RX1 yX1_record wsX1_record) := goodIn_app (goodIn_of _ (by decide +kernel)) ggX5_setBrightness_X1_record
set_option maxRecDepth 20000 in
theorem ggX5_setBrightness_X0_litPart : GoodIn wsX5_setBrightness wsX0_litPart := goodIn_r _ [64, 53, 65, 66, 67, 49, 68, 51, 52, 74, 75, 76, 77, 78, 79, 80, 81, 82] (by decide +kernel) (by decide +kernel)
set_option maxRecDepth 20000 in
theorem gX5_setBrightness_X0_litPart : GoodIn wsX5_setBrightness (wsV RX5 73 RX0 yX0_litPart wsX0_litPart) := goodIn_app (goodIn_of _ (by decide +kernel)) ggX5_setBrightness_X0_litPart
theorem dX5_setBrightness_0 : decode cX5_setBrightness 0 = .ok (.aload_n 0, 1) := by decide +kernel
theorem dX5_setBrightness_1 : decode cX5_setBrightness 1 = .ok (.getfield 10, 3) := by decide +kernel
theorem dX5_setBrightness_4 : decode cX5_setBrightness 4 = .ok (.iload_n 1, 1) := by decide +kernel
theorem dX5_setBrightness_5 : decode cX5_setBrightness 5 = .ok (.invokevirtual 56, 3) := by decide +kernel
theorem dX5_setBrightness_8 : decode cX5_setBrightness 8 = .ok (.astore_n 3, 1) := by decide +kernel
theorem dX5_setBrightness_9 : decode cX5_setBrightness 9 = .ok (.aload_n 3, 1) := by decide +kernel
theorem dX5_setBrightness_10 : decode cX5_setBrightness 10 = .ok (.ifnonnull 5, 3) := by decide +kernel
theorem dX5_setBrightness_13 : decode cX5_setBrightness 13 = .ok (.iconst (-1), 1) := by decide +kernel
theorem dX5_setBrightness_14 : decode cX5_setBrightness 14 = .ok (.ireturn, 1) := by decide +kernel
theorem dX5_setBrightness_15 : decode cX5_setBrightness 15 = .ok (.iload_n 2, 1) := by decide +kernel
theorem dX5_setBrightness_16 : decode cX5_setBrightness 16 = .ok (.iconst 0, 1) := by decide +kernel
theorem dX5_setBrightness_17 : decode cX5_setBrightness 17 = .ok (.bipush 15, 2) := by decide +kernel
theorem dX5_setBrightness_19 : decode cX5_setBrightness 19 = .ok (.invokestatic 40, 3) := by decide +kernel
theorem dX5_setBrightness_22 : decode cX5_setBrightness 22 = .ok (.ifCond .ne 6, 3) := by decide +kernel
theorem dX5_setBrightness_25 : decode cX5_setBrightness 25 = .ok (.bipush (-2), 2) := by decide +kernel
theorem dX5_setBrightness_27 : decode cX5_setBrightness 27 = .ok (.ireturn, 1) := by decide +kernel
theorem dX5_setBrightness_28 : decode cX5_setBrightness 28 = .ok (.aload_n 0, 1) := by decide +kernel
theorem dX5_setBrightness_29 : decode cX5_setBrightness 29 = .ok (.getfield 22, 3) := by decide +kernel
theorem dX5_setBrightness_32 : decode cX5_setBrightness 32 = .ok (.aload_n 0, 1) := by decide +kernel
theorem dX5_setBrightness_33 : decode cX5_setBrightness 33 = .ok (.getfield 10, 3) := by decide +kernel
theorem dX5_setBrightness_36 : decode cX5_setBrightness 36 = .ok (.invokevirtual 44, 3) := by decide +kernel
theorem dX5_setBrightness_39 : decode cX5_setBrightness 39 = .ok (.aload_n 3, 1) := by decide +kernel
theorem dX5_setBrightness_40 : decode cX5_setBrightness 40 = .ok (.iload_n 2, 1) := by decide +kernel
theorem dX5_setBrightness_41 : decode cX5_setBrightness 41 = .ok (.putfield 76, 3) := by decide +kernel
theorem dX5_setBrightness_44 : decode cX5_setBrightness 44 = .ok (.aload_n 3, 1) := by decide +kernel
theorem dX5_setBrightness_45 : decode cX5_setBrightness 45 = .ok (.invokevirtual 73, 3) := by decide +kernel
theorem dX5_setBrightness_48 : decode cX5_setBrightness 48 = .ok (.ireturn, 1) := by decide +kernel
set_option maxRecDepth 20000 in
theorem ggX5_setPattern_X3_find : GoodIn wsX5_setPattern wsX3_find := goodIn_r _ [8, 9, 10, 11, 12, 13, 75, 76, 77, 78, 79, 80, 81, 82, 83, 84, 85, 86, 87] (by decide +kernel) (by decide +kernel)
set_option maxRecDepth 20000 in
theorem gX5_setPattern_X3_find : GoodIn wsX5_setPattern (wsV RX5 56 RX3 yX3_find wsX3_find) := goodIn_app (goodIn_of _ (by decide +kernel)) ggX5_setPattern_X3_find
set_option maxRecDepth 20000 in
theorem ggX5_setPattern_X5_isWithin : GoodIn wsX5_setPattern wsX5_isWithin := goodIn_r _ [13] (by decide +kernel) (by decide +kernel)
set_option maxRecDepth 20000 in
theorem gX5_setPattern_X5_isWithin : GoodIn wsX5_setPattern (va_wsS RX5 40 yX5_isWithin wsX5_isWithin) := goodIn_app (goodIn_of _ (by decide +kernel)) ggX5_setPattern_X5_isWithin
set_option maxRecDepth 20000 in
theorem ggX5_setPattern_X1_record : GoodIn wsX5_setPattern wsX1_record := goodIn_r _ [19, 20, 21, 22, 23, 24, 25, 26, 27, 28, 29, 7, 30, 10, 9, 31, 32, 33, 34, 35, 36, 37, 38, 39, 40, 41, 42, 43, 44, 45, 46, 47, 48, 49, 50, 51, 52, 53, 54, 55, 56, 57, 58, 59, 60, 88, 89, 90, 75, 76, 77, 78, 79, 80, 81, 82, 83, 84, 85, 86, 87, 66, 67, 68, 69, 70, 71, 72, 73, 74] (by decide +kernel) (by decide +kernel)
set_option maxRecDepth 20000 in
theorem gX5_setPattern_X1_record : GoodIn wsX5_setPattern (wsV RX5 44 RX1 yX1_record wsX1_record) := goodIn_app (goodIn_of _ (by decide +kernel)) ggX5_setPattern_X1_record
theorem dX5_setPattern_0 : decode cX5_setPattern 0 = .ok (.aload_n 0, 1) := by decide +kernel
theorem dX5_setPattern_1 : decode cX5_setPattern 1 = .ok (.getfield 10, 3) := by decide +kernel
theorem dX5_setPattern_4 : decode cX5_setPattern 4 = .ok (.iload_n 1, 1) := by decide +kernel
theorem dX5_setPattern_5 : decode cX5_setPattern 5 = .ok (.invokevirtual 56, 3) := by decide +kernel
theorem dX5_setPattern_8 : decode cX5_setPattern 8 = .ok (.astore_n 3, 1) := by decide +kernel
theorem dX5_setPattern_9 : decode cX5_setPattern 9 = .ok (.aload_n 3, 1) := by decide +kernel
theorem dX5_setPattern_10 : decode cX5_setPattern 10 = .ok (.ifnonnull 5, 3) := by decide +kernel
theorem dX5_setPattern_13 : decode cX5_setPattern 13 = .ok (.iconst (-1), 1) := by decide +kernel
theorem dX5_setPattern_14 : decode cX5_setPattern 14 = .ok (.ireturn, 1) := by decide +kernel
theorem dX5_setPattern_15 : decode cX5_setPattern 15 = .ok (.iload_n 2, 1) := by decide +kernel
theorem dX5_setPattern_16 : decode cX5_setPattern 16 = .ok (.iconst 0, 1) := by decide +kernel
theorem dX5_setPattern_17 : decode cX5_setPattern 17 = .ok (.sipush 255, 3) := by decide +kernel
theorem dX5_setPattern_20 : decode cX5_setPattern 20 = .ok (.invokestatic 40, 3) := by decide +kernel
theorem dX5_setPattern_23 : decode cX5_setPattern 23 = .ok (.ifCond .ne 6, 3) := by decide +kernel
theorem dX5_setPattern_26 : decode cX5_setPattern 26 = .ok (.bipush (-2), 2) := by decide +kernel
theorem dX5_setPattern_28 : decode cX5_setPattern 28 = .ok (.ireturn, 1) := by decide +kernel
theorem dX5_setPattern_29 : decode cX5_setPattern 29 = .ok (.aload_n 0, 1) := by decide +kernel
theorem dX5_setPattern_30 : decode cX5_setPattern 30 = .ok (.getfield 22, 3) := by decide +kernel
theorem dX5_setPattern_33 : decode cX5_setPattern 33 = .ok (.aload_n 0, 1) := by decide +kernel
theorem dX5_setPattern_34 : decode cX5_setPattern 34 = .ok (.getfield 10, 3) := by decide +kernel
theorem dX5_setPattern_37 : decode cX5_setPattern 37 = .ok (.invokevirtual 44, 3) := by decide +kernel
theorem dX5_setPattern_40 : decode cX5_setPattern 40 = .ok (.aload_n 3, 1) := by decide +kernel
theorem dX5_setPattern_41 : decode cX5_setPattern 41 = .ok (.getfield 79, 3) := by decide +kernel
theorem dX5_setPattern_44 : decode cX5_setPattern 44 = .ok (.istore 4, 2) := by decide +kernel
theorem dX5_setPattern_46 : decode cX5_setPattern 46 = .ok (.aload_n 3, 1) := by decide +kernel
theorem dX5_setPattern_47 : decode cX5_setPattern 47 = .ok (.iload_n 2, 1) := by decide +kernel
theorem dX5_setPattern_48 : decode cX5_setPattern 48 = .ok (.putfield 79, 3) := by decide +kernel
theorem dX5_setPattern_51 : decode cX5_setPattern 51 = .ok (.iload 4, 2) := by decide +kernel
theorem dX5_setPattern_53 : decode cX5_setPattern 53 = .ok (.ireturn, 1) := by decide +kernel
set_option maxRecDepth 20000 in
theorem ggX5_setGroup_X3_find : GoodIn wsX5_setGroup wsX3_find := goodIn_r _ [8, 9, 10, 11, 12, 13, 75, 76, 77, 78, 79, 80, 81, 82, 83, 84, 85, 86, 87] (by decide +kernel) (by decide +kernel)
set_option maxRecDepth 20000 in
theorem gX5_setGroup_X3_find : GoodIn wsX5_setGroup (wsV RX5 56 RX3 yX3_find wsX3_find) := goodIn_app (goodIn_of _ (by decide +kernel)) ggX5_setGroup_X3_find
set_option maxRecDepth 20000 in
theorem ggX5_setGroup_X5_isWithin : GoodIn wsX5_setGroup wsX5_isWithin := goodIn_r _ [13] (by decide +kernel) (by decide +kernel)
set_option maxRecDepth 20000 in
theorem gX5_setGroup_X5_isWithin : GoodIn wsX5_setGroup (va_wsS RX5 40 yX5_isWithin wsX5_isWithin) := goodIn_app (goodIn_of _ (by decide +kernel)) ggX5_setGroup_X5_isWithin
set_option maxRecDepth 20000 in
theorem ggX5_setGroup_X1_record : GoodIn wsX5_setGroup wsX1_record := goodIn_r _ [19, 20, 21, 22, 23, 24, 25, 26, 27, 28, 29, 7, 30, 10, 9, 31, 32, 33, 34, 35, 36, 37, 38, 39, 40, 41, 42, 43, 44, 45, 46, 47, 48, 49, 50, 51, 52, 53, 54, 55, 56, 57, 58, 59, 60, 88, 89, 90, 75, 76, 77, 78, 79, 80, 81, 82, 83, 84, 85, 86, 87, 66, 67, 68, 69, 70, 71, 72, 73, 74] (by decide +kernel) (by decide +kernel)
set_option maxRecDepth 20000 in
theorem gX5_setGroup_X1_record : GoodIn wsX5_setGroup (wsV RX5 44 RX1 yX1_record wsX1_record) := goodIn_app (goodIn_of _ (by decide +kernel)) ggX5_setGroup_X1_record
theorem dX5_setGroup_0 : decode cX5_setGroup 0 = .ok (.aload_n 0, 1) := by decide +kernel
theorem dX5_setGroup_1 : decode cX5_setGroup 1 = .ok (.getfield 10, 3) := by decide +kernel
theorem dX5_setGroup_4 : decode cX5_setGroup 4 = .ok (.iload_n 1, 1) := by decide +kernel
theorem dX5_setGroup_5 : decode cX5_setGroup 5 = .ok (.invokevirtual 56, 3) := by decide +kernel
theorem dX5_setGroup_8 : decode cX5_setGroup 8 = .ok (.astore_n 3, 1) := by decide +kernel
theorem dX5_setGroup_9 : decode cX5_setGroup 9 = .ok (.aload_n 3, 1) := by decide +kernel
theorem dX5_setGroup_10 : decode cX5_setGroup 10 = .ok (.ifnull 12, 3) := by decide +kernel
theorem dX5_setGroup_13 : decode cX5_setGroup 13 = .ok (.iload_n 2, 1) := by decide +kernel
theorem dX5_setGroup_14 : decode cX5_setGroup 14 = .ok (.iconst 0, 1) := by decide +kernel
theorem dX5_setGroup_15 : decode cX5_setGroup 15 = .ok (.iconst 3, 1) := by decide +kernel
theorem dX5_setGroup_16 : decode cX5_setGroup 16 = .ok (.invokestatic 40, 3) := by decide +kernel
theorem dX5_setGroup_19 : decode cX5_setGroup 19 = .ok (.ifCond .ne 5, 3) := by decide +kernel
theorem dX5_setGroup_22 : decode cX5_setGroup 22 = .ok (.iconst (-1), 1) := by decide +kernel
theorem dX5_setGroup_23 : decode cX5_setGroup 23 = .ok (.ireturn, 1) := by decide +kernel
theorem dX5_setGroup_24 : decode cX5_setGroup 24 = .ok (.aload_n 0, 1) := by decide +kernel
theorem dX5_setGroup_25 : decode cX5_setGroup 25 = .ok (.getfield 22, 3) := by decide +kernel
theorem dX5_setGroup_28 : decode cX5_setGroup 28 = .ok (.aload_n 0, 1) := by decide +kernel
theorem dX5_setGroup_29 : decode cX5_setGroup 29 = .ok (.getfield 10, 3) := by decide +kernel
theorem dX5_setGroup_32 : decode cX5_setGroup 32 = .ok (.invokevirtual 44, 3) := by decide +kernel
theorem dX5_setGroup_35 : decode cX5_setGroup 35 = .ok (.aload_n 3, 1) := by decide +kernel
theorem dX5_setGroup_36 : decode cX5_setGroup 36 = .ok (.getfield 82, 3) := by decide +kernel
theorem dX5_setGroup_39 : decode cX5_setGroup 39 = .ok (.istore 4, 2) := by decide +kernel
theorem dX5_setGroup_41 : decode cX5_setGroup 41 = .ok (.aload_n 3, 1) := by decide +kernel
theorem dX5_setGroup_42 : decode cX5_setGroup 42 = .ok (.iload_n 2, 1) := by decide +kernel
theorem dX5_setGroup_43 : decode cX5_setGroup 43 = .ok (.putfield 82, 3) := by decide +kernel
theorem dX5_setGroup_46 : decode cX5_setGroup 46 = .ok (.iload 4, 2) := by decide +kernel
theorem dX5_setGroup_48 : decode cX5_setGroup 48 = .ok (.ireturn, 1) := by decide +kernel
set_option maxRecDepth 20000 in
theorem ggX5_setBlink_X5_isWithin : GoodIn wsX5_setBlink wsX5_isWithin := goodIn_r _ [8] (by decide +kernel) (by decide +kernel)
set_option maxRecDepth 20000 in
theorem gX5_setBlink_X5_isWithin : GoodIn wsX5_setBlink (va_wsS RX5 40 yX5_isWithin wsX5_isWithin) := goodIn_app (goodIn_of _ (by decide +kernel)) ggX5_setBlink_X5_isWithin
set_option maxRecDepth 20000 in
theorem ggX5_setBlink_X1_record : GoodIn wsX5_setBlink wsX1_record := goodIn_r _ [13, 14, 15, 16, 17, 18, 19, 20, 21, 22, 23, 24, 25, 26, 27, 28, 29, 30, 31, 32, 33, 34, 35, 36, 37, 38, 39, 40, 41, 42, 43, 44, 45, 46, 47, 48, 49, 50, 51, 52, 53, 54, 55, 56, 57, 81, 82, 83, 68, 69, 70, 71, 72, 73, 74, 75, 76, 77, 78, 79, 80, 84, 85, 86, 87, 88, 89, 90, 91, 92] (by decide +kernel) (by decide +kernel)
set_option maxRecDepth 20000 in
theorem gX5_setBlink_X1_record : GoodIn wsX5_setBlink (wsV RX5 44 RX1 yX1_record wsX1_record) := goodIn_app (goodIn_of _ (by decide +kernel)) ggX5_setBlink_X1_record
set_option maxRecDepth 20000 in
theorem ggX5_setBlink_X3_digitsInGroup : GoodIn wsX5_setBlink wsX3_digitsInGroup := goodIn_r _ [61, 27, 26, 62, 68, 69, 70, 71, 72, 73, 74, 75, 76, 77, 78, 79, 80, 84, 85, 86, 87, 88, 89, 90, 91, 92] (by decide +kernel) (by decide +kernel)
set_option maxRecDepth 20000 in
theorem gX5_setBlink_X3_digitsInGroup : GoodIn wsX5_setBlink (wsV RX5 92 RX3 yX3_digitsInGroup wsX3_digitsInGroup) := goodIn_app (goodIn_of _ (by decide +kernel)) ggX5_setBlink_X3_digitsInGroup
theorem dX5_setBlink_0 : decode cX5_setBlink 0 = .ok (.iload_n 1, 1) := by decide +kernel
theorem dX5_setBlink_1 : decode cX5_setBlink 1 = .ok (.iconst 1, 1) := by decide +kernel
theorem dX5_setBlink_2 : decode cX5_setBlink 2 = .ok (.iconst 3, 1) := by decide +kernel
theorem dX5_setBlink_3 : decode cX5_setBlink 3 = .ok (.invokestatic 40, 3) := by decide +kernel
theorem dX5_setBlink_6 : decode cX5_setBlink 6 = .ok (.ifCond .ne 5, 3) := by decide +kernel
theorem dX5_setBlink_9 : decode cX5_setBlink 9 = .ok (.iconst (-1), 1) := by decide +kernel
theorem dX5_setBlink_10 : decode cX5_setBlink 10 = .ok (.ireturn, 1) := by decide +kernel
theorem dX5_setBlink_11 : decode cX5_setBlink 11 = .ok (.iload_n 2, 1) := by decide +kernel
theorem dX5_setBlink_12 : decode cX5_setBlink 12 = .ok (.iconst 1, 1) := by decide +kernel
theorem dX5_setBlink_13 : decode cX5_setBlink 13 = .ok (.bipush 50, 2) := by decide +kernel
theorem dX5_setBlink_15 : decode cX5_setBlink 15 = .ok (.invokestatic 40, 3) := by decide +kernel
theorem dX5_setBlink_18 : decode cX5_setBlink 18 = .ok (.ifCond .eq 13, 3) := by decide +kernel
theorem dX5_setBlink_21 : decode cX5_setBlink 21 = .ok (.iload_n 3, 1) := by decide +kernel
theorem dX5_setBlink_22 : decode cX5_setBlink 22 = .ok (.iconst 0, 1) := by decide +kernel
theorem dX5_setBlink_23 : decode cX5_setBlink 23 = .ok (.bipush 50, 2) := by decide +kernel
theorem dX5_setBlink_25 : decode cX5_setBlink 25 = .ok (.invokestatic 40, 3) := by decide +kernel
theorem dX5_setBlink_28 : decode cX5_setBlink 28 = .ok (.ifCond .ne 6, 3) := by decide +kernel
theorem dX5_setBlink_31 : decode cX5_setBlink 31 = .ok (.bipush (-2), 2) := by decide +kernel
theorem dX5_setBlink_33 : decode cX5_setBlink 33 = .ok (.ireturn, 1) := by decide +kernel
theorem dX5_setBlink_34 : decode cX5_setBlink 34 = .ok (.aload_n 0, 1) := by decide +kernel
theorem dX5_setBlink_35 : decode cX5_setBlink 35 = .ok (.getfield 22, 3) := by decide +kernel
theorem dX5_setBlink_38 : decode cX5_setBlink 38 = .ok (.aload_n 0, 1) := by decide +kernel
theorem dX5_setBlink_39 : decode cX5_setBlink 39 = .ok (.getfield 10, 3) := by decide +kernel
theorem dX5_setBlink_42 : decode cX5_setBlink 42 = .ok (.invokevirtual 44, 3) := by decide +kernel
theorem dX5_setBlink_45 : decode cX5_setBlink 45 = .ok (.aload_n 0, 1) := by decide +kernel
theorem dX5_setBlink_46 : decode cX5_setBlink 46 = .ok (.getfield 10, 3) := by decide +kernel
theorem dX5_setBlink_49 : decode cX5_setBlink 49 = .ok (.getfield 85, 3) := by decide +kernel
theorem dX5_setBlink_52 : decode cX5_setBlink 52 = .ok (.iload_n 1, 1) := by decide +kernel
theorem dX5_setBlink_53 : decode cX5_setBlink 53 = .ok (.iload_n 2, 1) := by decide +kernel
theorem dX5_setBlink_54 : decode cX5_setBlink 54 = .ok (.iastore, 1) := by decide +kernel
theorem dX5_setBlink_55 : decode cX5_setBlink 55 = .ok (.aload_n 0, 1) := by decide +kernel
theorem dX5_setBlink_56 : decode cX5_setBlink 56 = .ok (.getfield 10, 3) := by decide +kernel
theorem dX5_setBlink_59 : decode cX5_setBlink 59 = .ok (.getfield 89, 3) := by decide +kernel
theorem dX5_setBlink_62 : decode cX5_setBlink 62 = .ok (.iload_n 1, 1) := by decide +kernel
theorem dX5_setBlink_63 : decode cX5_setBlink 63 = .ok (.iload_n 3, 1) := by decide +kernel
theorem dX5_setBlink_64 : decode cX5_setBlink 64 = .ok (.iastore, 1) := by decide +kernel
theorem dX5_setBlink_65 : decode cX5_setBlink 65 = .ok (.aload_n 0, 1) := by decide +kernel
theorem dX5_setBlink_66 : decode cX5_setBlink 66 = .ok (.getfield 10, 3) := by decide +kernel
theorem dX5_setBlink_69 : decode cX5_setBlink 69 = .ok (.iload_n 1, 1) := by decide +kernel
theorem dX5_setBlink_70 : decode cX5_setBlink 70 = .ok (.invokevirtual 92, 3) := by decide +kernel
theorem dX5_setBlink_73 : decode cX5_setBlink 73 = .ok (.ireturn, 1) := by decide +kernel
set_option maxRecDepth 20000 in
theorem ggX5_set_X5_isWithin : GoodIn wsX5_set wsX5_isWithin := goodIn_r _ [9] (by decide +kernel) (by decide +kernel)
set_option maxRecDepth 20000 in
theorem gX5_set_X5_isWithin : GoodIn wsX5_set (va_wsS RX5 40 yX5_isWithin wsX5_isWithin) := goodIn_app (goodIn_of _ (by decide +kernel)) ggX5_set_X5_isWithin
set_option maxRecDepth 20000 in
theorem ggX5_set_X1_record : GoodIn wsX5_set wsX1_record := goodIn_r _ [14, 15, 16, 17, 18, 19, 20, 21, 22, 23, 24, 25, 26, 27, 28, 29, 30, 31, 32, 33, 34, 35, 36, 37, 38, 39, 40, 41, 42, 43, 44, 45, 46, 47, 48, 49, 50, 51, 52, 53, 54, 55, 56, 57, 58, 77, 78, 79, 64, 65, 66, 67, 68, 69, 70, 71, 72, 73, 74, 75, 76, 80, 81, 82, 83, 84, 85, 86, 87, 88] (by decide +kernel) (by decide +kernel)
set_option maxRecDepth 20000 in
theorem gX5_set_X1_record : GoodIn wsX5_set (wsV RX5 44 RX1 yX1_record wsX1_record) := goodIn_app (goodIn_of _ (by decide +kernel)) ggX5_set_X1_record
theorem dX5_set_0 : decode cX5_set 0 = .ok (.iload_n 1, 1) := by decide +kernel
theorem dX5_set_1 : decode cX5_set 1 = .ok (.iconst 0, 1) := by decide +kernel
theorem dX5_set_2 : decode cX5_set 2 = .ok (.iconst 2, 1) := by decide +kernel
theorem dX5_set_3 : decode cX5_set 3 = .ok (.invokestatic 40, 3) := by decide +kernel
theorem dX5_set_6 : decode cX5_set 6 = .ok (.ifCond .ne 5, 3) := by decide +kernel
theorem dX5_set_9 : decode cX5_set 9 = .ok (.iconst (-1), 1) := by decide +kernel
theorem dX5_set_10 : decode cX5_set 10 = .ok (.ireturn, 1) := by decide +kernel
theorem dX5_set_11 : decode cX5_set 11 = .ok (.iload_n 2, 1) := by decide +kernel
theorem dX5_set_12 : decode cX5_set 12 = .ok (.getstatic 96, 3) := by decide +kernel
theorem dX5_set_15 : decode cX5_set 15 = .ok (.iload_n 1, 1) := by decide +kernel
theorem dX5_set_16 : decode cX5_set 16 = .ok (.iaload, 1) := by decide +kernel
theorem dX5_set_17 : decode cX5_set 17 = .ok (.getstatic 99, 3) := by decide +kernel
theorem dX5_set_20 : decode cX5_set 20 = .ok (.iload_n 1, 1) := by decide +kernel
theorem dX5_set_21 : decode cX5_set 21 = .ok (.iaload, 1) := by decide +kernel
theorem dX5_set_22 : decode cX5_set 22 = .ok (.invokestatic 40, 3) := by decide +kernel
theorem dX5_set_25 : decode cX5_set 25 = .ok (.ifCond .ne 6, 3) := by decide +kernel
theorem dX5_set_28 : decode cX5_set 28 = .ok (.bipush (-2), 2) := by decide +kernel
theorem dX5_set_30 : decode cX5_set 30 = .ok (.ireturn, 1) := by decide +kernel
theorem dX5_set_31 : decode cX5_set 31 = .ok (.aload_n 0, 1) := by decide +kernel
theorem dX5_set_32 : decode cX5_set 32 = .ok (.getfield 22, 3) := by decide +kernel
theorem dX5_set_35 : decode cX5_set 35 = .ok (.aload_n 0, 1) := by decide +kernel
theorem dX5_set_36 : decode cX5_set 36 = .ok (.getfield 10, 3) := by decide +kernel
theorem dX5_set_39 : decode cX5_set 39 = .ok (.invokevirtual 44, 3) := by decide +kernel
theorem dX5_set_42 : decode cX5_set 42 = .ok (.aload_n 0, 1) := by decide +kernel
theorem dX5_set_43 : decode cX5_set 43 = .ok (.getfield 10, 3) := by decide +kernel
theorem dX5_set_46 : decode cX5_set 46 = .ok (.getfield 102, 3) := by decide +kernel
theorem dX5_set_49 : decode cX5_set 49 = .ok (.iload_n 1, 1) := by decide +kernel
theorem dX5_set_50 : decode cX5_set 50 = .ok (.iaload, 1) := by decide +kernel
theorem dX5_set_51 : decode cX5_set 51 = .ok (.istore_n 3, 1) := by decide +kernel
theorem dX5_set_52 : decode cX5_set 52 = .ok (.aload_n 0, 1) := by decide +kernel
theorem dX5_set_53 : decode cX5_set 53 = .ok (.getfield 10, 3) := by decide +kernel
theorem dX5_set_56 : decode cX5_set 56 = .ok (.getfield 102, 3) := by decide +kernel
theorem dX5_set_59 : decode cX5_set 59 = .ok (.iload_n 1, 1) := by decide +kernel
theorem dX5_set_60 : decode cX5_set 60 = .ok (.iload_n 2, 1) := by decide +kernel
theorem dX5_set_61 : decode cX5_set 61 = .ok (.iastore, 1) := by decide +kernel
theorem dX5_set_62 : decode cX5_set 62 = .ok (.iload_n 3, 1) := by decide +kernel
theorem dX5_set_63 : decode cX5_set 63 = .ok (.ireturn, 1) := by decide +kernel
set_option maxRecDepth 20000 in
theorem ggX5_replace_X3_find : GoodIn wsX5_replace wsX3_find := goodIn_r _ [8, 9, 10, 11, 12, 13, 85, 86, 87, 88, 89, 90, 91, 92, 93, 94, 95, 96, 97] (by decide +kernel) (by decide +kernel)
set_option maxRecDepth 20000 in
theorem gX5_replace_X3_find : GoodIn wsX5_replace (wsV RX5 56 RX3 yX3_find wsX3_find) := goodIn_app (goodIn_of _ (by decide +kernel)) ggX5_replace_X3_find
set_option maxRecDepth 20000 in
theorem ggX5_replace_X1_record : GoodIn wsX5_replace wsX1_record := goodIn_r _ [18, 19, 20, 21, 22, 23, 24, 25, 26, 27, 28, 7, 29, 10, 9, 30, 31, 32, 33, 34, 35, 36, 37, 38, 39, 40, 41, 42, 43, 44, 45, 46, 47, 48, 49, 50, 51, 52, 53, 54, 55, 56, 57, 58, 59, 98, 99, 100, 85, 86, 87, 88, 89, 90, 91, 92, 93, 94, 95, 96, 97, 76, 77, 78, 79, 80, 81, 82, 83, 84] (by decide +kernel) (by decide +kernel)
set_option maxRecDepth 20000 in
theorem gX5_replace_X1_record : GoodIn wsX5_replace (wsV RX5 44 RX1 yX1_record wsX1_record) := goodIn_app (goodIn_of _ (by decide +kernel)) ggX5_replace_X1_record
set_option maxRecDepth 20000 in
theorem ggX5_replace_J6_bitCount_0f7a4 : GoodIn wsX5_replace wsJ6_bitCount_0f7a4 := goodIn_r _ [63, 64, 65, 66] (by decide +kernel) (by decide +kernel)
set_option maxRecDepth 20000 in
theorem gX5_replace_J6_bitCount_0f7a4 : GoodIn wsX5_replace (va_wsS RX5 108 yJ6_bitCount_0f7a4 wsJ6_bitCount_0f7a4) := goodIn_app (goodIn_of _ (by decide +kernel)) ggX5_replace_J6_bitCount_0f7a4
set_option maxRecDepth 20000 in
theorem ggX5_replace_X0_renewSegments : GoodIn wsX5_replace wsX0_renewSegments := goodIn_r _ [70, 56, 57, 59, 76, 77, 78, 79, 80, 81, 82, 83, 84] (by decide +kernel) (by decide +kernel)
set_option maxRecDepth 20000 in
theorem gX5_replace_X0_renewSegments : GoodIn wsX5_replace (wsV RX5 113 RX0 yX0_renewSegments wsX0_renewSegments) := goodIn_app (goodIn_of _ (by decide +kernel)) ggX5_replace_X0_renewSegments
theorem dX5_replace_0 : decode cX5_replace 0 = .ok (.aload_n 0, 1) := by decide +kernel
theorem dX5_replace_1 : decode cX5_replace 1 = .ok (.getfield 10, 3) := by decide +kernel
theorem dX5_replace_4 : decode cX5_replace 4 = .ok (.iload_n 1, 1) := by decide +kernel
theorem dX5_replace_5 : decode cX5_replace 5 = .ok (.invokevirtual 56, 3) := by decide +kernel
theorem dX5_replace_8 : decode cX5_replace 8 = .ok (.astore_n 2, 1) := by decide +kernel
theorem dX5_replace_9 : decode cX5_replace 9 = .ok (.aload_n 2, 1) := by decide +kernel
theorem dX5_replace_10 : decode cX5_replace 10 = .ok (.ifnonnull 5, 3) := by decide +kernel
theorem dX5_replace_13 : decode cX5_replace 13 = .ok (.iconst (-1), 1) := by decide +kernel
theorem dX5_replace_14 : decode cX5_replace 14 = .ok (.ireturn, 1) := by decide +kernel
theorem dX5_replace_15 : decode cX5_replace 15 = .ok (.aload_n 0, 1) := by decide +kernel
theorem dX5_replace_16 : decode cX5_replace 16 = .ok (.getfield 22, 3) := by decide +kernel
theorem dX5_replace_19 : decode cX5_replace 19 = .ok (.aload_n 0, 1) := by decide +kernel
theorem dX5_replace_20 : decode cX5_replace 20 = .ok (.getfield 10, 3) := by decide +kernel
theorem dX5_replace_23 : decode cX5_replace 23 = .ok (.invokevirtual 44, 3) := by decide +kernel
theorem dX5_replace_26 : decode cX5_replace 26 = .ok (.aload_n 2, 1) := by decide +kernel
theorem dX5_replace_27 : decode cX5_replace 27 = .ok (.getfield 105, 3) := by decide +kernel
theorem dX5_replace_30 : decode cX5_replace 30 = .ok (.invokestatic 108, 3) := by decide +kernel
theorem dX5_replace_33 : decode cX5_replace 33 = .ok (.istore_n 3, 1) := by decide +kernel
theorem dX5_replace_34 : decode cX5_replace 34 = .ok (.aload_n 2, 1) := by decide +kernel
theorem dX5_replace_35 : decode cX5_replace 35 = .ok (.invokevirtual 113, 3) := by decide +kernel
theorem dX5_replace_38 : decode cX5_replace 38 = .ok (.iload_n 3, 1) := by decide +kernel
theorem dX5_replace_39 : decode cX5_replace 39 = .ok (.ireturn, 1) := by decide +kernel
set_option maxRecDepth 20000 in
theorem ggX5_test_X5_isWithin : GoodIn wsX5_test wsX5_isWithin := goodIn_r _ [7] (by decide +kernel) (by decide +kernel)
set_option maxRecDepth 20000 in
theorem gX5_test_X5_isWithin : GoodIn wsX5_test (va_wsS RX5 40 yX5_isWithin wsX5_isWithin) := goodIn_app (goodIn_of _ (by decide +kernel)) ggX5_test_X5_isWithin
set_option maxRecDepth 20000 in
theorem ggX5_test_X1_record : GoodIn wsX5_test wsX1_record := goodIn_r _ [12, 13, 14, 15, 16, 17, 18, 19, 20, 21, 22, 23, 24, 25, 26, 27, 28, 29, 30, 31, 32, 33, 34, 35, 36, 37, 38, 39, 40, 41, 42, 43, 44, 45, 46, 47, 48, 49, 50, 51, 52, 53, 54, 55, 56, 75, 76, 77, 62, 63, 64, 65, 66, 67, 68, 69, 70, 71, 72, 73, 74, 78, 79, 80, 81, 82, 83, 84, 85, 86] (by decide +kernel) (by decide +kernel)
set_option maxRecDepth 20000 in
theorem gX5_test_X1_record : GoodIn wsX5_test (wsV RX5 44 RX1 yX1_record wsX1_record) := goodIn_app (goodIn_of _ (by decide +kernel)) ggX5_test_X1_record
theorem dX5_test_0 : decode cX5_test 0 = .ok (.iload_n 1, 1) := by decide +kernel
theorem dX5_test_1 : decode cX5_test 1 = .ok (.iconst 0, 1) := by decide +kernel
theorem dX5_test_2 : decode cX5_test 2 = .ok (.bipush 50, 2) := by decide +kernel
theorem dX5_test_4 : decode cX5_test 4 = .ok (.invokestatic 40, 3) := by decide +kernel
theorem dX5_test_7 : decode cX5_test 7 = .ok (.ifCond .ne 6, 3) := by decide +kernel
theorem dX5_test_10 : decode cX5_test 10 = .ok (.bipush (-2), 2) := by decide +kernel
theorem dX5_test_12 : decode cX5_test 12 = .ok (.ireturn, 1) := by decide +kernel
theorem dX5_test_13 : decode cX5_test 13 = .ok (.aload_n 0, 1) := by decide +kernel
theorem dX5_test_14 : decode cX5_test 14 = .ok (.getfield 22, 3) := by decide +kernel
theorem dX5_test_17 : decode cX5_test 17 = .ok (.aload_n 0, 1) := by decide +kernel
theorem dX5_test_18 : decode cX5_test 18 = .ok (.getfield 10, 3) := by decide +kernel
theorem dX5_test_21 : decode cX5_test 21 = .ok (.invokevirtual 44, 3) := by decide +kernel
theorem dX5_test_24 : decode cX5_test 24 = .ok (.aload_n 0, 1) := by decide +kernel
theorem dX5_test_25 : decode cX5_test 25 = .ok (.getfield 10, 3) := by decide +kernel
theorem dX5_test_28 : decode cX5_test 28 = .ok (.getfield 116, 3) := by decide +kernel
theorem dX5_test_31 : decode cX5_test 31 = .ok (.istore_n 2, 1) := by decide +kernel
theorem dX5_test_32 : decode cX5_test 32 = .ok (.aload_n 0, 1) := by decide +kernel
theorem dX5_test_33 : decode cX5_test 33 = .ok (.getfield 10, 3) := by decide +kernel
theorem dX5_test_36 : decode cX5_test 36 = .ok (.iload_n 1, 1) := by decide +kernel
theorem dX5_test_37 : decode cX5_test 37 = .ok (.putfield 116, 3) := by decide +kernel
theorem dX5_test_40 : decode cX5_test 40 = .ok (.iload_n 2, 1) := by decide +kernel
theorem dX5_test_41 : decode cX5_test 41 = .ok (.ireturn, 1) := by decide +kernel
set_option maxRecDepth 20000 in
theorem ggX5_pass_X5_isWithin : GoodIn wsX5_pass wsX5_isWithin := goodIn_r _ [6] (by decide +kernel) (by decide +kernel)
set_option maxRecDepth 20000 in
theorem gX5_pass_X5_isWithin : GoodIn wsX5_pass (va_wsS RX5 40 yX5_isWithin wsX5_isWithin) := goodIn_app (goodIn_of _ (by decide +kernel)) ggX5_pass_X5_isWithin
set_option maxRecDepth 20000 in
theorem ggX5_pass_X1_record : GoodIn wsX5_pass wsX1_record := goodIn_r _ [11, 12, 13, 14, 15, 16, 17, 18, 19, 20, 21, 22, 23, 24, 25, 26, 27, 28, 29, 30, 31, 32, 33, 34, 35, 36, 37, 38, 39, 40, 41, 42, 43, 44, 45, 46, 47, 48, 49, 50, 51, 52, 53, 54, 55, 133, 134, 135, 136, 137, 138, 139, 140, 141, 142, 143, 144, 145, 146, 147, 148, 149, 150, 151, 152, 153, 154, 155, 156, 157] (by decide +kernel) (by decide +kernel)
set_option maxRecDepth 20000 in
theorem gX5_pass_X1_record : GoodIn wsX5_pass (wsV RX5 44 RX1 yX1_record wsX1_record) := goodIn_app (goodIn_of _ (by decide +kernel)) ggX5_pass_X1_record
set_option maxRecDepth 20000 in
theorem ggX5_pass_X3_runTicks : GoodIn wsX5_pass wsX3_runTicks := goodIn_r _ [59, 60, 61, 62, 22, 63, 24, 64, 37, 25, 32, 33, 35, 65, 66, 67, 68, 69, 70, 71, 72, 73, 36, 74, 75, 76, 77, 78, 79, 80, 81, 82, 83, 84, 44, 85, 46, 47, 86, 87, 88, 89, 90, 91, 92, 93, 26, 31, 34, 94, 95, 96, 97, 53, 55, 52, 98, 5, 99, 100, 101, 17, 102, 103, 104, 105, 16, 18, 106, 107, 108, 109, 110, 111, 112, 113, 114, 115, 116, 38, 117, 118, 39, 40, 119, 120, 121, 122, 123, 124, 125, 126, 127, 136, 137, 138, 139, 140, 141, 142, 143, 144, 145, 146, 147, 148, 149, 150, 151, 152, 153, 154, 155, 156, 157] (by decide +kernel) (by decide +kernel)
set_option maxRecDepth 20000 in
theorem gX5_pass_X3_runTicks : GoodIn wsX5_pass (wsV RX5 119 RX3 yX3_runTicks wsX3_runTicks) := goodIn_app (goodIn_of _ (by decide +kernel)) ggX5_pass_X3_runTicks
theorem dX5_pass_0 : decode cX5_pass 0 = .ok (.iload_n 1, 1) := by decide +kernel
theorem dX5_pass_1 : decode cX5_pass 1 = .ok (.iconst 1, 1) := by decide +kernel
theorem dX5_pass_2 : decode cX5_pass 2 = .ok (.sipush 500, 3) := by decide +kernel
theorem dX5_pass_5 : decode cX5_pass 5 = .ok (.invokestatic 40, 3) := by decide +kernel
theorem dX5_pass_8 : decode cX5_pass 8 = .ok (.ifCond .ne 6, 3) := by decide +kernel
theorem dX5_pass_11 : decode cX5_pass 11 = .ok (.bipush (-2), 2) := by decide +kernel
theorem dX5_pass_13 : decode cX5_pass 13 = .ok (.ireturn, 1) := by decide +kernel
theorem dX5_pass_14 : decode cX5_pass 14 = .ok (.aload_n 0, 1) := by decide +kernel
theorem dX5_pass_15 : decode cX5_pass 15 = .ok (.getfield 22, 3) := by decide +kernel
theorem dX5_pass_18 : decode cX5_pass 18 = .ok (.aload_n 0, 1) := by decide +kernel
theorem dX5_pass_19 : decode cX5_pass 19 = .ok (.getfield 10, 3) := by decide +kernel
theorem dX5_pass_22 : decode cX5_pass 22 = .ok (.invokevirtual 44, 3) := by decide +kernel
theorem dX5_pass_25 : decode cX5_pass 25 = .ok (.aload_n 0, 1) := by decide +kernel
theorem dX5_pass_26 : decode cX5_pass 26 = .ok (.getfield 10, 3) := by decide +kernel
theorem dX5_pass_29 : decode cX5_pass 29 = .ok (.iload_n 1, 1) := by decide +kernel
theorem dX5_pass_30 : decode cX5_pass 30 = .ok (.invokevirtual 119, 3) := by decide +kernel
theorem dX5_pass_33 : decode cX5_pass 33 = .ok (.ireturn, 1) := by decide +kernel
set_option maxRecDepth 20000 in
theorem ggX5_passFrames_X5_isWithin : GoodIn wsX5_passFrames wsX5_isWithin := goodIn_r _ [8] (by decide +kernel) (by decide +kernel)
set_option maxRecDepth 20000 in
theorem gX5_passFrames_X5_isWithin : GoodIn wsX5_passFrames (va_wsS RX5 40 yX5_isWithin wsX5_isWithin) := goodIn_app (goodIn_of _ (by decide +kernel)) ggX5_passFrames_X5_isWithin
set_option maxRecDepth 20000 in
theorem ggX5_passFrames_X1_record : GoodIn wsX5_passFrames wsX1_record := goodIn_r _ [13, 14, 15, 16, 17, 18, 19, 20, 21, 22, 23, 24, 25, 26, 27, 28, 29, 30, 31, 32, 33, 34, 35, 36, 37, 38, 39, 40, 41, 42, 43, 44, 45, 46, 47, 48, 49, 50, 51, 52, 53, 54, 55, 56, 57, 149, 150, 151, 136, 137, 138, 139, 140, 141, 142, 143, 144, 145, 146, 147, 148, 152, 153, 154, 155, 156, 157, 158, 159, 160] (by decide +kernel) (by decide +kernel)
set_option maxRecDepth 20000 in
theorem gX5_passFrames_X1_record : GoodIn wsX5_passFrames (wsV RX5 44 RX1 yX1_record wsX1_record) := goodIn_app (goodIn_of _ (by decide +kernel)) ggX5_passFrames_X1_record
set_option maxRecDepth 20000 in
theorem ggX5_passFrames_X3_frameLength : GoodIn wsX5_passFrames wsX3_frameLength := goodIn_r _ [61, 27, 62, 63, 64, 24, 65, 26, 66, 136, 137, 138, 139, 140, 141, 142, 143, 144, 145, 146, 147, 148, 152, 153, 154, 155, 156, 157, 158, 159, 160] (by decide +kernel) (by decide +kernel)
set_option maxRecDepth 20000 in
theorem gX5_passFrames_X3_frameLength : GoodIn wsX5_passFrames (wsV RX5 64 RX3 yX3_frameLength wsX3_frameLength) := goodIn_app (goodIn_of _ (by decide +kernel)) ggX5_passFrames_X3_frameLength
set_option maxRecDepth 20000 in
theorem ggX5_passFrames_X3_runTicks : GoodIn wsX5_passFrames wsX3_runTicks := goodIn_r _ [70, 71, 72, 73, 24, 74, 26, 75, 39, 27, 34, 35, 37, 76, 77, 78, 79, 66, 80, 81, 82, 83, 38, 84, 85, 86, 87, 88, 89, 90, 91, 92, 93, 94, 46, 95, 48, 49, 62, 63, 64, 65, 96, 97, 98, 99, 28, 33, 36, 100, 101, 102, 103, 55, 57, 54, 104, 7, 105, 106, 107, 19, 108, 109, 110, 111, 18, 20, 112, 113, 114, 115, 116, 117, 118, 119, 120, 121, 122, 40, 123, 124, 41, 42, 125, 126, 59, 60, 61, 127, 128, 129, 130, 136, 137, 138, 139, 140, 141, 142, 143, 144, 145, 146, 147, 148, 152, 153, 154, 155, 156, 157, 158, 159, 160] (by decide +kernel) (by decide +kernel)
set_option maxRecDepth 20000 in
theorem gX5_passFrames_X3_runTicks : GoodIn wsX5_passFrames (wsV RX5 119 RX3 yX3_runTicks wsX3_runTicks) := goodIn_app (goodIn_of _ (by decide +kernel)) ggX5_passFrames_X3_runTicks
theorem dX5_passFrames_0 : decode cX5_passFrames 0 = .ok (.iload_n 1, 1) := by decide +kernel
theorem dX5_passFrames_1 : decode cX5_passFrames 1 = .ok (.iconst 1, 1) := by decide +kernel
theorem dX5_passFrames_2 : decode cX5_passFrames 2 = .ok (.bipush 20, 2) := by decide +kernel
theorem dX5_passFrames_4 : decode cX5_passFrames 4 = .ok (.invokestatic 40, 3) := by decide +kernel
theorem dX5_passFrames_7 : decode cX5_passFrames 7 = .ok (.ifCond .ne 6, 3) := by decide +kernel
theorem dX5_passFrames_10 : decode cX5_passFrames 10 = .ok (.bipush (-2), 2) := by decide +kernel
theorem dX5_passFrames_12 : decode cX5_passFrames 12 = .ok (.ireturn, 1) := by decide +kernel
theorem dX5_passFrames_13 : decode cX5_passFrames 13 = .ok (.aload_n 0, 1) := by decide +kernel
theorem dX5_passFrames_14 : decode cX5_passFrames 14 = .ok (.getfield 22, 3) := by decide +kernel
theorem dX5_passFrames_17 : decode cX5_passFrames 17 = .ok (.aload_n 0, 1) := by decide +kernel
theorem dX5_passFrames_18 : decode cX5_passFrames 18 = .ok (.getfield 10, 3) := by decide +kernel
theorem dX5_passFrames_21 : decode cX5_passFrames 21 = .ok (.invokevirtual 44, 3) := by decide +kernel
theorem dX5_passFrames_24 : decode cX5_passFrames 24 = .ok (.aload_n 0, 1) := by decide +kernel
theorem dX5_passFrames_25 : decode cX5_passFrames 25 = .ok (.getfield 10, 3) := by decide +kernel
theorem dX5_passFrames_28 : decode cX5_passFrames 28 = .ok (.invokevirtual 64, 3) := by decide +kernel
theorem dX5_passFrames_31 : decode cX5_passFrames 31 = .ok (.istore_n 2, 1) := by decide +kernel
theorem dX5_passFrames_32 : decode cX5_passFrames 32 = .ok (.aload_n 0, 1) := by decide +kernel
theorem dX5_passFrames_33 : decode cX5_passFrames 33 = .ok (.getfield 10, 3) := by decide +kernel
theorem dX5_passFrames_36 : decode cX5_passFrames 36 = .ok (.iload_n 1, 1) := by decide +kernel
theorem dX5_passFrames_37 : decode cX5_passFrames 37 = .ok (.iload_n 2, 1) := by decide +kernel
theorem dX5_passFrames_38 : decode cX5_passFrames 38 = .ok (.imul, 1) := by decide +kernel
theorem dX5_passFrames_39 : decode cX5_passFrames 39 = .ok (.aload_n 0, 1) := by decide +kernel
theorem dX5_passFrames_40 : decode cX5_passFrames 40 = .ok (.getfield 10, 3) := by decide +kernel
theorem dX5_passFrames_43 : decode cX5_passFrames 43 = .ok (.getfield 122, 3) := by decide +kernel
theorem dX5_passFrames_46 : decode cX5_passFrames 46 = .ok (.isub, 1) := by decide +kernel
theorem dX5_passFrames_47 : decode cX5_passFrames 47 = .ok (.invokevirtual 119, 3) := by decide +kernel
theorem dX5_passFrames_50 : decode cX5_passFrames 50 = .ok (.pop, 1) := by decide +kernel
theorem dX5_passFrames_51 : decode cX5_passFrames 51 = .ok (.aload_n 0, 1) := by decide +kernel
theorem dX5_passFrames_52 : decode cX5_passFrames 52 = .ok (.getfield 10, 3) := by decide +kernel
theorem dX5_passFrames_55 : decode cX5_passFrames 55 = .ok (.getfield 125, 3) := by decide +kernel
theorem dX5_passFrames_58 : decode cX5_passFrames 58 = .ok (.ireturn, 1) := by decide +kernel
set_option maxRecDepth 20000 in
theorem ggX5_type_X4_isFull : GoodIn wsX5_type wsX4_isFull := goodIn_r _ [7, 8, 19, 20, 21, 22] (by decide +kernel) (by decide +kernel)
set_option maxRecDepth 20000 in
theorem gX5_type_X4_isFull : GoodIn wsX5_type (wsV RX5 128 RX4 yX4_isFull wsX4_isFull) := goodIn_app (goodIn_of _ (by decide +kernel)) ggX5_type_X4_isFull
set_option maxRecDepth 20000 in
theorem ggX5_type_X4_append : GoodIn wsX5_type wsX4_append := goodIn_r _ [12, 13, 8, 19, 20, 21, 22] (by decide +kernel) (by decide +kernel)
set_option maxRecDepth 20000 in
theorem gX5_type_X4_append : GoodIn wsX5_type (wsV RX5 132 RX4 yX4_append wsX4_append) := goodIn_app (goodIn_of _ (by decide +kernel)) ggX5_type_X4_append
theorem dX5_type_0 : decode cX5_type 0 = .ok (.aload_n 0, 1) := by decide +kernel
theorem dX5_type_1 : decode cX5_type 1 = .ok (.getfield 35, 3) := by decide +kernel
theorem dX5_type_4 : decode cX5_type 4 = .ok (.invokevirtual 128, 3) := by decide +kernel
theorem dX5_type_7 : decode cX5_type 7 = .ok (.ifCond .eq 6, 3) := by decide +kernel
theorem dX5_type_10 : decode cX5_type 10 = .ok (.bipush (-3), 2) := by decide +kernel
theorem dX5_type_12 : decode cX5_type 12 = .ok (.ireturn, 1) := by decide +kernel
theorem dX5_type_13 : decode cX5_type 13 = .ok (.aload_n 0, 1) := by decide +kernel
theorem dX5_type_14 : decode cX5_type 14 = .ok (.getfield 35, 3) := by decide +kernel
theorem dX5_type_17 : decode cX5_type 17 = .ok (.iload_n 1, 1) := by decide +kernel
theorem dX5_type_18 : decode cX5_type 18 = .ok (.invokevirtual 132, 3) := by decide +kernel
theorem dX5_type_21 : decode cX5_type 21 = .ok (.aload_n 0, 1) := by decide +kernel
theorem dX5_type_22 : decode cX5_type 22 = .ok (.getfield 35, 3) := by decide +kernel
theorem dX5_type_25 : decode cX5_type 25 = .ok (.getfield 136, 3) := by decide +kernel
theorem dX5_type_28 : decode cX5_type 28 = .ok (.ireturn, 1) := by decide +kernel
theorem dX5_clearText_0 : decode cX5_clearText 0 = .ok (.aload_n 0, 1) := by decide +kernel
theorem dX5_clearText_1 : decode cX5_clearText 1 = .ok (.getfield 35, 3) := by decide +kernel
theorem dX5_clearText_4 : decode cX5_clearText 4 = .ok (.getfield 136, 3) := by decide +kernel
theorem dX5_clearText_7 : decode cX5_clearText 7 = .ok (.istore_n 1, 1) := by decide +kernel
theorem dX5_clearText_8 : decode cX5_clearText 8 = .ok (.aload_n 0, 1) := by decide +kernel
theorem dX5_clearText_9 : decode cX5_clearText 9 = .ok (.getfield 35, 3) := by decide +kernel
theorem dX5_clearText_12 : decode cX5_clearText 12 = .ok (.iconst 0, 1) := by decide +kernel
theorem dX5_clearText_13 : decode cX5_clearText 13 = .ok (.putfield 136, 3) := by decide +kernel
theorem dX5_clearText_16 : decode cX5_clearText 16 = .ok (.iload_n 1, 1) := by decide +kernel
theorem dX5_clearText_17 : decode cX5_clearText 17 = .ok (.ireturn, 1) := by decide +kernel
set_option maxRecDepth 20000 in
theorem ggX5_show_X4_layOut : GoodIn wsX5_show wsX4_layOut := goodIn_r _ [11, 12, 13, 14, 15, 16, 17, 18, 19, 20, 93, 94, 95, 96] (by decide +kernel) (by decide +kernel)
set_option maxRecDepth 20000 in
theorem gX5_show_X4_layOut : GoodIn wsX5_show (wsV RX5 139 RX4 yX4_layOut wsX4_layOut) := goodIn_app (goodIn_of _ (by decide +kernel)) ggX5_show_X4_layOut
set_option maxRecDepth 20000 in
theorem ggX5_show_X1_record : GoodIn wsX5_show wsX1_record := goodIn_r _ [25, 26, 27, 28, 29, 30, 31, 32, 33, 34, 35, 36, 37, 38, 39, 40, 41, 42, 43, 44, 45, 46, 47, 48, 49, 50, 51, 52, 53, 54, 55, 56, 57, 58, 59, 60, 61, 62, 63, 64, 65, 66, 67, 68, 69, 97, 98, 99, 80, 81, 82, 83, 84, 85, 86, 87, 88, 89, 90, 91, 92, 100, 101, 102, 103, 104, 105, 106, 107, 108] (by decide +kernel) (by decide +kernel)
set_option maxRecDepth 20000 in
theorem gX5_show_X1_record : GoodIn wsX5_show (wsV RX5 44 RX1 yX1_record wsX1_record) := goodIn_app (goodIn_of _ (by decide +kernel)) ggX5_show_X1_record
set_option maxRecDepth 20000 in
theorem ggX5_show_X3_takePatterns : GoodIn wsX5_show wsX3_takePatterns := goodIn_r _ [73, 39, 38, 74, 80, 81, 82, 83, 84, 85, 86, 87, 88, 89, 90, 91, 92, 100, 101, 102, 103, 104, 105, 106, 107, 108] (by decide +kernel) (by decide +kernel)
set_option maxRecDepth 20000 in
theorem gX5_show_X3_takePatterns : GoodIn wsX5_show (wsV RX5 145 RX3 yX3_takePatterns wsX3_takePatterns) := goodIn_app (goodIn_of _ (by decide +kernel)) ggX5_show_X3_takePatterns
theorem dX5_show_0 : decode cX5_show 0 = .ok (.aload_n 0, 1) := by decide +kernel
theorem dX5_show_1 : decode cX5_show 1 = .ok (.getfield 35, 3) := by decide +kernel
theorem dX5_show_4 : decode cX5_show 4 = .ok (.aload_n 0, 1) := by decide +kernel
theorem dX5_show_5 : decode cX5_show 5 = .ok (.getfield 10, 3) := by decide +kernel
theorem dX5_show_8 : decode cX5_show 8 = .ok (.getfield 48, 3) := by decide +kernel
theorem dX5_show_11 : decode cX5_show 11 = .ok (.invokevirtual 139, 3) := by decide +kernel
theorem dX5_show_14 : decode cX5_show 14 = .ok (.istore_n 1, 1) := by decide +kernel
theorem dX5_show_15 : decode cX5_show 15 = .ok (.iload_n 1, 1) := by decide +kernel
theorem dX5_show_16 : decode cX5_show 16 = .ok (.ifCond .lt 8, 3) := by decide +kernel
theorem dX5_show_19 : decode cX5_show 19 = .ok (.bipush (-100), 2) := by decide +kernel
theorem dX5_show_21 : decode cX5_show 21 = .ok (.iload_n 1, 1) := by decide +kernel
theorem dX5_show_22 : decode cX5_show 22 = .ok (.isub, 1) := by decide +kernel
theorem dX5_show_23 : decode cX5_show 23 = .ok (.ireturn, 1) := by decide +kernel
theorem dX5_show_24 : decode cX5_show 24 = .ok (.aload_n 0, 1) := by decide +kernel
theorem dX5_show_25 : decode cX5_show 25 = .ok (.getfield 22, 3) := by decide +kernel
theorem dX5_show_28 : decode cX5_show 28 = .ok (.aload_n 0, 1) := by decide +kernel
theorem dX5_show_29 : decode cX5_show 29 = .ok (.getfield 10, 3) := by decide +kernel
theorem dX5_show_32 : decode cX5_show 32 = .ok (.invokevirtual 44, 3) := by decide +kernel
theorem dX5_show_35 : decode cX5_show 35 = .ok (.aload_n 0, 1) := by decide +kernel
theorem dX5_show_36 : decode cX5_show 36 = .ok (.getfield 10, 3) := by decide +kernel
theorem dX5_show_39 : decode cX5_show 39 = .ok (.aload_n 0, 1) := by decide +kernel
theorem dX5_show_40 : decode cX5_show 40 = .ok (.getfield 35, 3) := by decide +kernel
theorem dX5_show_43 : decode cX5_show 43 = .ok (.getfield 142, 3) := by decide +kernel
theorem dX5_show_46 : decode cX5_show 46 = .ok (.invokevirtual 145, 3) := by decide +kernel
theorem dX5_show_49 : decode cX5_show 49 = .ok (.aload_n 0, 1) := by decide +kernel
theorem dX5_show_50 : decode cX5_show 50 = .ok (.getfield 35, 3) := by decide +kernel
theorem dX5_show_53 : decode cX5_show 53 = .ok (.getfield 149, 3) := by decide +kernel
theorem dX5_show_56 : decode cX5_show 56 = .ok (.ireturn, 1) := by decide +kernel
set_option maxRecDepth 20000 in
theorem ggX5_undo_X1_takeBack : GoodIn wsX5_undo wsX1_takeBack := goodIn_r _ [8, 9, 10, 11, 12, 13, 14, 15, 16, 17, 18, 19, 20, 21, 22, 23, 24, 25, 26, 27, 28, 29, 30, 31, 32, 33, 34, 35, 36, 37, 38, 39, 40, 41, 42, 43, 44, 45, 46, 47, 48, 54, 55, 56, 57, 58, 59, 60, 61, 62, 63, 64, 65, 66, 67, 68, 69, 70, 71, 72, 73, 74, 75, 76, 77, 78] (by decide +kernel) (by decide +kernel)
set_option maxRecDepth 20000 in
theorem gX5_undo_X1_takeBack : GoodIn wsX5_undo (wsV RX5 155 RX1 yX1_takeBack wsX1_takeBack) := goodIn_app (goodIn_of _ (by decide +kernel)) ggX5_undo_X1_takeBack
theorem dX5_undo_0 : decode cX5_undo 0 = .ok (.aload_n 0, 1) := by decide +kernel
theorem dX5_undo_1 : decode cX5_undo 1 = .ok (.getfield 22, 3) := by decide +kernel
theorem dX5_undo_4 : decode cX5_undo 4 = .ok (.getfield 152, 3) := by decide +kernel
theorem dX5_undo_7 : decode cX5_undo 7 = .ok (.ifCond .ne 6, 3) := by decide +kernel
theorem dX5_undo_10 : decode cX5_undo 10 = .ok (.bipush (-4), 2) := by decide +kernel
theorem dX5_undo_12 : decode cX5_undo 12 = .ok (.ireturn, 1) := by decide +kernel
theorem dX5_undo_13 : decode cX5_undo 13 = .ok (.aload_n 0, 1) := by decide +kernel
theorem dX5_undo_14 : decode cX5_undo 14 = .ok (.getfield 22, 3) := by decide +kernel
theorem dX5_undo_17 : decode cX5_undo 17 = .ok (.aload_n 0, 1) := by decide +kernel
theorem dX5_undo_18 : decode cX5_undo 18 = .ok (.getfield 10, 3) := by decide +kernel
theorem dX5_undo_21 : decode cX5_undo 21 = .ok (.invokevirtual 155, 3) := by decide +kernel
theorem dX5_undo_24 : decode cX5_undo 24 = .ok (.aload_n 0, 1) := by decide +kernel
theorem dX5_undo_25 : decode cX5_undo 25 = .ok (.getfield 22, 3) := by decide +kernel
theorem dX5_undo_28 : decode cX5_undo 28 = .ok (.getfield 152, 3) := by decide +kernel
theorem dX5_undo_31 : decode cX5_undo 31 = .ok (.ireturn, 1) := by decide +kernel
set_option maxRecDepth 20000 in
theorem ggX5_keep_X5_isWithin : GoodIn wsX5_keep wsX5_isWithin := goodIn_r _ [9] (by decide +kernel) (by decide +kernel)
set_option maxRecDepth 20000 in
theorem gX5_keep_X5_isWithin : GoodIn wsX5_keep (va_wsS RX5 40 yX5_isWithin wsX5_isWithin) := goodIn_app (goodIn_of _ (by decide +kernel)) ggX5_keep_X5_isWithin
set_option maxRecDepth 20000 in
theorem ggX5_keep_X3_copyFrom : GoodIn wsX5_keep wsX3_copyFrom := goodIn_r _ [14, 15, 16, 17, 18, 19, 20, 21, 22, 23, 24, 25, 26, 27, 28, 29, 30, 31, 32, 33, 34, 35, 36, 37, 38, 39, 40, 41, 42, 43, 44, 45, 46, 54, 55, 56, 57, 58, 59, 60, 61, 62, 63, 64, 65, 66, 67, 68, 69, 70, 71, 72, 73, 74, 75] (by decide +kernel) (by decide +kernel)
set_option maxRecDepth 20000 in
theorem gX5_keep_X3_copyFrom : GoodIn wsX5_keep (wsV RX5 161 RX3 yX3_copyFrom wsX3_copyFrom) := goodIn_app (goodIn_of _ (by decide +kernel)) ggX5_keep_X3_copyFrom
theorem dX5_keep_0 : decode cX5_keep 0 = .ok (.iload_n 1, 1) := by decide +kernel
theorem dX5_keep_1 : decode cX5_keep 1 = .ok (.iconst 0, 1) := by decide +kernel
theorem dX5_keep_2 : decode cX5_keep 2 = .ok (.aload_n 0, 1) := by decide +kernel
theorem dX5_keep_3 : decode cX5_keep 3 = .ok (.getfield 28, 3) := by decide +kernel
theorem dX5_keep_6 : decode cX5_keep 6 = .ok (.arraylength, 1) := by decide +kernel
theorem dX5_keep_7 : decode cX5_keep 7 = .ok (.iconst 1, 1) := by decide +kernel
theorem dX5_keep_8 : decode cX5_keep 8 = .ok (.isub, 1) := by decide +kernel
theorem dX5_keep_9 : decode cX5_keep 9 = .ok (.invokestatic 40, 3) := by decide +kernel
theorem dX5_keep_12 : decode cX5_keep 12 = .ok (.ifCond .ne 5, 3) := by decide +kernel
theorem dX5_keep_15 : decode cX5_keep 15 = .ok (.iconst (-1), 1) := by decide +kernel
theorem dX5_keep_16 : decode cX5_keep 16 = .ok (.ireturn, 1) := by decide +kernel
theorem dX5_keep_17 : decode cX5_keep 17 = .ok (.aload_n 0, 1) := by decide +kernel
theorem dX5_keep_18 : decode cX5_keep 18 = .ok (.getfield 28, 3) := by decide +kernel
theorem dX5_keep_21 : decode cX5_keep 21 = .ok (.iload_n 1, 1) := by decide +kernel
theorem dX5_keep_22 : decode cX5_keep 22 = .ok (.aaload, 1) := by decide +kernel
theorem dX5_keep_23 : decode cX5_keep 23 = .ok (.getfield 158, 3) := by decide +kernel
theorem dX5_keep_26 : decode cX5_keep 26 = .ok (.aload_n 0, 1) := by decide +kernel
theorem dX5_keep_27 : decode cX5_keep 27 = .ok (.getfield 10, 3) := by decide +kernel
theorem dX5_keep_30 : decode cX5_keep 30 = .ok (.invokevirtual 161, 3) := by decide +kernel
theorem dX5_keep_33 : decode cX5_keep 33 = .ok (.aload_n 0, 1) := by decide +kernel
theorem dX5_keep_34 : decode cX5_keep 34 = .ok (.getfield 28, 3) := by decide +kernel
theorem dX5_keep_37 : decode cX5_keep 37 = .ok (.iload_n 1, 1) := by decide +kernel
theorem dX5_keep_38 : decode cX5_keep 38 = .ok (.aaload, 1) := by decide +kernel
theorem dX5_keep_39 : decode cX5_keep 39 = .ok (.iconst 1, 1) := by decide +kernel
theorem dX5_keep_40 : decode cX5_keep 40 = .ok (.putfield 164, 3) := by decide +kernel
theorem dX5_keep_43 : decode cX5_keep 43 = .ok (.aload_n 0, 1) := by decide +kernel
theorem dX5_keep_44 : decode cX5_keep 44 = .ok (.getfield 10, 3) := by decide +kernel
theorem dX5_keep_47 : decode cX5_keep 47 = .ok (.getfield 125, 3) := by decide +kernel
theorem dX5_keep_50 : decode cX5_keep 50 = .ok (.ireturn, 1) := by decide +kernel
set_option maxRecDepth 20000 in
theorem ggX5_restore_X5_isWithin : GoodIn wsX5_restore wsX5_isWithin := goodIn_r _ [10] (by decide +kernel) (by decide +kernel)
set_option maxRecDepth 20000 in
theorem gX5_restore_X5_isWithin : GoodIn wsX5_restore (va_wsS RX5 40 yX5_isWithin wsX5_isWithin) := goodIn_app (goodIn_of _ (by decide +kernel)) ggX5_restore_X5_isWithin
set_option maxRecDepth 20000 in
theorem ggX5_restore_X1_record : GoodIn wsX5_restore wsX1_record := goodIn_r _ [15, 16, 17, 18, 19, 20, 21, 22, 23, 24, 25, 26, 27, 28, 29, 30, 31, 32, 33, 34, 35, 36, 37, 38, 39, 40, 41, 42, 43, 44, 45, 46, 47, 48, 49, 50, 51, 52, 53, 54, 55, 56, 57, 58, 59, 81, 82, 83, 68, 69, 70, 71, 72, 73, 74, 75, 76, 77, 78, 79, 80, 84, 85, 86, 87, 88, 89, 90, 91, 92] (by decide +kernel) (by decide +kernel)
set_option maxRecDepth 20000 in
theorem gX5_restore_X1_record : GoodIn wsX5_restore (wsV RX5 44 RX1 yX1_record wsX1_record) := goodIn_app (goodIn_of _ (by decide +kernel)) ggX5_restore_X1_record
set_option maxRecDepth 20000 in
theorem ggX5_restore_X3_copyFrom : GoodIn wsX5_restore wsX3_copyFrom := goodIn_r _ [27, 28, 29, 30, 31, 32, 33, 34, 35, 36, 37, 38, 39, 40, 41, 42, 43, 44, 45, 46, 47, 48, 49, 50, 51, 52, 53, 54, 55, 56, 57, 58, 59, 68, 69, 70, 71, 72, 73, 74, 75, 76, 77, 78, 79, 80, 84, 85, 86, 87, 88, 89, 90, 91, 92] (by decide +kernel) (by decide +kernel)
set_option maxRecDepth 20000 in
theorem gX5_restore_X3_copyFrom : GoodIn wsX5_restore (wsV RX5 161 RX3 yX3_copyFrom wsX3_copyFrom) := goodIn_app (goodIn_of _ (by decide +kernel)) ggX5_restore_X3_copyFrom
theorem dX5_restore_0 : decode cX5_restore 0 = .ok (.iload_n 1, 1) := by decide +kernel
theorem dX5_restore_1 : decode cX5_restore 1 = .ok (.iconst 0, 1) := by decide +kernel
theorem dX5_restore_2 : decode cX5_restore 2 = .ok (.aload_n 0, 1) := by decide +kernel
theorem dX5_restore_3 : decode cX5_restore 3 = .ok (.getfield 28, 3) := by decide +kernel
theorem dX5_restore_6 : decode cX5_restore 6 = .ok (.arraylength, 1) := by decide +kernel
theorem dX5_restore_7 : decode cX5_restore 7 = .ok (.iconst 1, 1) := by decide +kernel
theorem dX5_restore_8 : decode cX5_restore 8 = .ok (.isub, 1) := by decide +kernel
theorem dX5_restore_9 : decode cX5_restore 9 = .ok (.invokestatic 40, 3) := by decide +kernel
theorem dX5_restore_12 : decode cX5_restore 12 = .ok (.ifCond .ne 5, 3) := by decide +kernel
theorem dX5_restore_15 : decode cX5_restore 15 = .ok (.iconst (-1), 1) := by decide +kernel
theorem dX5_restore_16 : decode cX5_restore 16 = .ok (.ireturn, 1) := by decide +kernel
theorem dX5_restore_17 : decode cX5_restore 17 = .ok (.aload_n 0, 1) := by decide +kernel
theorem dX5_restore_18 : decode cX5_restore 18 = .ok (.getfield 28, 3) := by decide +kernel
theorem dX5_restore_21 : decode cX5_restore 21 = .ok (.iload_n 1, 1) := by decide +kernel
theorem dX5_restore_22 : decode cX5_restore 22 = .ok (.aaload, 1) := by decide +kernel
theorem dX5_restore_23 : decode cX5_restore 23 = .ok (.getfield 164, 3) := by decide +kernel
theorem dX5_restore_26 : decode cX5_restore 26 = .ok (.ifCond .ne 6, 3) := by decide +kernel
theorem dX5_restore_29 : decode cX5_restore 29 = .ok (.bipush (-4), 2) := by decide +kernel
theorem dX5_restore_31 : decode cX5_restore 31 = .ok (.ireturn, 1) := by decide +kernel
theorem dX5_restore_32 : decode cX5_restore 32 = .ok (.aload_n 0, 1) := by decide +kernel
theorem dX5_restore_33 : decode cX5_restore 33 = .ok (.getfield 22, 3) := by decide +kernel
theorem dX5_restore_36 : decode cX5_restore 36 = .ok (.aload_n 0, 1) := by decide +kernel
theorem dX5_restore_37 : decode cX5_restore 37 = .ok (.getfield 10, 3) := by decide +kernel
theorem dX5_restore_40 : decode cX5_restore 40 = .ok (.invokevirtual 44, 3) := by decide +kernel
theorem dX5_restore_43 : decode cX5_restore 43 = .ok (.aload_n 0, 1) := by decide +kernel
theorem dX5_restore_44 : decode cX5_restore 44 = .ok (.getfield 10, 3) := by decide +kernel
theorem dX5_restore_47 : decode cX5_restore 47 = .ok (.aload_n 0, 1) := by decide +kernel
theorem dX5_restore_48 : decode cX5_restore 48 = .ok (.getfield 28, 3) := by decide +kernel
theorem dX5_restore_51 : decode cX5_restore 51 = .ok (.iload_n 1, 1) := by decide +kernel
theorem dX5_restore_52 : decode cX5_restore 52 = .ok (.aaload, 1) := by decide +kernel
theorem dX5_restore_53 : decode cX5_restore 53 = .ok (.getfield 158, 3) := by decide +kernel
theorem dX5_restore_56 : decode cX5_restore 56 = .ok (.invokevirtual 161, 3) := by decide +kernel
theorem dX5_restore_59 : decode cX5_restore 59 = .ok (.aload_n 0, 1) := by decide +kernel
theorem dX5_restore_60 : decode cX5_restore 60 = .ok (.getfield 10, 3) := by decide +kernel
theorem dX5_restore_63 : decode cX5_restore 63 = .ok (.getfield 125, 3) := by decide +kernel
theorem dX5_restore_66 : decode cX5_restore 66 = .ok (.ireturn, 1) := by decide +kernel
set_option maxRecDepth 20000 in
theorem ggX5_digit_X3_find : GoodIn wsX5_digit wsX3_find := goodIn_r _ [14, 15, 16, 17, 18, 19, 65, 66, 67, 68, 69, 70, 71, 72, 73, 74, 75, 76, 77] (by decide +kernel) (by decide +kernel)
set_option maxRecDepth 20000 in
theorem gX5_digit_X3_find : GoodIn wsX5_digit (wsV RX5 56 RX3 yX3_find wsX3_find) := goodIn_app (goodIn_of _ (by decide +kernel)) ggX5_digit_X3_find
set_option maxRecDepth 20000 in
theorem ggX5_digit_X0_litPart : GoodIn wsX5_digit wsX0_litPart := goodIn_r _ [24, 25, 26, 27, 28, 23, 29, 30, 31, 56, 57, 58, 59, 60, 61, 62, 63, 64] (by decide +kernel) (by decide +kernel)
set_option maxRecDepth 20000 in
theorem gX5_digit_X0_litPart : GoodIn wsX5_digit (wsV RX5 73 RX0 yX0_litPart wsX0_litPart) := goodIn_app (goodIn_of _ (by decide +kernel)) ggX5_digit_X0_litPart
set_option maxRecDepth 20000 in
theorem ggX5_digit_X3_slotStart : GoodIn wsX5_digit wsX3_slotStart := goodIn_r _ [35, 16, 36, 65, 66, 67, 68, 69, 70, 71, 72, 73, 74, 75, 76, 77, 56, 57, 58, 59, 60, 61, 62, 63, 64] (by decide +kernel) (by decide +kernel)
set_option maxRecDepth 20000 in
theorem gX5_digit_X3_slotStart : GoodIn wsX5_digit (wsV RX5 171 RX3 yX3_slotStart wsX3_slotStart) := goodIn_app (goodIn_of _ (by decide +kernel)) ggX5_digit_X3_slotStart
set_option maxRecDepth 20000 in
theorem ggX5_digit_X0_seen : GoodIn wsX5_digit wsX0_seen := goodIn_r _ [40, 41, 56, 57, 58, 59, 60, 61, 62, 63, 64] (by decide +kernel) (by decide +kernel)
set_option maxRecDepth 20000 in
theorem gX5_digit_X0_seen : GoodIn wsX5_digit (wsV RX5 174 RX0 yX0_seen wsX0_seen) := goodIn_app (goodIn_of _ (by decide +kernel)) ggX5_digit_X0_seen
set_option maxRecDepth 20000 in
theorem ggX5_digit_X0_glowSum : GoodIn wsX5_digit wsX0_glowSum := goodIn_r _ [45, 41, 56, 57, 58, 59, 60, 61, 62, 63, 64] (by decide +kernel) (by decide +kernel)
set_option maxRecDepth 20000 in
theorem gX5_digit_X0_glowSum : GoodIn wsX5_digit (wsV RX5 177 RX0 yX0_glowSum wsX0_glowSum) := goodIn_app (goodIn_of _ (by decide +kernel)) ggX5_digit_X0_glowSum
set_option maxRecDepth 20000 in
theorem ggX5_digit_X5_characterOf : GoodIn wsX5_digit wsX5_characterOf := goodIn_r _ [48, 49, 50] (by decide +kernel) (by decide +kernel)
set_option maxRecDepth 20000 in
theorem gX5_digit_X5_characterOf : GoodIn wsX5_digit (va_wsS RX5 180 yX5_characterOf wsX5_characterOf) := goodIn_app (goodIn_of _ (by decide +kernel)) ggX5_digit_X5_characterOf
theorem dX5_digit_0 : decode cX5_digit 0 = .ok (.aload_n 0, 1) := by decide +kernel
theorem dX5_digit_1 : decode cX5_digit 1 = .ok (.getfield 10, 3) := by decide +kernel
theorem dX5_digit_4 : decode cX5_digit 4 = .ok (.iload_n 1, 1) := by decide +kernel
theorem dX5_digit_5 : decode cX5_digit 5 = .ok (.invokevirtual 56, 3) := by decide +kernel
theorem dX5_digit_8 : decode cX5_digit 8 = .ok (.astore_n 3, 1) := by decide +kernel
theorem dX5_digit_9 : decode cX5_digit 9 = .ok (.aload_n 3, 1) := by decide +kernel
theorem dX5_digit_10 : decode cX5_digit 10 = .ok (.ifnonnull 5, 3) := by decide +kernel
theorem dX5_digit_13 : decode cX5_digit 13 = .ok (.iconst (-1), 1) := by decide +kernel
theorem dX5_digit_14 : decode cX5_digit 14 = .ok (.ireturn, 1) := by decide +kernel
theorem dX5_digit_15 : decode cX5_digit 15 = .ok (.iload_n 2, 1) := by decide +kernel
theorem dX5_digit_16 : decode cX5_digit 16 = .ok (.tableswitch 144 0 11 #[64, 69, 74, 79, 84, 89, 94, 103, 117, 122, 127, 139], 64) := by decide +kernel
theorem dX5_digit_80 : decode cX5_digit 80 = .ok (.aload_n 3, 1) := by decide +kernel
theorem dX5_digit_81 : decode cX5_digit 81 = .ok (.getfield 79, 3) := by decide +kernel
theorem dX5_digit_84 : decode cX5_digit 84 = .ok (.ireturn, 1) := by decide +kernel
theorem dX5_digit_85 : decode cX5_digit 85 = .ok (.aload_n 3, 1) := by decide +kernel
theorem dX5_digit_86 : decode cX5_digit 86 = .ok (.getfield 168, 3) := by decide +kernel
theorem dX5_digit_89 : decode cX5_digit 89 = .ok (.ireturn, 1) := by decide +kernel
theorem dX5_digit_90 : decode cX5_digit 90 = .ok (.aload_n 3, 1) := by decide +kernel
theorem dX5_digit_91 : decode cX5_digit 91 = .ok (.getfield 68, 3) := by decide +kernel
theorem dX5_digit_94 : decode cX5_digit 94 = .ok (.ireturn, 1) := by decide +kernel
theorem dX5_digit_95 : decode cX5_digit 95 = .ok (.aload_n 3, 1) := by decide +kernel
theorem dX5_digit_96 : decode cX5_digit 96 = .ok (.getfield 76, 3) := by decide +kernel
theorem dX5_digit_99 : decode cX5_digit 99 = .ok (.ireturn, 1) := by decide +kernel
theorem dX5_digit_100 : decode cX5_digit 100 = .ok (.aload_n 3, 1) := by decide +kernel
theorem dX5_digit_101 : decode cX5_digit 101 = .ok (.getfield 82, 3) := by decide +kernel
theorem dX5_digit_104 : decode cX5_digit 104 = .ok (.ireturn, 1) := by decide +kernel
theorem dX5_digit_105 : decode cX5_digit 105 = .ok (.aload_n 3, 1) := by decide +kernel
theorem dX5_digit_106 : decode cX5_digit 106 = .ok (.invokevirtual 73, 3) := by decide +kernel
theorem dX5_digit_109 : decode cX5_digit 109 = .ok (.ireturn, 1) := by decide +kernel
theorem dX5_digit_110 : decode cX5_digit 110 = .ok (.aload_n 0, 1) := by decide +kernel
theorem dX5_digit_111 : decode cX5_digit 111 = .ok (.getfield 10, 3) := by decide +kernel
theorem dX5_digit_114 : decode cX5_digit 114 = .ok (.iload_n 1, 1) := by decide +kernel
theorem dX5_digit_115 : decode cX5_digit 115 = .ok (.invokevirtual 171, 3) := by decide +kernel
theorem dX5_digit_118 : decode cX5_digit 118 = .ok (.ireturn, 1) := by decide +kernel
theorem dX5_digit_119 : decode cX5_digit 119 = .ok (.aload_n 3, 1) := by decide +kernel
theorem dX5_digit_120 : decode cX5_digit 120 = .ok (.aload_n 0, 1) := by decide +kernel
theorem dX5_digit_121 : decode cX5_digit 121 = .ok (.getfield 10, 3) := by decide +kernel
theorem dX5_digit_124 : decode cX5_digit 124 = .ok (.getfield 102, 3) := by decide +kernel
theorem dX5_digit_127 : decode cX5_digit 127 = .ok (.iconst 1, 1) := by decide +kernel
theorem dX5_digit_128 : decode cX5_digit 128 = .ok (.iaload, 1) := by decide +kernel
theorem dX5_digit_129 : decode cX5_digit 129 = .ok (.invokevirtual 174, 3) := by decide +kernel
theorem dX5_digit_132 : decode cX5_digit 132 = .ok (.ireturn, 1) := by decide +kernel
theorem dX5_digit_133 : decode cX5_digit 133 = .ok (.aload_n 3, 1) := by decide +kernel
theorem dX5_digit_134 : decode cX5_digit 134 = .ok (.getfield 105, 3) := by decide +kernel
theorem dX5_digit_137 : decode cX5_digit 137 = .ok (.ireturn, 1) := by decide +kernel
theorem dX5_digit_138 : decode cX5_digit 138 = .ok (.aload_n 3, 1) := by decide +kernel
theorem dX5_digit_139 : decode cX5_digit 139 = .ok (.invokevirtual 177, 3) := by decide +kernel
theorem dX5_digit_142 : decode cX5_digit 142 = .ok (.ireturn, 1) := by decide +kernel
theorem dX5_digit_143 : decode cX5_digit 143 = .ok (.aload_n 3, 1) := by decide +kernel
theorem dX5_digit_144 : decode cX5_digit 144 = .ok (.getfield 79, 3) := by decide +kernel
theorem dX5_digit_147 : decode cX5_digit 147 = .ok (.sipush (-129), 3) := by decide +kernel
theorem dX5_digit_150 : decode cX5_digit 150 = .ok (.iand, 1) := by decide +kernel
theorem dX5_digit_151 : decode cX5_digit 151 = .ok (.invokestatic 180, 3) := by decide +kernel
theorem dX5_digit_154 : decode cX5_digit 154 = .ok (.ireturn, 1) := by decide +kernel
theorem dX5_digit_155 : decode cX5_digit 155 = .ok (.aload_n 3, 1) := by decide +kernel
theorem dX5_digit_156 : decode cX5_digit 156 = .ok (.getfield 183, 3) := by decide +kernel
theorem dX5_digit_159 : decode cX5_digit 159 = .ok (.ireturn, 1) := by decide +kernel
theorem dX5_digit_160 : decode cX5_digit 160 = .ok (.bipush (-2), 2) := by decide +kernel
theorem dX5_digit_162 : decode cX5_digit 162 = .ok (.ireturn, 1) := by decide +kernel
set_option maxRecDepth 20000 in
theorem ggX5_segment_X3_find : GoodIn wsX5_segment wsX3_find := goodIn_r _ [10, 11, 12, 13, 14, 15, 37, 38, 39, 40, 41, 42, 43, 44, 45, 46, 47, 48, 49] (by decide +kernel) (by decide +kernel)
set_option maxRecDepth 20000 in
theorem gX5_segment_X3_find : GoodIn wsX5_segment (wsV RX5 56 RX3 yX3_find wsX3_find) := goodIn_app (goodIn_of _ (by decide +kernel)) ggX5_segment_X3_find
set_option maxRecDepth 20000 in
theorem ggX5_segment_X5_isWithin : GoodIn wsX5_segment wsX5_isWithin := goodIn_r _ [15] (by decide +kernel) (by decide +kernel)
set_option maxRecDepth 20000 in
theorem gX5_segment_X5_isWithin : GoodIn wsX5_segment (va_wsS RX5 40 yX5_isWithin wsX5_isWithin) := goodIn_app (goodIn_of _ (by decide +kernel)) ggX5_segment_X5_isWithin
set_option maxRecDepth 20000 in
theorem ggX5_segment_X0_seen : GoodIn wsX5_segment wsX0_seen := goodIn_r _ [21, 22, 28, 29, 30, 31, 32, 33, 34, 35, 36] (by decide +kernel) (by decide +kernel)
set_option maxRecDepth 20000 in
theorem gX5_segment_X0_seen : GoodIn wsX5_segment (wsV RX5 174 RX0 yX0_seen wsX0_seen) := goodIn_app (goodIn_of _ (by decide +kernel)) ggX5_segment_X0_seen
theorem dX5_segment_0 : decode cX5_segment 0 = .ok (.aload_n 0, 1) := by decide +kernel
theorem dX5_segment_1 : decode cX5_segment 1 = .ok (.getfield 10, 3) := by decide +kernel
theorem dX5_segment_4 : decode cX5_segment 4 = .ok (.iload_n 1, 1) := by decide +kernel
theorem dX5_segment_5 : decode cX5_segment 5 = .ok (.invokevirtual 56, 3) := by decide +kernel
theorem dX5_segment_8 : decode cX5_segment 8 = .ok (.astore 4, 2) := by decide +kernel
theorem dX5_segment_10 : decode cX5_segment 10 = .ok (.aload 4, 2) := by decide +kernel
theorem dX5_segment_12 : decode cX5_segment 12 = .ok (.ifnull 13, 3) := by decide +kernel
theorem dX5_segment_15 : decode cX5_segment 15 = .ok (.iload_n 2, 1) := by decide +kernel
theorem dX5_segment_16 : decode cX5_segment 16 = .ok (.iconst 0, 1) := by decide +kernel
theorem dX5_segment_17 : decode cX5_segment 17 = .ok (.bipush 7, 2) := by decide +kernel
theorem dX5_segment_19 : decode cX5_segment 19 = .ok (.invokestatic 40, 3) := by decide +kernel
theorem dX5_segment_22 : decode cX5_segment 22 = .ok (.ifCond .ne 5, 3) := by decide +kernel
theorem dX5_segment_25 : decode cX5_segment 25 = .ok (.iconst (-1), 1) := by decide +kernel
theorem dX5_segment_26 : decode cX5_segment 26 = .ok (.ireturn, 1) := by decide +kernel
theorem dX5_segment_27 : decode cX5_segment 27 = .ok (.iload_n 3, 1) := by decide +kernel
theorem dX5_segment_28 : decode cX5_segment 28 = .ok (.tableswitch 77 0 3 #[32, 40, 48, 58], 32) := by decide +kernel
theorem dX5_segment_60 : decode cX5_segment 60 = .ok (.aload 4, 2) := by decide +kernel
theorem dX5_segment_62 : decode cX5_segment 62 = .ok (.getfield 186, 3) := by decide +kernel
theorem dX5_segment_65 : decode cX5_segment 65 = .ok (.iload_n 2, 1) := by decide +kernel
theorem dX5_segment_66 : decode cX5_segment 66 = .ok (.iaload, 1) := by decide +kernel
theorem dX5_segment_67 : decode cX5_segment 67 = .ok (.ireturn, 1) := by decide +kernel
theorem dX5_segment_68 : decode cX5_segment 68 = .ok (.aload 4, 2) := by decide +kernel
theorem dX5_segment_70 : decode cX5_segment 70 = .ok (.getfield 189, 3) := by decide +kernel
theorem dX5_segment_73 : decode cX5_segment 73 = .ok (.iload_n 2, 1) := by decide +kernel
theorem dX5_segment_74 : decode cX5_segment 74 = .ok (.iaload, 1) := by decide +kernel
theorem dX5_segment_75 : decode cX5_segment 75 = .ok (.ireturn, 1) := by decide +kernel
theorem dX5_segment_76 : decode cX5_segment 76 = .ok (.aload 4, 2) := by decide +kernel
theorem dX5_segment_78 : decode cX5_segment 78 = .ok (.getfield 105, 3) := by decide +kernel
theorem dX5_segment_81 : decode cX5_segment 81 = .ok (.iload_n 2, 1) := by decide +kernel
theorem dX5_segment_82 : decode cX5_segment 82 = .ok (.ishr, 1) := by decide +kernel
theorem dX5_segment_83 : decode cX5_segment 83 = .ok (.iconst 1, 1) := by decide +kernel
theorem dX5_segment_84 : decode cX5_segment 84 = .ok (.iand, 1) := by decide +kernel
theorem dX5_segment_85 : decode cX5_segment 85 = .ok (.ireturn, 1) := by decide +kernel
theorem dX5_segment_86 : decode cX5_segment 86 = .ok (.aload 4, 2) := by decide +kernel
theorem dX5_segment_88 : decode cX5_segment 88 = .ok (.aload_n 0, 1) := by decide +kernel
theorem dX5_segment_89 : decode cX5_segment 89 = .ok (.getfield 10, 3) := by decide +kernel
theorem dX5_segment_92 : decode cX5_segment 92 = .ok (.getfield 102, 3) := by decide +kernel
theorem dX5_segment_95 : decode cX5_segment 95 = .ok (.iconst 1, 1) := by decide +kernel
theorem dX5_segment_96 : decode cX5_segment 96 = .ok (.iaload, 1) := by decide +kernel
theorem dX5_segment_97 : decode cX5_segment 97 = .ok (.invokevirtual 174, 3) := by decide +kernel
theorem dX5_segment_100 : decode cX5_segment 100 = .ok (.iload_n 2, 1) := by decide +kernel
theorem dX5_segment_101 : decode cX5_segment 101 = .ok (.ishr, 1) := by decide +kernel
theorem dX5_segment_102 : decode cX5_segment 102 = .ok (.iconst 1, 1) := by decide +kernel
theorem dX5_segment_103 : decode cX5_segment 103 = .ok (.iand, 1) := by decide +kernel
theorem dX5_segment_104 : decode cX5_segment 104 = .ok (.ireturn, 1) := by decide +kernel
theorem dX5_segment_105 : decode cX5_segment 105 = .ok (.bipush (-2), 2) := by decide +kernel
theorem dX5_segment_107 : decode cX5_segment 107 = .ok (.ireturn, 1) := by decide +kernel
set_option maxRecDepth 20000 in
theorem ggX5_litIn_X3_find : GoodIn wsX5_litIn wsX3_find := goodIn_r _ [7, 8, 9, 10, 11, 12, 130, 131, 132, 133, 134, 135, 136, 137, 138, 139, 140, 141, 142] (by decide +kernel) (by decide +kernel)
set_option maxRecDepth 20000 in
theorem gX5_litIn_X3_find : GoodIn wsX5_litIn (wsV RX5 56 RX3 yX3_find wsX3_find) := goodIn_app (goodIn_of _ (by decide +kernel)) ggX5_litIn_X3_find
set_option maxRecDepth 20000 in
theorem ggX5_litIn_X5_isWithin : GoodIn wsX5_litIn wsX5_isWithin := goodIn_r _ [12] (by decide +kernel) (by decide +kernel)
set_option maxRecDepth 20000 in
theorem gX5_litIn_X5_isWithin : GoodIn wsX5_litIn (va_wsS RX5 40 yX5_isWithin wsX5_isWithin) := goodIn_app (goodIn_of _ (by decide +kernel)) ggX5_litIn_X5_isWithin
set_option maxRecDepth 20000 in
theorem ggX5_litIn_X3_copyFrom : GoodIn wsX5_litIn wsX3_copyFrom := goodIn_r _ [17, 9, 8, 18, 19, 20, 21, 22, 23, 24, 25, 26, 27, 28, 29, 30, 31, 32, 33, 34, 35, 36, 37, 38, 39, 40, 41, 42, 43, 44, 45, 46, 47, 130, 131, 132, 133, 134, 135, 136, 137, 138, 139, 140, 141, 142, 143, 144, 145, 146, 147, 148, 149, 150, 151] (by decide +kernel) (by decide +kernel)
set_option maxRecDepth 20000 in
theorem gX5_litIn_X3_copyFrom : GoodIn wsX5_litIn (wsV RX5 161 RX3 yX3_copyFrom wsX3_copyFrom) := goodIn_app (goodIn_of _ (by decide +kernel)) ggX5_litIn_X3_copyFrom
set_option maxRecDepth 20000 in
theorem ggX5_litIn_X3_runTicks : GoodIn wsX5_litIn wsX3_runTicks := goodIn_r _ [51, 52, 53, 54, 6, 55, 9, 56, 29, 8, 24, 25, 27, 57, 58, 59, 60, 61, 62, 63, 64, 65, 28, 66, 67, 68, 69, 70, 71, 72, 73, 74, 75, 76, 36, 77, 38, 39, 78, 79, 80, 81, 82, 83, 84, 85, 18, 23, 26, 86, 87, 88, 89, 45, 47, 44, 90, 11, 91, 92, 93, 94, 95, 96, 97, 98, 99, 100, 101, 102, 103, 104, 105, 106, 107, 108, 109, 110, 111, 30, 112, 113, 31, 32, 114, 115, 116, 117, 118, 119, 120, 121, 122, 130, 131, 132, 133, 134, 135, 136, 137, 138, 139, 140, 141, 142, 143, 144, 145, 146, 147, 148, 149, 150, 151] (by decide +kernel) (by decide +kernel)
set_option maxRecDepth 20000 in
theorem gX5_litIn_X3_runTicks : GoodIn wsX5_litIn (wsV RX5 119 RX3 yX3_runTicks wsX3_runTicks) := goodIn_app (goodIn_of _ (by decide +kernel)) ggX5_litIn_X3_runTicks
set_option maxRecDepth 20000 in
theorem ggX5_litIn_X3_slotNow : GoodIn wsX5_litIn wsX3_slotNow := goodIn_r _ [60, 9, 61, 8, 27, 130, 131, 132, 133, 134, 135, 136, 137, 138, 139, 140, 141, 142, 143, 144, 145, 146, 147, 148, 149, 150, 151] (by decide +kernel) (by decide +kernel)
set_option maxRecDepth 20000 in
theorem gX5_litIn_X3_slotNow : GoodIn wsX5_litIn (wsV RX5 192 RX3 yX3_slotNow wsX3_slotNow) := goodIn_app (goodIn_of _ (by decide +kernel)) ggX5_litIn_X3_slotNow
set_option maxRecDepth 20000 in
theorem ggX5_litIn_X3_litNext : GoodIn wsX5_litIn wsX3_litNext := goodIn_r _ [65, 28, 9, 66, 67, 57, 58, 59, 6, 60, 61, 8, 27, 68, 69, 70, 71, 72, 73, 74, 75, 76, 36, 77, 38, 39, 78, 79, 80, 81, 82, 83, 84, 85, 18, 23, 26, 130, 131, 132, 133, 134, 135, 136, 137, 138, 139, 140, 141, 142, 143, 144, 145, 146, 147, 148, 149, 150, 151] (by decide +kernel) (by decide +kernel)
set_option maxRecDepth 20000 in
theorem gX5_litIn_X3_litNext : GoodIn wsX5_litIn (wsV RX5 195 RX3 yX3_litNext wsX3_litNext) := goodIn_app (goodIn_of _ (by decide +kernel)) ggX5_litIn_X3_litNext
theorem dX5_litIn_0 : decode cX5_litIn 0 = .ok (.aload_n 0, 1) := by decide +kernel
theorem dX5_litIn_1 : decode cX5_litIn 1 = .ok (.getfield 10, 3) := by decide +kernel
theorem dX5_litIn_4 : decode cX5_litIn 4 = .ok (.iload_n 1, 1) := by decide +kernel
theorem dX5_litIn_5 : decode cX5_litIn 5 = .ok (.invokevirtual 56, 3) := by decide +kernel
theorem dX5_litIn_8 : decode cX5_litIn 8 = .ok (.ifnonnull 5, 3) := by decide +kernel
theorem dX5_litIn_11 : decode cX5_litIn 11 = .ok (.iconst (-1), 1) := by decide +kernel
theorem dX5_litIn_12 : decode cX5_litIn 12 = .ok (.ireturn, 1) := by decide +kernel
theorem dX5_litIn_13 : decode cX5_litIn 13 = .ok (.iload_n 2, 1) := by decide +kernel
theorem dX5_litIn_14 : decode cX5_litIn 14 = .ok (.iconst 0, 1) := by decide +kernel
theorem dX5_litIn_15 : decode cX5_litIn 15 = .ok (.sipush 500, 3) := by decide +kernel
theorem dX5_litIn_18 : decode cX5_litIn 18 = .ok (.invokestatic 40, 3) := by decide +kernel
theorem dX5_litIn_21 : decode cX5_litIn 21 = .ok (.ifCond .ne 6, 3) := by decide +kernel
theorem dX5_litIn_24 : decode cX5_litIn 24 = .ok (.bipush (-2), 2) := by decide +kernel
theorem dX5_litIn_26 : decode cX5_litIn 26 = .ok (.ireturn, 1) := by decide +kernel
theorem dX5_litIn_27 : decode cX5_litIn 27 = .ok (.aload_n 0, 1) := by decide +kernel
theorem dX5_litIn_28 : decode cX5_litIn 28 = .ok (.getfield 16, 3) := by decide +kernel
theorem dX5_litIn_31 : decode cX5_litIn 31 = .ok (.aload_n 0, 1) := by decide +kernel
theorem dX5_litIn_32 : decode cX5_litIn 32 = .ok (.getfield 10, 3) := by decide +kernel
theorem dX5_litIn_35 : decode cX5_litIn 35 = .ok (.invokevirtual 161, 3) := by decide +kernel
theorem dX5_litIn_38 : decode cX5_litIn 38 = .ok (.aload_n 0, 1) := by decide +kernel
theorem dX5_litIn_39 : decode cX5_litIn 39 = .ok (.getfield 16, 3) := by decide +kernel
theorem dX5_litIn_42 : decode cX5_litIn 42 = .ok (.iload_n 2, 1) := by decide +kernel
theorem dX5_litIn_43 : decode cX5_litIn 43 = .ok (.invokevirtual 119, 3) := by decide +kernel
theorem dX5_litIn_46 : decode cX5_litIn 46 = .ok (.pop, 1) := by decide +kernel
theorem dX5_litIn_47 : decode cX5_litIn 47 = .ok (.aload_n 0, 1) := by decide +kernel
theorem dX5_litIn_48 : decode cX5_litIn 48 = .ok (.getfield 16, 3) := by decide +kernel
theorem dX5_litIn_51 : decode cX5_litIn 51 = .ok (.invokevirtual 192, 3) := by decide +kernel
theorem dX5_litIn_54 : decode cX5_litIn 54 = .ok (.iload_n 1, 1) := by decide +kernel
theorem dX5_litIn_55 : decode cX5_litIn 55 = .ok (.if_icmp .ne 13, 3) := by decide +kernel
theorem dX5_litIn_58 : decode cX5_litIn 58 = .ok (.aload_n 0, 1) := by decide +kernel
theorem dX5_litIn_59 : decode cX5_litIn 59 = .ok (.getfield 16, 3) := by decide +kernel
theorem dX5_litIn_62 : decode cX5_litIn 62 = .ok (.invokevirtual 195, 3) := by decide +kernel
theorem dX5_litIn_65 : decode cX5_litIn 65 = .ok (.goto 4, 3) := by decide +kernel
theorem dX5_litIn_68 : decode cX5_litIn 68 = .ok (.iconst 0, 1) := by decide +kernel
theorem dX5_litIn_69 : decode cX5_litIn 69 = .ok (.ireturn, 1) := by decide +kernel
set_option maxRecDepth 20000 in
theorem ggX5_steadyGlow_X3_find : GoodIn wsX5_steadyGlow wsX3_find := goodIn_r _ [7, 8, 9, 10, 11, 12, 55, 56, 57, 58, 59, 60, 61, 62, 63, 64, 65, 66, 67] (by decide +kernel) (by decide +kernel)
set_option maxRecDepth 20000 in
theorem gX5_steadyGlow_X3_find : GoodIn wsX5_steadyGlow (wsV RX5 56 RX3 yX3_find wsX3_find) := goodIn_app (goodIn_of _ (by decide +kernel)) ggX5_steadyGlow_X3_find
set_option maxRecDepth 20000 in
theorem ggX5_steadyGlow_X0_litPart : GoodIn wsX5_steadyGlow wsX0_litPart := goodIn_r _ [17, 18, 19, 20, 21, 16, 22, 23, 24, 68, 69, 70, 71, 72, 73, 74, 75, 76] (by decide +kernel) (by decide +kernel)
set_option maxRecDepth 20000 in
theorem gX5_steadyGlow_X0_litPart : GoodIn wsX5_steadyGlow (wsV RX5 73 RX0 yX0_litPart wsX0_litPart) := goodIn_app (goodIn_of _ (by decide +kernel)) ggX5_steadyGlow_X0_litPart
set_option maxRecDepth 20000 in
theorem ggX5_steadyGlow_X3_frameLength : GoodIn wsX5_steadyGlow wsX3_frameLength := goodIn_r _ [28, 8, 29, 30, 31, 6, 32, 9, 33, 55, 56, 57, 58, 59, 60, 61, 62, 63, 64, 65, 66, 67, 68, 69, 70, 71, 72, 73, 74, 75, 76] (by decide +kernel) (by decide +kernel)
set_option maxRecDepth 20000 in
theorem gX5_steadyGlow_X3_frameLength : GoodIn wsX5_steadyGlow (wsV RX5 64 RX3 yX3_frameLength wsX3_frameLength) := goodIn_app (goodIn_of _ (by decide +kernel)) ggX5_steadyGlow_X3_frameLength
set_option maxRecDepth 20000 in
theorem ggX5_steadyGlow_X5_glowOfFrames : GoodIn wsX5_steadyGlow wsX5_glowOfFrames := goodIn_r _ [36, 37, 38, 11, 39, 40, 41, 42, 43, 44, 45, 46, 47, 48, 49] (by decide +kernel) (by decide +kernel)
set_option maxRecDepth 20000 in
theorem gX5_steadyGlow_X5_glowOfFrames : GoodIn wsX5_steadyGlow (va_wsS RX5 198 yX5_glowOfFrames wsX5_glowOfFrames) := goodIn_app (goodIn_of _ (by decide +kernel)) ggX5_steadyGlow_X5_glowOfFrames
theorem dX5_steadyGlow_0 : decode cX5_steadyGlow 0 = .ok (.aload_n 0, 1) := by decide +kernel
theorem dX5_steadyGlow_1 : decode cX5_steadyGlow 1 = .ok (.getfield 10, 3) := by decide +kernel
theorem dX5_steadyGlow_4 : decode cX5_steadyGlow 4 = .ok (.iload_n 1, 1) := by decide +kernel
theorem dX5_steadyGlow_5 : decode cX5_steadyGlow 5 = .ok (.invokevirtual 56, 3) := by decide +kernel
theorem dX5_steadyGlow_8 : decode cX5_steadyGlow 8 = .ok (.astore_n 2, 1) := by decide +kernel
theorem dX5_steadyGlow_9 : decode cX5_steadyGlow 9 = .ok (.aload_n 2, 1) := by decide +kernel
theorem dX5_steadyGlow_10 : decode cX5_steadyGlow 10 = .ok (.ifnonnull 5, 3) := by decide +kernel
theorem dX5_steadyGlow_13 : decode cX5_steadyGlow 13 = .ok (.iconst (-1), 1) := by decide +kernel
theorem dX5_steadyGlow_14 : decode cX5_steadyGlow 14 = .ok (.ireturn, 1) := by decide +kernel
theorem dX5_steadyGlow_15 : decode cX5_steadyGlow 15 = .ok (.aload_n 2, 1) := by decide +kernel
theorem dX5_steadyGlow_16 : decode cX5_steadyGlow 16 = .ok (.invokevirtual 73, 3) := by decide +kernel
theorem dX5_steadyGlow_19 : decode cX5_steadyGlow 19 = .ok (.istore_n 3, 1) := by decide +kernel
theorem dX5_steadyGlow_20 : decode cX5_steadyGlow 20 = .ok (.iload_n 3, 1) := by decide +kernel
theorem dX5_steadyGlow_21 : decode cX5_steadyGlow 21 = .ok (.ifCond .ne 5, 3) := by decide +kernel
theorem dX5_steadyGlow_24 : decode cX5_steadyGlow 24 = .ok (.iconst 0, 1) := by decide +kernel
theorem dX5_steadyGlow_25 : decode cX5_steadyGlow 25 = .ok (.ireturn, 1) := by decide +kernel
theorem dX5_steadyGlow_26 : decode cX5_steadyGlow 26 = .ok (.iload_n 3, 1) := by decide +kernel
theorem dX5_steadyGlow_27 : decode cX5_steadyGlow 27 = .ok (.aload_n 0, 1) := by decide +kernel
theorem dX5_steadyGlow_28 : decode cX5_steadyGlow 28 = .ok (.getfield 10, 3) := by decide +kernel
theorem dX5_steadyGlow_31 : decode cX5_steadyGlow 31 = .ok (.invokevirtual 64, 3) := by decide +kernel
theorem dX5_steadyGlow_34 : decode cX5_steadyGlow 34 = .ok (.iload_n 3, 1) := by decide +kernel
theorem dX5_steadyGlow_35 : decode cX5_steadyGlow 35 = .ok (.isub, 1) := by decide +kernel
theorem dX5_steadyGlow_36 : decode cX5_steadyGlow 36 = .ok (.aload_n 0, 1) := by decide +kernel
theorem dX5_steadyGlow_37 : decode cX5_steadyGlow 37 = .ok (.getfield 10, 3) := by decide +kernel
theorem dX5_steadyGlow_40 : decode cX5_steadyGlow 40 = .ok (.getfield 102, 3) := by decide +kernel
theorem dX5_steadyGlow_43 : decode cX5_steadyGlow 43 = .ok (.iconst 0, 1) := by decide +kernel
theorem dX5_steadyGlow_44 : decode cX5_steadyGlow 44 = .ok (.iaload, 1) := by decide +kernel
theorem dX5_steadyGlow_45 : decode cX5_steadyGlow 45 = .ok (.invokestatic 198, 3) := by decide +kernel
theorem dX5_steadyGlow_48 : decode cX5_steadyGlow 48 = .ok (.ireturn, 1) := by decide +kernel
theorem dX5_current_0 : decode cX5_current 0 = .ok (.iload_n 1, 1) := by decide +kernel
theorem dX5_current_1 : decode cX5_current 1 = .ok (.tableswitch 51 0 2 #[27, 35, 43], 27) := by decide +kernel
theorem dX5_current_28 : decode cX5_current 28 = .ok (.aload_n 0, 1) := by decide +kernel
theorem dX5_current_29 : decode cX5_current 29 = .ok (.getfield 10, 3) := by decide +kernel
theorem dX5_current_32 : decode cX5_current 32 = .ok (.getfield 202, 3) := by decide +kernel
theorem dX5_current_35 : decode cX5_current 35 = .ok (.freturn, 1) := by decide +kernel
theorem dX5_current_36 : decode cX5_current 36 = .ok (.aload_n 0, 1) := by decide +kernel
theorem dX5_current_37 : decode cX5_current 37 = .ok (.getfield 10, 3) := by decide +kernel
theorem dX5_current_40 : decode cX5_current 40 = .ok (.getfield 206, 3) := by decide +kernel
theorem dX5_current_43 : decode cX5_current 43 = .ok (.freturn, 1) := by decide +kernel
theorem dX5_current_44 : decode cX5_current 44 = .ok (.aload_n 0, 1) := by decide +kernel
theorem dX5_current_45 : decode cX5_current 45 = .ok (.getfield 10, 3) := by decide +kernel
theorem dX5_current_48 : decode cX5_current 48 = .ok (.getfield 209, 3) := by decide +kernel
theorem dX5_current_51 : decode cX5_current 51 = .ok (.freturn, 1) := by decide +kernel
theorem dX5_current_52 : decode cX5_current 52 = .ok (.fconst 0, 1) := by decide +kernel
theorem dX5_current_53 : decode cX5_current 53 = .ok (.freturn, 1) := by decide +kernel
set_option maxRecDepth 20000 in
theorem ggX5_thousandths_X5_isWithin : GoodIn wsX5_thousandths wsX5_isWithin := goodIn_r _ [5] (by decide +kernel) (by decide +kernel)
set_option maxRecDepth 20000 in
theorem gX5_thousandths_X5_isWithin : GoodIn wsX5_thousandths (va_wsS RX5 40 yX5_isWithin wsX5_isWithin) := goodIn_app (goodIn_of _ (by decide +kernel)) ggX5_thousandths_X5_isWithin
set_option maxRecDepth 20000 in
theorem ggX5_thousandths_X5_current : GoodIn wsX5_thousandths wsX5_current := goodIn_r _ [9, 10, 11, 12, 13, 14, 15, 16, 17, 18, 19, 20, 21, 22, 23, 24, 25, 26, 27, 28, 29, 30, 31] (by decide +kernel) (by decide +kernel)
set_option maxRecDepth 20000 in
theorem gX5_thousandths_X5_current : GoodIn wsX5_thousandths (wsV RX5 212 RX5 yX5_current wsX5_current) := goodIn_app (goodIn_of _ (by decide +kernel)) ggX5_thousandths_X5_current
theorem dX5_thousandths_0 : decode cX5_thousandths 0 = .ok (.iload_n 1, 1) := by decide +kernel
theorem dX5_thousandths_1 : decode cX5_thousandths 1 = .ok (.iconst 0, 1) := by decide +kernel
theorem dX5_thousandths_2 : decode cX5_thousandths 2 = .ok (.iconst 2, 1) := by decide +kernel
theorem dX5_thousandths_3 : decode cX5_thousandths 3 = .ok (.invokestatic 40, 3) := by decide +kernel
theorem dX5_thousandths_6 : decode cX5_thousandths 6 = .ok (.ifCond .ne 6, 3) := by decide +kernel
theorem dX5_thousandths_9 : decode cX5_thousandths 9 = .ok (.bipush (-2), 2) := by decide +kernel
theorem dX5_thousandths_11 : decode cX5_thousandths 11 = .ok (.ireturn, 1) := by decide +kernel
theorem dX5_thousandths_12 : decode cX5_thousandths 12 = .ok (.aload_n 0, 1) := by decide +kernel
theorem dX5_thousandths_13 : decode cX5_thousandths 13 = .ok (.iload_n 1, 1) := by decide +kernel
theorem dX5_thousandths_14 : decode cX5_thousandths 14 = .ok (.invokevirtual 212, 3) := by decide +kernel
theorem dX5_thousandths_17 : decode cX5_thousandths 17 = .ok (.ldc 215, 2) := by decide +kernel
theorem dX5_thousandths_19 : decode cX5_thousandths 19 = .ok (.fmul, 1) := by decide +kernel
theorem dX5_thousandths_20 : decode cX5_thousandths 20 = .ok (.f2i, 1) := by decide +kernel
theorem dX5_thousandths_21 : decode cX5_thousandths 21 = .ok (.ireturn, 1) := by decide +kernel
set_option maxRecDepth 20000 in
theorem ggX5_count_X3_frameLength : GoodIn wsX5_count wsX3_frameLength := goodIn_r _ [17, 18, 19, 20, 21, 16, 22, 23, 24, 47, 48, 49, 50, 51, 52, 53, 54, 55, 56, 57, 58, 59, 67, 68, 69, 70, 71, 72, 73, 74, 75] (by decide +kernel) (by decide +kernel)
set_option maxRecDepth 20000 in
theorem gX5_count_X3_frameLength : GoodIn wsX5_count (wsV RX5 64 RX3 yX3_frameLength wsX3_frameLength) := goodIn_app (goodIn_of _ (by decide +kernel)) ggX5_count_X3_frameLength
set_option maxRecDepth 20000 in
theorem ggX5_count_X3_slotNow : GoodIn wsX5_count wsX3_slotNow := goodIn_r _ [28, 23, 24, 18, 29, 47, 48, 49, 50, 51, 52, 53, 54, 55, 56, 57, 58, 59, 67, 68, 69, 70, 71, 72, 73, 74, 75] (by decide +kernel) (by decide +kernel)
set_option maxRecDepth 20000 in
theorem gX5_count_X3_slotNow : GoodIn wsX5_count (wsV RX5 192 RX3 yX3_slotNow wsX3_slotNow) := goodIn_app (goodIn_of _ (by decide +kernel)) ggX5_count_X3_slotNow
set_option maxRecDepth 20000 in
theorem ggX5_count_X3_brokenSegments : GoodIn wsX5_count wsX3_brokenSegments := goodIn_r _ [33, 18, 23, 34, 35, 36, 37, 38, 39, 40, 41, 47, 48, 49, 50, 51, 52, 53, 54, 55, 56, 57, 58, 59, 67, 68, 69, 70, 71, 72, 73, 74, 75] (by decide +kernel) (by decide +kernel)
set_option maxRecDepth 20000 in
theorem gX5_count_X3_brokenSegments : GoodIn wsX5_count (wsV RX5 220 RX3 yX3_brokenSegments wsX3_brokenSegments) := goodIn_app (goodIn_of _ (by decide +kernel)) ggX5_count_X3_brokenSegments
theorem dX5_count_0 : decode cX5_count 0 = .ok (.iload_n 1, 1) := by decide +kernel
theorem dX5_count_1 : decode cX5_count 1 = .ok (.tableswitch 172 0 13 #[71, 79, 87, 95, 103, 111, 119, 127, 135, 143, 143, 143, 156, 164], 71) := by decide +kernel
theorem dX5_count_72 : decode cX5_count 72 = .ok (.aload_n 0, 1) := by decide +kernel
theorem dX5_count_73 : decode cX5_count 73 = .ok (.getfield 10, 3) := by decide +kernel
theorem dX5_count_76 : decode cX5_count 76 = .ok (.getfield 125, 3) := by decide +kernel
theorem dX5_count_79 : decode cX5_count 79 = .ok (.ireturn, 1) := by decide +kernel
theorem dX5_count_80 : decode cX5_count 80 = .ok (.aload_n 0, 1) := by decide +kernel
theorem dX5_count_81 : decode cX5_count 81 = .ok (.getfield 10, 3) := by decide +kernel
theorem dX5_count_84 : decode cX5_count 84 = .ok (.getfield 48, 3) := by decide +kernel
theorem dX5_count_87 : decode cX5_count 87 = .ok (.ireturn, 1) := by decide +kernel
theorem dX5_count_88 : decode cX5_count 88 = .ok (.aload_n 0, 1) := by decide +kernel
theorem dX5_count_89 : decode cX5_count 89 = .ok (.getfield 10, 3) := by decide +kernel
theorem dX5_count_92 : decode cX5_count 92 = .ok (.invokevirtual 64, 3) := by decide +kernel
theorem dX5_count_95 : decode cX5_count 95 = .ok (.ireturn, 1) := by decide +kernel
theorem dX5_count_96 : decode cX5_count 96 = .ok (.aload_n 0, 1) := by decide +kernel
theorem dX5_count_97 : decode cX5_count 97 = .ok (.getfield 10, 3) := by decide +kernel
theorem dX5_count_100 : decode cX5_count 100 = .ok (.getfield 216, 3) := by decide +kernel
theorem dX5_count_103 : decode cX5_count 103 = .ok (.ireturn, 1) := by decide +kernel
theorem dX5_count_104 : decode cX5_count 104 = .ok (.aload_n 0, 1) := by decide +kernel
theorem dX5_count_105 : decode cX5_count 105 = .ok (.getfield 10, 3) := by decide +kernel
theorem dX5_count_108 : decode cX5_count 108 = .ok (.getfield 122, 3) := by decide +kernel
theorem dX5_count_111 : decode cX5_count 111 = .ok (.ireturn, 1) := by decide +kernel
theorem dX5_count_112 : decode cX5_count 112 = .ok (.aload_n 0, 1) := by decide +kernel
theorem dX5_count_113 : decode cX5_count 113 = .ok (.getfield 10, 3) := by decide +kernel
theorem dX5_count_116 : decode cX5_count 116 = .ok (.invokevirtual 192, 3) := by decide +kernel
theorem dX5_count_119 : decode cX5_count 119 = .ok (.ireturn, 1) := by decide +kernel
theorem dX5_count_120 : decode cX5_count 120 = .ok (.aload_n 0, 1) := by decide +kernel
theorem dX5_count_121 : decode cX5_count 121 = .ok (.getfield 10, 3) := by decide +kernel
theorem dX5_count_124 : decode cX5_count 124 = .ok (.getfield 116, 3) := by decide +kernel
theorem dX5_count_127 : decode cX5_count 127 = .ok (.ireturn, 1) := by decide +kernel
theorem dX5_count_128 : decode cX5_count 128 = .ok (.aload_n 0, 1) := by decide +kernel
theorem dX5_count_129 : decode cX5_count 129 = .ok (.getfield 10, 3) := by decide +kernel
theorem dX5_count_132 : decode cX5_count 132 = .ok (.getfield 219, 3) := by decide +kernel
theorem dX5_count_135 : decode cX5_count 135 = .ok (.ireturn, 1) := by decide +kernel
theorem dX5_count_136 : decode cX5_count 136 = .ok (.aload_n 0, 1) := by decide +kernel
theorem dX5_count_137 : decode cX5_count 137 = .ok (.getfield 10, 3) := by decide +kernel
theorem dX5_count_140 : decode cX5_count 140 = .ok (.invokevirtual 220, 3) := by decide +kernel
theorem dX5_count_143 : decode cX5_count 143 = .ok (.ireturn, 1) := by decide +kernel
theorem dX5_count_144 : decode cX5_count 144 = .ok (.aload_n 0, 1) := by decide +kernel
theorem dX5_count_145 : decode cX5_count 145 = .ok (.getfield 10, 3) := by decide +kernel
theorem dX5_count_148 : decode cX5_count 148 = .ok (.getfield 102, 3) := by decide +kernel
theorem dX5_count_151 : decode cX5_count 151 = .ok (.iload_n 1, 1) := by decide +kernel
theorem dX5_count_152 : decode cX5_count 152 = .ok (.bipush 9, 2) := by decide +kernel
theorem dX5_count_154 : decode cX5_count 154 = .ok (.isub, 1) := by decide +kernel
theorem dX5_count_155 : decode cX5_count 155 = .ok (.iaload, 1) := by decide +kernel
theorem dX5_count_156 : decode cX5_count 156 = .ok (.ireturn, 1) := by decide +kernel
theorem dX5_count_157 : decode cX5_count 157 = .ok (.aload_n 0, 1) := by decide +kernel
theorem dX5_count_158 : decode cX5_count 158 = .ok (.getfield 22, 3) := by decide +kernel
theorem dX5_count_161 : decode cX5_count 161 = .ok (.getfield 152, 3) := by decide +kernel
theorem dX5_count_164 : decode cX5_count 164 = .ok (.ireturn, 1) := by decide +kernel
theorem dX5_count_165 : decode cX5_count 165 = .ok (.aload_n 0, 1) := by decide +kernel
theorem dX5_count_166 : decode cX5_count 166 = .ok (.getfield 35, 3) := by decide +kernel
theorem dX5_count_169 : decode cX5_count 169 = .ok (.getfield 136, 3) := by decide +kernel
theorem dX5_count_172 : decode cX5_count 172 = .ok (.ireturn, 1) := by decide +kernel
theorem dX5_count_173 : decode cX5_count 173 = .ok (.bipush (-2), 2) := by decide +kernel
theorem dX5_count_175 : decode cX5_count 175 = .ok (.ireturn, 1) := by decide +kernel
set_option maxRecDepth 20000 in
theorem ggX5_group_X5_isWithin : GoodIn wsX5_group wsX5_isWithin := goodIn_r _ [7] (by decide +kernel) (by decide +kernel)
set_option maxRecDepth 20000 in
theorem gX5_group_X5_isWithin : GoodIn wsX5_group (va_wsS RX5 40 yX5_isWithin wsX5_isWithin) := goodIn_app (goodIn_of _ (by decide +kernel)) ggX5_group_X5_isWithin
set_option maxRecDepth 20000 in
theorem ggX5_group_X3_isGroupOn : GoodIn wsX5_group wsX3_isGroupOn := goodIn_r _ [12, 13, 14, 15, 28, 29, 30, 31, 32, 33, 34, 35, 36, 37, 38, 39, 40] (by decide +kernel) (by decide +kernel)
set_option maxRecDepth 20000 in
theorem gX5_group_X3_isGroupOn : GoodIn wsX5_group (wsV RX5 223 RX3 yX3_isGroupOn wsX3_isGroupOn) := goodIn_app (goodIn_of _ (by decide +kernel)) ggX5_group_X3_isGroupOn
set_option maxRecDepth 20000 in
theorem ggX5_group_X3_digitsInGroup : GoodIn wsX5_group wsX3_digitsInGroup := goodIn_r _ [19, 20, 21, 22, 28, 29, 30, 31, 32, 33, 34, 35, 36, 37, 38, 39, 40, 41, 42, 43, 44, 45, 46, 47, 48, 49] (by decide +kernel) (by decide +kernel)
set_option maxRecDepth 20000 in
theorem gX5_group_X3_digitsInGroup : GoodIn wsX5_group (wsV RX5 92 RX3 yX3_digitsInGroup wsX3_digitsInGroup) := goodIn_app (goodIn_of _ (by decide +kernel)) ggX5_group_X3_digitsInGroup
theorem dX5_group_0 : decode cX5_group 0 = .ok (.iload_n 1, 1) := by decide +kernel
theorem dX5_group_1 : decode cX5_group 1 = .ok (.iconst 0, 1) := by decide +kernel
theorem dX5_group_2 : decode cX5_group 2 = .ok (.iconst 3, 1) := by decide +kernel
theorem dX5_group_3 : decode cX5_group 3 = .ok (.invokestatic 40, 3) := by decide +kernel
theorem dX5_group_6 : decode cX5_group 6 = .ok (.ifCond .ne 5, 3) := by decide +kernel
theorem dX5_group_9 : decode cX5_group 9 = .ok (.iconst (-1), 1) := by decide +kernel
theorem dX5_group_10 : decode cX5_group 10 = .ok (.ireturn, 1) := by decide +kernel
theorem dX5_group_11 : decode cX5_group 11 = .ok (.iload_n 2, 1) := by decide +kernel
theorem dX5_group_12 : decode cX5_group 12 = .ok (.tableswitch 78 0 3 #[32, 42, 52, 69], 32) := by decide +kernel
theorem dX5_group_44 : decode cX5_group 44 = .ok (.aload_n 0, 1) := by decide +kernel
theorem dX5_group_45 : decode cX5_group 45 = .ok (.getfield 10, 3) := by decide +kernel
theorem dX5_group_48 : decode cX5_group 48 = .ok (.getfield 85, 3) := by decide +kernel
theorem dX5_group_51 : decode cX5_group 51 = .ok (.iload_n 1, 1) := by decide +kernel
theorem dX5_group_52 : decode cX5_group 52 = .ok (.iaload, 1) := by decide +kernel
theorem dX5_group_53 : decode cX5_group 53 = .ok (.ireturn, 1) := by decide +kernel
theorem dX5_group_54 : decode cX5_group 54 = .ok (.aload_n 0, 1) := by decide +kernel
theorem dX5_group_55 : decode cX5_group 55 = .ok (.getfield 10, 3) := by decide +kernel
theorem dX5_group_58 : decode cX5_group 58 = .ok (.getfield 89, 3) := by decide +kernel
theorem dX5_group_61 : decode cX5_group 61 = .ok (.iload_n 1, 1) := by decide +kernel
theorem dX5_group_62 : decode cX5_group 62 = .ok (.iaload, 1) := by decide +kernel
theorem dX5_group_63 : decode cX5_group 63 = .ok (.ireturn, 1) := by decide +kernel
theorem dX5_group_64 : decode cX5_group 64 = .ok (.aload_n 0, 1) := by decide +kernel
theorem dX5_group_65 : decode cX5_group 65 = .ok (.getfield 10, 3) := by decide +kernel
theorem dX5_group_68 : decode cX5_group 68 = .ok (.iload_n 1, 1) := by decide +kernel
theorem dX5_group_69 : decode cX5_group 69 = .ok (.invokevirtual 223, 3) := by decide +kernel
theorem dX5_group_72 : decode cX5_group 72 = .ok (.ifCond .eq 7, 3) := by decide +kernel
theorem dX5_group_75 : decode cX5_group 75 = .ok (.iconst 1, 1) := by decide +kernel
theorem dX5_group_76 : decode cX5_group 76 = .ok (.goto 4, 3) := by decide +kernel
theorem dX5_group_79 : decode cX5_group 79 = .ok (.iconst 0, 1) := by decide +kernel
theorem dX5_group_80 : decode cX5_group 80 = .ok (.ireturn, 1) := by decide +kernel
theorem dX5_group_81 : decode cX5_group 81 = .ok (.aload_n 0, 1) := by decide +kernel
theorem dX5_group_82 : decode cX5_group 82 = .ok (.getfield 10, 3) := by decide +kernel
theorem dX5_group_85 : decode cX5_group 85 = .ok (.iload_n 1, 1) := by decide +kernel
theorem dX5_group_86 : decode cX5_group 86 = .ok (.invokevirtual 92, 3) := by decide +kernel
theorem dX5_group_89 : decode cX5_group 89 = .ok (.ireturn, 1) := by decide +kernel
theorem dX5_group_90 : decode cX5_group 90 = .ok (.bipush (-2), 2) := by decide +kernel
theorem dX5_group_92 : decode cX5_group 92 = .ok (.ireturn, 1) := by decide +kernel
theorem dX5_isWithin_0 : decode cX5_isWithin 0 = .ok (.iload_n 0, 1) := by decide +kernel
theorem dX5_isWithin_1 : decode cX5_isWithin 1 = .ok (.iload_n 1, 1) := by decide +kernel
theorem dX5_isWithin_2 : decode cX5_isWithin 2 = .ok (.if_icmp .lt 12, 3) := by decide +kernel
theorem dX5_isWithin_5 : decode cX5_isWithin 5 = .ok (.iload_n 0, 1) := by decide +kernel
theorem dX5_isWithin_6 : decode cX5_isWithin 6 = .ok (.iload_n 2, 1) := by decide +kernel
theorem dX5_isWithin_7 : decode cX5_isWithin 7 = .ok (.if_icmp .gt 7, 3) := by decide +kernel
theorem dX5_isWithin_10 : decode cX5_isWithin 10 = .ok (.iconst 1, 1) := by decide +kernel
theorem dX5_isWithin_11 : decode cX5_isWithin 11 = .ok (.goto 4, 3) := by decide +kernel
theorem dX5_isWithin_14 : decode cX5_isWithin 14 = .ok (.iconst 0, 1) := by decide +kernel
theorem dX5_isWithin_15 : decode cX5_isWithin 15 = .ok (.ireturn, 1) := by decide +kernel
theorem dX5_characterOf_0 : decode cX5_characterOf 0 = .ok (.iconst 0, 1) := by decide +kernel
theorem dX5_characterOf_1 : decode cX5_characterOf 1 = .ok (.istore_n 1, 1) := by decide +kernel
theorem dX5_characterOf_2 : decode cX5_characterOf 2 = .ok (.iload_n 1, 1) := by decide +kernel
theorem dX5_characterOf_3 : decode cX5_characterOf 3 = .ok (.getstatic 227, 3) := by decide +kernel
theorem dX5_characterOf_6 : decode cX5_characterOf 6 = .ok (.arraylength, 1) := by decide +kernel
theorem dX5_characterOf_7 : decode cX5_characterOf 7 = .ok (.if_icmp .ge 32, 3) := by decide +kernel
theorem dX5_characterOf_10 : decode cX5_characterOf 10 = .ok (.iload_n 1, 1) := by decide +kernel
theorem dX5_characterOf_11 : decode cX5_characterOf 11 = .ok (.getstatic 230, 3) := by decide +kernel
theorem dX5_characterOf_14 : decode cX5_characterOf 14 = .ok (.arraylength, 1) := by decide +kernel
theorem dX5_characterOf_15 : decode cX5_characterOf 15 = .ok (.if_icmp .ge 24, 3) := by decide +kernel
theorem dX5_characterOf_18 : decode cX5_characterOf 18 = .ok (.getstatic 227, 3) := by decide +kernel
theorem dX5_characterOf_21 : decode cX5_characterOf 21 = .ok (.iload_n 1, 1) := by decide +kernel
theorem dX5_characterOf_22 : decode cX5_characterOf 22 = .ok (.iaload, 1) := by decide +kernel
theorem dX5_characterOf_23 : decode cX5_characterOf 23 = .ok (.iload_n 0, 1) := by decide +kernel
theorem dX5_characterOf_24 : decode cX5_characterOf 24 = .ok (.if_icmp .ne 9, 3) := by decide +kernel
theorem dX5_characterOf_27 : decode cX5_characterOf 27 = .ok (.getstatic 230, 3) := by decide +kernel
theorem dX5_characterOf_30 : decode cX5_characterOf 30 = .ok (.iload_n 1, 1) := by decide +kernel
theorem dX5_characterOf_31 : decode cX5_characterOf 31 = .ok (.caload, 1) := by decide +kernel
theorem dX5_characterOf_32 : decode cX5_characterOf 32 = .ok (.ireturn, 1) := by decide +kernel
theorem dX5_characterOf_33 : decode cX5_characterOf 33 = .ok (.iinc 1 1, 3) := by decide +kernel
theorem dX5_characterOf_36 : decode cX5_characterOf 36 = .ok (.goto (-34), 3) := by decide +kernel
theorem dX5_characterOf_39 : decode cX5_characterOf 39 = .ok (.bipush (-4), 2) := by decide +kernel
theorem dX5_characterOf_41 : decode cX5_characterOf 41 = .ok (.ireturn, 1) := by decide +kernel
theorem dX5_patternOf_0 : decode cX5_patternOf 0 = .ok (.iconst 0, 1) := by decide +kernel
theorem dX5_patternOf_1 : decode cX5_patternOf 1 = .ok (.istore_n 1, 1) := by decide +kernel
theorem dX5_patternOf_2 : decode cX5_patternOf 2 = .ok (.iload_n 1, 1) := by decide +kernel
theorem dX5_patternOf_3 : decode cX5_patternOf 3 = .ok (.getstatic 230, 3) := by decide +kernel
theorem dX5_patternOf_6 : decode cX5_patternOf 6 = .ok (.arraylength, 1) := by decide +kernel
theorem dX5_patternOf_7 : decode cX5_patternOf 7 = .ok (.if_icmp .ge 32, 3) := by decide +kernel
theorem dX5_patternOf_10 : decode cX5_patternOf 10 = .ok (.iload_n 1, 1) := by decide +kernel
theorem dX5_patternOf_11 : decode cX5_patternOf 11 = .ok (.getstatic 227, 3) := by decide +kernel
theorem dX5_patternOf_14 : decode cX5_patternOf 14 = .ok (.arraylength, 1) := by decide +kernel
theorem dX5_patternOf_15 : decode cX5_patternOf 15 = .ok (.if_icmp .ge 24, 3) := by decide +kernel
theorem dX5_patternOf_18 : decode cX5_patternOf 18 = .ok (.getstatic 230, 3) := by decide +kernel
theorem dX5_patternOf_21 : decode cX5_patternOf 21 = .ok (.iload_n 1, 1) := by decide +kernel
theorem dX5_patternOf_22 : decode cX5_patternOf 22 = .ok (.caload, 1) := by decide +kernel
theorem dX5_patternOf_23 : decode cX5_patternOf 23 = .ok (.iload_n 0, 1) := by decide +kernel
theorem dX5_patternOf_24 : decode cX5_patternOf 24 = .ok (.if_icmp .ne 9, 3) := by decide +kernel
theorem dX5_patternOf_27 : decode cX5_patternOf 27 = .ok (.getstatic 227, 3) := by decide +kernel
theorem dX5_patternOf_30 : decode cX5_patternOf 30 = .ok (.iload_n 1, 1) := by decide +kernel
theorem dX5_patternOf_31 : decode cX5_patternOf 31 = .ok (.iaload, 1) := by decide +kernel
theorem dX5_patternOf_32 : decode cX5_patternOf 32 = .ok (.ireturn, 1) := by decide +kernel
theorem dX5_patternOf_33 : decode cX5_patternOf 33 = .ok (.iinc 1 1, 3) := by decide +kernel
theorem dX5_patternOf_36 : decode cX5_patternOf 36 = .ok (.goto (-34), 3) := by decide +kernel
theorem dX5_patternOf_39 : decode cX5_patternOf 39 = .ok (.bipush (-4), 2) := by decide +kernel
theorem dX5_patternOf_41 : decode cX5_patternOf 41 = .ok (.ireturn, 1) := by decide +kernel
theorem dX5_glowLit_0 : decode cX5_glowLit 0 = .ok (.iconst 1, 1) := by decide +kernel
theorem dX5_glowLit_1 : decode cX5_glowLit 1 = .ok (.sipush 1000, 3) := by decide +kernel
theorem dX5_glowLit_4 : decode cX5_glowLit 4 = .ok (.iload_n 0, 1) := by decide +kernel
theorem dX5_glowLit_5 : decode cX5_glowLit 5 = .ok (.isub, 1) := by decide +kernel
theorem dX5_glowLit_6 : decode cX5_glowLit 6 = .ok (.iconst 4, 1) := by decide +kernel
theorem dX5_glowLit_7 : decode cX5_glowLit 7 = .ok (.idiv, 1) := by decide +kernel
theorem dX5_glowLit_8 : decode cX5_glowLit 8 = .ok (.invokestatic 234, 3) := by decide +kernel
theorem dX5_glowLit_11 : decode cX5_glowLit 11 = .ok (.istore_n 1, 1) := by decide +kernel
theorem dX5_glowLit_12 : decode cX5_glowLit 12 = .ok (.sipush 1000, 3) := by decide +kernel
theorem dX5_glowLit_15 : decode cX5_glowLit 15 = .ok (.iload_n 0, 1) := by decide +kernel
theorem dX5_glowLit_16 : decode cX5_glowLit 16 = .ok (.iload_n 1, 1) := by decide +kernel
theorem dX5_glowLit_17 : decode cX5_glowLit 17 = .ok (.iadd, 1) := by decide +kernel
theorem dX5_glowLit_18 : decode cX5_glowLit 18 = .ok (.invokestatic 240, 3) := by decide +kernel
theorem dX5_glowLit_21 : decode cX5_glowLit 21 = .ok (.ireturn, 1) := by decide +kernel
theorem dX5_glowUnlit_0 : decode cX5_glowUnlit 0 = .ok (.iload_n 1, 1) := by decide +kernel
theorem dX5_glowUnlit_1 : decode cX5_glowUnlit 1 = .ok (.ifCond .le 9, 3) := by decide +kernel
theorem dX5_glowUnlit_4 : decode cX5_glowUnlit 4 = .ok (.iload_n 0, 1) := by decide +kernel
theorem dX5_glowUnlit_5 : decode cX5_glowUnlit 5 = .ok (.iload_n 1, 1) := by decide +kernel
theorem dX5_glowUnlit_6 : decode cX5_glowUnlit 6 = .ok (.idiv, 1) := by decide +kernel
theorem dX5_glowUnlit_7 : decode cX5_glowUnlit 7 = .ok (.goto 4, 3) := by decide +kernel
theorem dX5_glowUnlit_10 : decode cX5_glowUnlit 10 = .ok (.iconst 0, 1) := by decide +kernel
theorem dX5_glowUnlit_11 : decode cX5_glowUnlit 11 = .ok (.istore_n 2, 1) := by decide +kernel
theorem dX5_glowUnlit_12 : decode cX5_glowUnlit 12 = .ok (.iconst 0, 1) := by decide +kernel
theorem dX5_glowUnlit_13 : decode cX5_glowUnlit 13 = .ok (.iload_n 0, 1) := by decide +kernel
theorem dX5_glowUnlit_14 : decode cX5_glowUnlit 14 = .ok (.iload_n 2, 1) := by decide +kernel
theorem dX5_glowUnlit_15 : decode cX5_glowUnlit 15 = .ok (.isub, 1) := by decide +kernel
theorem dX5_glowUnlit_16 : decode cX5_glowUnlit 16 = .ok (.iconst 1, 1) := by decide +kernel
theorem dX5_glowUnlit_17 : decode cX5_glowUnlit 17 = .ok (.isub, 1) := by decide +kernel
theorem dX5_glowUnlit_18 : decode cX5_glowUnlit 18 = .ok (.invokestatic 234, 3) := by decide +kernel
theorem dX5_glowUnlit_21 : decode cX5_glowUnlit 21 = .ok (.ireturn, 1) := by decide +kernel
set_option maxRecDepth 20000 in
theorem ggX5_glowOfFrames_X5_glowLit : GoodIn wsX5_glowOfFrames wsX5_glowLit := goodIn_r _ [4, 5, 6, 7, 8, 9, 10, 11] (by decide +kernel) (by decide +kernel)
set_option maxRecDepth 20000 in
theorem gX5_glowOfFrames_X5_glowLit : GoodIn wsX5_glowOfFrames (va_wsS RX5 243 yX5_glowLit wsX5_glowLit) := goodIn_app (goodIn_of _ (by decide +kernel)) ggX5_glowOfFrames_X5_glowLit
set_option maxRecDepth 20000 in
theorem ggX5_glowOfFrames_X5_glowUnlit : GoodIn wsX5_glowOfFrames wsX5_glowUnlit := goodIn_r _ [14, 5, 6, 7, 8] (by decide +kernel) (by decide +kernel)
set_option maxRecDepth 20000 in
theorem gX5_glowOfFrames_X5_glowUnlit : GoodIn wsX5_glowOfFrames (va_wsS RX5 246 yX5_glowUnlit wsX5_glowUnlit) := goodIn_app (goodIn_of _ (by decide +kernel)) ggX5_glowOfFrames_X5_glowUnlit
theorem dX5_glowOfFrames_0 : decode cX5_glowOfFrames 0 = .ok (.iconst (-1), 1) := by decide +kernel
theorem dX5_glowOfFrames_1 : decode cX5_glowOfFrames 1 = .ok (.istore_n 3, 1) := by decide +kernel
theorem dX5_glowOfFrames_2 : decode cX5_glowOfFrames 2 = .ok (.iconst 0, 1) := by decide +kernel
theorem dX5_glowOfFrames_3 : decode cX5_glowOfFrames 3 = .ok (.istore 4, 2) := by decide +kernel
theorem dX5_glowOfFrames_5 : decode cX5_glowOfFrames 5 = .ok (.iconst 0, 1) := by decide +kernel
theorem dX5_glowOfFrames_6 : decode cX5_glowOfFrames 6 = .ok (.istore 5, 2) := by decide +kernel
theorem dX5_glowOfFrames_8 : decode cX5_glowOfFrames 8 = .ok (.iload 5, 2) := by decide +kernel
theorem dX5_glowOfFrames_10 : decode cX5_glowOfFrames 10 = .ok (.sipush 1002, 3) := by decide +kernel
theorem dX5_glowOfFrames_13 : decode cX5_glowOfFrames 13 = .ok (.if_icmp .ge 66, 3) := by decide +kernel
theorem dX5_glowOfFrames_16 : decode cX5_glowOfFrames 16 = .ok (.iconst 0, 1) := by decide +kernel
theorem dX5_glowOfFrames_17 : decode cX5_glowOfFrames 17 = .ok (.istore 6, 2) := by decide +kernel
theorem dX5_glowOfFrames_19 : decode cX5_glowOfFrames 19 = .ok (.iload 6, 2) := by decide +kernel
theorem dX5_glowOfFrames_21 : decode cX5_glowOfFrames 21 = .ok (.iload_n 0, 1) := by decide +kernel
theorem dX5_glowOfFrames_22 : decode cX5_glowOfFrames 22 = .ok (.if_icmp .ge 16, 3) := by decide +kernel
theorem dX5_glowOfFrames_25 : decode cX5_glowOfFrames 25 = .ok (.iload 4, 2) := by decide +kernel
theorem dX5_glowOfFrames_27 : decode cX5_glowOfFrames 27 = .ok (.invokestatic 243, 3) := by decide +kernel
theorem dX5_glowOfFrames_30 : decode cX5_glowOfFrames 30 = .ok (.istore 4, 2) := by decide +kernel
theorem dX5_glowOfFrames_32 : decode cX5_glowOfFrames 32 = .ok (.iinc 6 1, 3) := by decide +kernel
theorem dX5_glowOfFrames_35 : decode cX5_glowOfFrames 35 = .ok (.goto (-16), 3) := by decide +kernel
theorem dX5_glowOfFrames_38 : decode cX5_glowOfFrames 38 = .ok (.iload 4, 2) := by decide +kernel
theorem dX5_glowOfFrames_40 : decode cX5_glowOfFrames 40 = .ok (.iload_n 3, 1) := by decide +kernel
theorem dX5_glowOfFrames_41 : decode cX5_glowOfFrames 41 = .ok (.if_icmp .ne 6, 3) := by decide +kernel
theorem dX5_glowOfFrames_44 : decode cX5_glowOfFrames 44 = .ok (.iload 4, 2) := by decide +kernel
theorem dX5_glowOfFrames_46 : decode cX5_glowOfFrames 46 = .ok (.ireturn, 1) := by decide +kernel
theorem dX5_glowOfFrames_47 : decode cX5_glowOfFrames 47 = .ok (.iload 4, 2) := by decide +kernel
theorem dX5_glowOfFrames_49 : decode cX5_glowOfFrames 49 = .ok (.istore_n 3, 1) := by decide +kernel
theorem dX5_glowOfFrames_50 : decode cX5_glowOfFrames 50 = .ok (.iconst 0, 1) := by decide +kernel
theorem dX5_glowOfFrames_51 : decode cX5_glowOfFrames 51 = .ok (.istore 6, 2) := by decide +kernel
theorem dX5_glowOfFrames_53 : decode cX5_glowOfFrames 53 = .ok (.iload 6, 2) := by decide +kernel
theorem dX5_glowOfFrames_55 : decode cX5_glowOfFrames 55 = .ok (.iload_n 1, 1) := by decide +kernel
theorem dX5_glowOfFrames_56 : decode cX5_glowOfFrames 56 = .ok (.if_icmp .ge 17, 3) := by decide +kernel
theorem dX5_glowOfFrames_59 : decode cX5_glowOfFrames 59 = .ok (.iload 4, 2) := by decide +kernel
theorem dX5_glowOfFrames_61 : decode cX5_glowOfFrames 61 = .ok (.iload_n 2, 1) := by decide +kernel
theorem dX5_glowOfFrames_62 : decode cX5_glowOfFrames 62 = .ok (.invokestatic 246, 3) := by decide +kernel
theorem dX5_glowOfFrames_65 : decode cX5_glowOfFrames 65 = .ok (.istore 4, 2) := by decide +kernel
theorem dX5_glowOfFrames_67 : decode cX5_glowOfFrames 67 = .ok (.iinc 6 1, 3) := by decide +kernel
theorem dX5_glowOfFrames_70 : decode cX5_glowOfFrames 70 = .ok (.goto (-17), 3) := by decide +kernel
theorem dX5_glowOfFrames_73 : decode cX5_glowOfFrames 73 = .ok (.iinc 5 1, 3) := by decide +kernel
theorem dX5_glowOfFrames_76 : decode cX5_glowOfFrames 76 = .ok (.goto (-68), 3) := by decide +kernel
theorem dX5_glowOfFrames_79 : decode cX5_glowOfFrames 79 = .ok (.iload_n 3, 1) := by decide +kernel
theorem dX5_glowOfFrames_80 : decode cX5_glowOfFrames 80 = .ok (.ireturn, 1) := by decide +kernel
theorem dJ6_bitCount_0f7a4_0 : decode cJ6_bitCount_0f7a4 0 = .ok (.iload_n 0, 1) := by decide +kernel
theorem dJ6_bitCount_0f7a4_1 : decode cJ6_bitCount_0f7a4 1 = .ok (.iload_n 0, 1) := by decide +kernel
theorem dJ6_bitCount_0f7a4_2 : decode cJ6_bitCount_0f7a4 2 = .ok (.iconst 1, 1) := by decide +kernel
theorem dJ6_bitCount_0f7a4_3 : decode cJ6_bitCount_0f7a4 3 = .ok (.iushr, 1) := by decide +kernel
theorem dJ6_bitCount_0f7a4_4 : decode cJ6_bitCount_0f7a4 4 = .ok (.ldc_w 265, 3) := by decide +kernel
theorem dJ6_bitCount_0f7a4_7 : decode cJ6_bitCount_0f7a4 7 = .ok (.iand, 1) := by decide +kernel
theorem dJ6_bitCount_0f7a4_8 : decode cJ6_bitCount_0f7a4 8 = .ok (.isub, 1) := by decide +kernel
theorem dJ6_bitCount_0f7a4_9 : decode cJ6_bitCount_0f7a4 9 = .ok (.istore_n 0, 1) := by decide +kernel
theorem dJ6_bitCount_0f7a4_10 : decode cJ6_bitCount_0f7a4 10 = .ok (.iload_n 0, 1) := by decide +kernel
theorem dJ6_bitCount_0f7a4_11 : decode cJ6_bitCount_0f7a4 11 = .ok (.ldc_w 266, 3) := by decide +kernel
theorem dJ6_bitCount_0f7a4_14 : decode cJ6_bitCount_0f7a4 14 = .ok (.iand, 1) := by decide +kernel
theorem dJ6_bitCount_0f7a4_15 : decode cJ6_bitCount_0f7a4 15 = .ok (.iload_n 0, 1) := by decide +kernel
theorem dJ6_bitCount_0f7a4_16 : decode cJ6_bitCount_0f7a4 16 = .ok (.iconst 2, 1) := by decide +kernel
theorem dJ6_bitCount_0f7a4_17 : decode cJ6_bitCount_0f7a4 17 = .ok (.iushr, 1) := by decide +kernel
theorem dJ6_bitCount_0f7a4_18 : decode cJ6_bitCount_0f7a4 18 = .ok (.ldc_w 266, 3) := by decide +kernel
theorem dJ6_bitCount_0f7a4_21 : decode cJ6_bitCount_0f7a4 21 = .ok (.iand, 1) := by decide +kernel
theorem dJ6_bitCount_0f7a4_22 : decode cJ6_bitCount_0f7a4 22 = .ok (.iadd, 1) := by decide +kernel
theorem dJ6_bitCount_0f7a4_23 : decode cJ6_bitCount_0f7a4 23 = .ok (.istore_n 0, 1) := by decide +kernel
theorem dJ6_bitCount_0f7a4_24 : decode cJ6_bitCount_0f7a4 24 = .ok (.iload_n 0, 1) := by decide +kernel
theorem dJ6_bitCount_0f7a4_25 : decode cJ6_bitCount_0f7a4 25 = .ok (.iload_n 0, 1) := by decide +kernel
theorem dJ6_bitCount_0f7a4_26 : decode cJ6_bitCount_0f7a4 26 = .ok (.iconst 4, 1) := by decide +kernel
theorem dJ6_bitCount_0f7a4_27 : decode cJ6_bitCount_0f7a4 27 = .ok (.iushr, 1) := by decide +kernel
theorem dJ6_bitCount_0f7a4_28 : decode cJ6_bitCount_0f7a4 28 = .ok (.iadd, 1) := by decide +kernel
theorem dJ6_bitCount_0f7a4_29 : decode cJ6_bitCount_0f7a4 29 = .ok (.ldc_w 267, 3) := by decide +kernel
theorem dJ6_bitCount_0f7a4_32 : decode cJ6_bitCount_0f7a4 32 = .ok (.iand, 1) := by decide +kernel
theorem dJ6_bitCount_0f7a4_33 : decode cJ6_bitCount_0f7a4 33 = .ok (.istore_n 0, 1) := by decide +kernel
theorem dJ6_bitCount_0f7a4_34 : decode cJ6_bitCount_0f7a4 34 = .ok (.iload_n 0, 1) := by decide +kernel
theorem dJ6_bitCount_0f7a4_35 : decode cJ6_bitCount_0f7a4 35 = .ok (.iload_n 0, 1) := by decide +kernel
theorem dJ6_bitCount_0f7a4_36 : decode cJ6_bitCount_0f7a4 36 = .ok (.bipush 8, 2) := by decide +kernel
theorem dJ6_bitCount_0f7a4_38 : decode cJ6_bitCount_0f7a4 38 = .ok (.iushr, 1) := by decide +kernel
theorem dJ6_bitCount_0f7a4_39 : decode cJ6_bitCount_0f7a4 39 = .ok (.iadd, 1) := by decide +kernel
theorem dJ6_bitCount_0f7a4_40 : decode cJ6_bitCount_0f7a4 40 = .ok (.istore_n 0, 1) := by decide +kernel
theorem dJ6_bitCount_0f7a4_41 : decode cJ6_bitCount_0f7a4 41 = .ok (.iload_n 0, 1) := by decide +kernel
theorem dJ6_bitCount_0f7a4_42 : decode cJ6_bitCount_0f7a4 42 = .ok (.iload_n 0, 1) := by decide +kernel
theorem dJ6_bitCount_0f7a4_43 : decode cJ6_bitCount_0f7a4 43 = .ok (.bipush 16, 2) := by decide +kernel
theorem dJ6_bitCount_0f7a4_45 : decode cJ6_bitCount_0f7a4 45 = .ok (.iushr, 1) := by decide +kernel
theorem dJ6_bitCount_0f7a4_46 : decode cJ6_bitCount_0f7a4 46 = .ok (.iadd, 1) := by decide +kernel
theorem dJ6_bitCount_0f7a4_47 : decode cJ6_bitCount_0f7a4 47 = .ok (.istore_n 0, 1) := by decide +kernel
theorem dJ6_bitCount_0f7a4_48 : decode cJ6_bitCount_0f7a4 48 = .ok (.iload_n 0, 1) := by decide +kernel
theorem dJ6_bitCount_0f7a4_49 : decode cJ6_bitCount_0f7a4 49 = .ok (.bipush 63, 2) := by decide +kernel
theorem dJ6_bitCount_0f7a4_51 : decode cJ6_bitCount_0f7a4 51 = .ok (.iand, 1) := by decide +kernel
theorem dJ6_bitCount_0f7a4_52 : decode cJ6_bitCount_0f7a4 52 = .ok (.ireturn, 1) := by decide +kernel
theorem dJ9_max_7cf53_0 : decode cJ9_max_7cf53 0 = .ok (.iload_n 0, 1) := by decide +kernel
theorem dJ9_max_7cf53_1 : decode cJ9_max_7cf53 1 = .ok (.iload_n 1, 1) := by decide +kernel
theorem dJ9_max_7cf53_2 : decode cJ9_max_7cf53 2 = .ok (.if_icmp .lt 7, 3) := by decide +kernel
theorem dJ9_max_7cf53_5 : decode cJ9_max_7cf53 5 = .ok (.iload_n 0, 1) := by decide +kernel
theorem dJ9_max_7cf53_6 : decode cJ9_max_7cf53 6 = .ok (.goto 4, 3) := by decide +kernel
theorem dJ9_max_7cf53_9 : decode cJ9_max_7cf53 9 = .ok (.iload_n 1, 1) := by decide +kernel
theorem dJ9_max_7cf53_10 : decode cJ9_max_7cf53 10 = .ok (.ireturn, 1) := by decide +kernel
theorem dJ9_min_7cf53_0 : decode cJ9_min_7cf53 0 = .ok (.iload_n 0, 1) := by decide +kernel
theorem dJ9_min_7cf53_1 : decode cJ9_min_7cf53 1 = .ok (.iload_n 1, 1) := by decide +kernel
theorem dJ9_min_7cf53_2 : decode cJ9_min_7cf53 2 = .ok (.if_icmp .gt 7, 3) := by decide +kernel
theorem dJ9_min_7cf53_5 : decode cJ9_min_7cf53 5 = .ok (.iload_n 0, 1) := by decide +kernel
theorem dJ9_min_7cf53_6 : decode cJ9_min_7cf53 6 = .ok (.goto 4, 3) := by decide +kernel
theorem dJ9_min_7cf53_9 : decode cJ9_min_7cf53 9 = .ok (.iload_n 1, 1) := by decide +kernel
theorem dJ9_min_7cf53_10 : decode cJ9_min_7cf53 10 = .ok (.ireturn, 1) := by decide +kernel
