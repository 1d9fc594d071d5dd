theorem dX6_done_110 : decode cX6_done 110 = .ok (.getfield 17, 3) := by decide +kernel
theorem dX6_done_113 : decode cX6_done 113 = .ok (.iload_n 2, 1) := by decide +kernel
theorem dX6_done_114 : decode cX6_done 114 = .ok (.iaload, 1) := by decide +kernel
theorem dX6_done_115 : decode cX6_done 115 = .ok (.iastore, 1) := by decide +kernel
theorem dX6_done_116 : decode cX6_done 116 = .ok (.iinc 2 1, 3) := by decide +kernel
theorem dX6_done_119 : decode cX6_done 119 = .ok (.goto (-31), 3) := by decide +kernel
theorem dX6_done_122 : decode cX6_done 122 = .ok (.iconst 0, 1) := by decide +kernel
theorem dX6_done_123 : decode cX6_done 123 = .ok (.istore_n 2, 1) := by decide +kernel
theorem dX6_done_124 : decode cX6_done 124 = .ok (.iload_n 2, 1) := by decide +kernel
theorem dX6_done_125 : decode cX6_done 125 = .ok (.iconst 3, 1) := by decide +kernel
theorem dX6_done_126 : decode cX6_done 126 = .ok (.if_icmp .ge 28, 3) := by decide +kernel
theorem dX6_done_129 : decode cX6_done 129 = .ok (.aload_n 0, 1) := by decide +kernel
theorem dX6_done_130 : decode cX6_done 130 = .ok (.getfield 26, 3) := by decide +kernel
theorem dX6_done_133 : decode cX6_done 133 = .ok (.iconst 3, 1) := by decide +kernel
theorem dX6_done_134 : decode cX6_done 134 = .ok (.aload_n 0, 1) := by decide +kernel
theorem dX6_done_135 : decode cX6_done 135 = .ok (.getfield 51, 3) := by decide +kernel
theorem dX6_done_138 : decode cX6_done 138 = .ok (.imul, 1) := by decide +kernel
theorem dX6_done_139 : decode cX6_done 139 = .ok (.iload_n 2, 1) := by decide +kernel
theorem dX6_done_140 : decode cX6_done 140 = .ok (.iadd, 1) := by decide +kernel
theorem dX6_done_141 : decode cX6_done 141 = .ok (.aload_n 0, 1) := by decide +kernel
theorem dX6_done_142 : decode cX6_done 142 = .ok (.getfield 20, 3) := by decide +kernel
theorem dX6_done_145 : decode cX6_done 145 = .ok (.iload_n 2, 1) := by decide +kernel
theorem dX6_done_146 : decode cX6_done 146 = .ok (.faload, 1) := by decide +kernel
theorem dX6_done_147 : decode cX6_done 147 = .ok (.fastore, 1) := by decide +kernel
theorem dX6_done_148 : decode cX6_done 148 = .ok (.iinc 2 1, 3) := by decide +kernel
theorem dX6_done_151 : decode cX6_done 151 = .ok (.goto (-27), 3) := by decide +kernel
theorem dX6_done_154 : decode cX6_done 154 = .ok (.aload_n 0, 1) := by decide +kernel
theorem dX6_done_155 : decode cX6_done 155 = .ok (.dup, 1) := by decide +kernel
theorem dX6_done_156 : decode cX6_done 156 = .ok (.getfield 51, 3) := by decide +kernel
theorem dX6_done_159 : decode cX6_done 159 = .ok (.iconst 1, 1) := by decide +kernel
theorem dX6_done_160 : decode cX6_done 160 = .ok (.iadd, 1) := by decide +kernel
theorem dX6_done_161 : decode cX6_done 161 = .ok (.putfield 51, 3) := by decide +kernel
theorem dX6_done_164 : decode cX6_done 164 = .ok (.iload_n 1, 1) := by decide +kernel
theorem dX6_done_165 : decode cX6_done 165 = .ok (.ireturn, 1) := by decide +kernel
theorem dX6_undo_0 : decode cX6_undo 0 = .ok (.aload_n 0, 1) := by decide +kernel
theorem dX6_undo_1 : decode cX6_undo 1 = .ok (.getfield 51, 3) := by decide +kernel
theorem dX6_undo_4 : decode cX6_undo 4 = .ok (.ifCond .ne 6, 3) := by decide +kernel
theorem dX6_undo_7 : decode cX6_undo 7 = .ok (.bipush (-4), 2) := by decide +kernel
theorem dX6_undo_9 : decode cX6_undo 9 = .ok (.ireturn, 1) := by decide +kernel
theorem dX6_undo_10 : decode cX6_undo 10 = .ok (.aload_n 0, 1) := by decide +kernel
theorem dX6_undo_11 : decode cX6_undo 11 = .ok (.dup, 1) := by decide +kernel
theorem dX6_undo_12 : decode cX6_undo 12 = .ok (.getfield 51, 3) := by decide +kernel
theorem dX6_undo_15 : decode cX6_undo 15 = .ok (.iconst 1, 1) := by decide +kernel
theorem dX6_undo_16 : decode cX6_undo 16 = .ok (.isub, 1) := by decide +kernel
theorem dX6_undo_17 : decode cX6_undo 17 = .ok (.putfield 51, 3) := by decide +kernel
theorem dX6_undo_20 : decode cX6_undo 20 = .ok (.iconst 0, 1) := by decide +kernel
theorem dX6_undo_21 : decode cX6_undo 21 = .ok (.istore_n 1, 1) := by decide +kernel
theorem dX6_undo_22 : decode cX6_undo 22 = .ok (.iload_n 1, 1) := by decide +kernel
theorem dX6_undo_23 : decode cX6_undo 23 = .ok (.sipush 200, 3) := by decide +kernel
theorem dX6_undo_26 : decode cX6_undo 26 = .ok (.if_icmp .ge 30, 3) := by decide +kernel
theorem dX6_undo_29 : decode cX6_undo 29 = .ok (.aload_n 0, 1) := by decide +kernel
theorem dX6_undo_30 : decode cX6_undo 30 = .ok (.getfield 7, 3) := by decide +kernel
theorem dX6_undo_33 : decode cX6_undo 33 = .ok (.iload_n 1, 1) := by decide +kernel
theorem dX6_undo_34 : decode cX6_undo 34 = .ok (.aload_n 0, 1) := by decide +kernel
theorem dX6_undo_35 : decode cX6_undo 35 = .ok (.getfield 23, 3) := by decide +kernel
theorem dX6_undo_38 : decode cX6_undo 38 = .ok (.sipush 200, 3) := by decide +kernel
theorem dX6_undo_41 : decode cX6_undo 41 = .ok (.aload_n 0, 1) := by decide +kernel
theorem dX6_undo_42 : decode cX6_undo 42 = .ok (.getfield 51, 3) := by decide +kernel
theorem dX6_undo_45 : decode cX6_undo 45 = .ok (.imul, 1) := by decide +kernel
theorem dX6_undo_46 : decode cX6_undo 46 = .ok (.iload_n 1, 1) := by decide +kernel
theorem dX6_undo_47 : decode cX6_undo 47 = .ok (.iadd, 1) := by decide +kernel
theorem dX6_undo_48 : decode cX6_undo 48 = .ok (.iaload, 1) := by decide +kernel
theorem dX6_undo_49 : decode cX6_undo 49 = .ok (.iastore, 1) := by decide +kernel
theorem dX6_undo_50 : decode cX6_undo 50 = .ok (.iinc 1 1, 3) := by decide +kernel
theorem dX6_undo_53 : decode cX6_undo 53 = .ok (.goto (-31), 3) := by decide +kernel
theorem dX6_undo_56 : decode cX6_undo 56 = .ok (.iconst 0, 1) := by decide +kernel
theorem dX6_undo_57 : decode cX6_undo 57 = .ok (.istore_n 1, 1) := by decide +kernel
theorem dX6_undo_58 : decode cX6_undo 58 = .ok (.iload_n 1, 1) := by decide +kernel
theorem dX6_undo_59 : decode cX6_undo 59 = .ok (.iconst 3, 1) := by decide +kernel
theorem dX6_undo_60 : decode cX6_undo 60 = .ok (.if_icmp .ge 28, 3) := by decide +kernel
theorem dX6_undo_63 : decode cX6_undo 63 = .ok (.aload_n 0, 1) := by decide +kernel
theorem dX6_undo_64 : decode cX6_undo 64 = .ok (.getfield 13, 3) := by decide +kernel
theorem dX6_undo_67 : decode cX6_undo 67 = .ok (.iload_n 1, 1) := by decide +kernel
theorem dX6_undo_68 : decode cX6_undo 68 = .ok (.aload_n 0, 1) := by decide +kernel
theorem dX6_undo_69 : decode cX6_undo 69 = .ok (.getfield 26, 3) := by decide +kernel
theorem dX6_undo_72 : decode cX6_undo 72 = .ok (.iconst 3, 1) := by decide +kernel
theorem dX6_undo_73 : decode cX6_undo 73 = .ok (.aload_n 0, 1) := by decide +kernel
theorem dX6_undo_74 : decode cX6_undo 74 = .ok (.getfield 51, 3) := by decide +kernel
theorem dX6_undo_77 : decode cX6_undo 77 = .ok (.imul, 1) := by decide +kernel
theorem dX6_undo_78 : decode cX6_undo 78 = .ok (.iload_n 1, 1) := by decide +kernel
theorem dX6_undo_79 : decode cX6_undo 79 = .ok (.iadd, 1) := by decide +kernel
theorem dX6_undo_80 : decode cX6_undo 80 = .ok (.faload, 1) := by decide +kernel
theorem dX6_undo_81 : decode cX6_undo 81 = .ok (.fastore, 1) := by decide +kernel
theorem dX6_undo_82 : decode cX6_undo 82 = .ok (.iinc 1 1, 3) := by decide +kernel
theorem dX6_undo_85 : decode cX6_undo 85 = .ok (.goto (-27), 3) := by decide +kernel
theorem dX6_undo_88 : decode cX6_undo 88 = .ok (.aload_n 0, 1) := by decide +kernel
theorem dX6_undo_89 : decode cX6_undo 89 = .ok (.getfield 51, 3) := by decide +kernel
theorem dX6_undo_92 : decode cX6_undo 92 = .ok (.ireturn, 1) := by decide +kernel
set_option maxRecDepth 20000 in
theorem ggX6_keep_X6_in : GoodIn wsX6_keep wsX6_in := goodIn_r _ [9] (by decide +kernel) (by decide +kernel)
set_option maxRecDepth 20000 in
theorem gX6_keep_X6_in : GoodIn wsX6_keep (va_wsS RX6 55 yX6_in wsX6_in) := goodIn_app (goodIn_of _ (by decide +kernel)) ggX6_keep_X6_in
theorem dX6_keep_0 : decode cX6_keep 0 = .ok (.iload_n 1, 1) := by decide +kernel
theorem dX6_keep_1 : decode cX6_keep 1 = .ok (.iconst 0, 1) := by decide +kernel
theorem dX6_keep_2 : decode cX6_keep 2 = .ok (.iconst 1, 1) := by decide +kernel
theorem dX6_keep_3 : decode cX6_keep 3 = .ok (.invokestatic 55, 3) := by decide +kernel
theorem dX6_keep_6 : decode cX6_keep 6 = .ok (.ifCond .ne 5, 3) := by decide +kernel
theorem dX6_keep_9 : decode cX6_keep 9 = .ok (.iconst (-1), 1) := by decide +kernel
theorem dX6_keep_10 : decode cX6_keep 10 = .ok (.ireturn, 1) := by decide +kernel
theorem dX6_keep_11 : decode cX6_keep 11 = .ok (.aload_n 0, 1) := by decide +kernel
theorem dX6_keep_12 : decode cX6_keep 12 = .ok (.getfield 35, 3) := by decide +kernel
theorem dX6_keep_15 : decode cX6_keep 15 = .ok (.iload_n 1, 1) := by decide +kernel
theorem dX6_keep_16 : decode cX6_keep 16 = .ok (.iconst 1, 1) := by decide +kernel
theorem dX6_keep_17 : decode cX6_keep 17 = .ok (.bastore, 1) := by decide +kernel
theorem dX6_keep_18 : decode cX6_keep 18 = .ok (.iconst 0, 1) := by decide +kernel
theorem dX6_keep_19 : decode cX6_keep 19 = .ok (.istore_n 2, 1) := by decide +kernel
theorem dX6_keep_20 : decode cX6_keep 20 = .ok (.iload_n 2, 1) := by decide +kernel
theorem dX6_keep_21 : decode cX6_keep 21 = .ok (.sipush 200, 3) := by decide +kernel
theorem dX6_keep_24 : decode cX6_keep 24 = .ok (.if_icmp .ge 27, 3) := by decide +kernel
theorem dX6_keep_27 : decode cX6_keep 27 = .ok (.aload_n 0, 1) := by decide +kernel
theorem dX6_keep_28 : decode cX6_keep 28 = .ok (.getfield 29, 3) := by decide +kernel
theorem dX6_keep_31 : decode cX6_keep 31 = .ok (.sipush 200, 3) := by decide +kernel
theorem dX6_keep_34 : decode cX6_keep 34 = .ok (.iload_n 1, 1) := by decide +kernel
theorem dX6_keep_35 : decode cX6_keep 35 = .ok (.imul, 1) := by decide +kernel
theorem dX6_keep_36 : decode cX6_keep 36 = .ok (.iload_n 2, 1) := by decide +kernel
theorem dX6_keep_37 : decode cX6_keep 37 = .ok (.iadd, 1) := by decide +kernel
theorem dX6_keep_38 : decode cX6_keep 38 = .ok (.aload_n 0, 1) := by decide +kernel
theorem dX6_keep_39 : decode cX6_keep 39 = .ok (.getfield 7, 3) := by decide +kernel
theorem dX6_keep_42 : decode cX6_keep 42 = .ok (.iload_n 2, 1) := by decide +kernel
theorem dX6_keep_43 : decode cX6_keep 43 = .ok (.iaload, 1) := by decide +kernel
theorem dX6_keep_44 : decode cX6_keep 44 = .ok (.iastore, 1) := by decide +kernel
theorem dX6_keep_45 : decode cX6_keep 45 = .ok (.iinc 2 1, 3) := by decide +kernel
theorem dX6_keep_48 : decode cX6_keep 48 = .ok (.goto (-28), 3) := by decide +kernel
theorem dX6_keep_51 : decode cX6_keep 51 = .ok (.iconst 0, 1) := by decide +kernel
theorem dX6_keep_52 : decode cX6_keep 52 = .ok (.istore_n 2, 1) := by decide +kernel
theorem dX6_keep_53 : decode cX6_keep 53 = .ok (.iload_n 2, 1) := by decide +kernel
theorem dX6_keep_54 : decode cX6_keep 54 = .ok (.iconst 3, 1) := by decide +kernel
theorem dX6_keep_55 : decode cX6_keep 55 = .ok (.if_icmp .ge 25, 3) := by decide +kernel
theorem dX6_keep_58 : decode cX6_keep 58 = .ok (.aload_n 0, 1) := by decide +kernel
theorem dX6_keep_59 : decode cX6_keep 59 = .ok (.getfield 32, 3) := by decide +kernel
theorem dX6_keep_62 : decode cX6_keep 62 = .ok (.iconst 3, 1) := by decide +kernel
theorem dX6_keep_63 : decode cX6_keep 63 = .ok (.iload_n 1, 1) := by decide +kernel
theorem dX6_keep_64 : decode cX6_keep 64 = .ok (.imul, 1) := by decide +kernel
theorem dX6_keep_65 : decode cX6_keep 65 = .ok (.iload_n 2, 1) := by decide +kernel
theorem dX6_keep_66 : decode cX6_keep 66 = .ok (.iadd, 1) := by decide +kernel
theorem dX6_keep_67 : decode cX6_keep 67 = .ok (.aload_n 0, 1) := by decide +kernel
theorem dX6_keep_68 : decode cX6_keep 68 = .ok (.getfield 13, 3) := by decide +kernel
theorem dX6_keep_71 : decode cX6_keep 71 = .ok (.iload_n 2, 1) := by decide +kernel
theorem dX6_keep_72 : decode cX6_keep 72 = .ok (.faload, 1) := by decide +kernel
theorem dX6_keep_73 : decode cX6_keep 73 = .ok (.fastore, 1) := by decide +kernel
theorem dX6_keep_74 : decode cX6_keep 74 = .ok (.iinc 2 1, 3) := by decide +kernel
theorem dX6_keep_77 : decode cX6_keep 77 = .ok (.goto (-24), 3) := by decide +kernel
theorem dX6_keep_80 : decode cX6_keep 80 = .ok (.aload_n 0, 1) := by decide +kernel
theorem dX6_keep_81 : decode cX6_keep 81 = .ok (.getfield 7, 3) := by decide +kernel
theorem dX6_keep_84 : decode cX6_keep 84 = .ok (.iconst 1, 1) := by decide +kernel
theorem dX6_keep_85 : decode cX6_keep 85 = .ok (.iaload, 1) := by decide +kernel
theorem dX6_keep_86 : decode cX6_keep 86 = .ok (.ireturn, 1) := by decide +kernel
set_option maxRecDepth 20000 in
theorem ggX6_restore_X6_in : GoodIn wsX6_restore wsX6_in := goodIn_r _ [9] (by decide +kernel) (by decide +kernel)
set_option maxRecDepth 20000 in
theorem gX6_restore_X6_in : GoodIn wsX6_restore (va_wsS RX6 55 yX6_in wsX6_in) := goodIn_app (goodIn_of _ (by decide +kernel)) ggX6_restore_X6_in
set_option maxRecDepth 20000 in
theorem ggX6_restore_X6_begin : GoodIn wsX6_restore wsX6_begin := goodIn_r _ [13, 14, 2, 15, 4, 23, 24, 25, 26, 27, 28, 29, 30, 31, 32, 33, 34, 35] (by decide +kernel) (by decide +kernel)
set_option maxRecDepth 20000 in
theorem gX6_restore_X6_begin : GoodIn wsX6_restore (wsV RX6 59 RX6 yX6_begin wsX6_begin) := goodIn_app (goodIn_of _ (by decide +kernel)) ggX6_restore_X6_begin
set_option maxRecDepth 20000 in
theorem ggX6_restore_X6_done : GoodIn wsX6_restore wsX6_done := goodIn_r _ [19, 20, 21, 22, 14, 15, 23, 24, 25, 26, 27, 28, 29, 30, 31, 32, 33, 34, 35] (by decide +kernel) (by decide +kernel)
set_option maxRecDepth 20000 in
theorem gX6_restore_X6_done : GoodIn wsX6_restore (wsV RX6 62 RX6 yX6_done wsX6_done) := goodIn_app (goodIn_of _ (by decide +kernel)) ggX6_restore_X6_done
theorem dX6_restore_0 : decode cX6_restore 0 = .ok (.iload_n 1, 1) := by decide +kernel
theorem dX6_restore_1 : decode cX6_restore 1 = .ok (.iconst 0, 1) := by decide +kernel
theorem dX6_restore_2 : decode cX6_restore 2 = .ok (.iconst 1, 1) := by decide +kernel
theorem dX6_restore_3 : decode cX6_restore 3 = .ok (.invokestatic 55, 3) := by decide +kernel
theorem dX6_restore_6 : decode cX6_restore 6 = .ok (.ifCond .ne 5, 3) := by decide +kernel
theorem dX6_restore_9 : decode cX6_restore 9 = .ok (.iconst (-1), 1) := by decide +kernel
theorem dX6_restore_10 : decode cX6_restore 10 = .ok (.ireturn, 1) := by decide +kernel
theorem dX6_restore_11 : decode cX6_restore 11 = .ok (.aload_n 0, 1) := by decide +kernel
theorem dX6_restore_12 : decode cX6_restore 12 = .ok (.getfield 35, 3) := by decide +kernel
theorem dX6_restore_15 : decode cX6_restore 15 = .ok (.iload_n 1, 1) := by decide +kernel
theorem dX6_restore_16 : decode cX6_restore 16 = .ok (.baload, 1) := by decide +kernel
theorem dX6_restore_17 : decode cX6_restore 17 = .ok (.ifCond .ne 6, 3) := by decide +kernel
theorem dX6_restore_20 : decode cX6_restore 20 = .ok (.bipush (-4), 2) := by decide +kernel
theorem dX6_restore_22 : decode cX6_restore 22 = .ok (.ireturn, 1) := by decide +kernel
theorem dX6_restore_23 : decode cX6_restore 23 = .ok (.aload_n 0, 1) := by decide +kernel
theorem dX6_restore_24 : decode cX6_restore 24 = .ok (.invokevirtual 59, 3) := by decide +kernel
theorem dX6_restore_27 : decode cX6_restore 27 = .ok (.iconst 0, 1) := by decide +kernel
theorem dX6_restore_28 : decode cX6_restore 28 = .ok (.istore_n 2, 1) := by decide +kernel
theorem dX6_restore_29 : decode cX6_restore 29 = .ok (.iload_n 2, 1) := by decide +kernel
theorem dX6_restore_30 : decode cX6_restore 30 = .ok (.sipush 200, 3) := by decide +kernel
theorem dX6_restore_33 : decode cX6_restore 33 = .ok (.if_icmp .ge 27, 3) := by decide +kernel
theorem dX6_restore_36 : decode cX6_restore 36 = .ok (.aload_n 0, 1) := by decide +kernel
theorem dX6_restore_37 : decode cX6_restore 37 = .ok (.getfield 7, 3) := by decide +kernel
theorem dX6_restore_40 : decode cX6_restore 40 = .ok (.iload_n 2, 1) := by decide +kernel
theorem dX6_restore_41 : decode cX6_restore 41 = .ok (.aload_n 0, 1) := by decide +kernel
theorem dX6_restore_42 : decode cX6_restore 42 = .ok (.getfield 29, 3) := by decide +kernel
theorem dX6_restore_45 : decode cX6_restore 45 = .ok (.sipush 200, 3) := by decide +kernel
theorem dX6_restore_48 : decode cX6_restore 48 = .ok (.iload_n 1, 1) := by decide +kernel
theorem dX6_restore_49 : decode cX6_restore 49 = .ok (.imul, 1) := by decide +kernel
theorem dX6_restore_50 : decode cX6_restore 50 = .ok (.iload_n 2, 1) := by decide +kernel
theorem dX6_restore_51 : decode cX6_restore 51 = .ok (.iadd, 1) := by decide +kernel
theorem dX6_restore_52 : decode cX6_restore 52 = .ok (.iaload, 1) := by decide +kernel
theorem dX6_restore_53 : decode cX6_restore 53 = .ok (.iastore, 1) := by decide +kernel
theorem dX6_restore_54 : decode cX6_restore 54 = .ok (.iinc 2 1, 3) := by decide +kernel
theorem dX6_restore_57 : decode cX6_restore 57 = .ok (.goto (-28), 3) := by decide +kernel
theorem dX6_restore_60 : decode cX6_restore 60 = .ok (.iconst 0, 1) := by decide +kernel
theorem dX6_restore_61 : decode cX6_restore 61 = .ok (.istore_n 2, 1) := by decide +kernel
theorem dX6_restore_62 : decode cX6_restore 62 = .ok (.iload_n 2, 1) := by decide +kernel
theorem dX6_restore_63 : decode cX6_restore 63 = .ok (.iconst 3, 1) := by decide +kernel
theorem dX6_restore_64 : decode cX6_restore 64 = .ok (.if_icmp .ge 25, 3) := by decide +kernel
theorem dX6_restore_67 : decode cX6_restore 67 = .ok (.aload_n 0, 1) := by decide +kernel
theorem dX6_restore_68 : decode cX6_restore 68 = .ok (.getfield 13, 3) := by decide +kernel
theorem dX6_restore_71 : decode cX6_restore 71 = .ok (.iload_n 2, 1) := by decide +kernel
theorem dX6_restore_72 : decode cX6_restore 72 = .ok (.aload_n 0, 1) := by decide +kernel
theorem dX6_restore_73 : decode cX6_restore 73 = .ok (.getfield 32, 3) := by decide +kernel
theorem dX6_restore_76 : decode cX6_restore 76 = .ok (.iconst 3, 1) := by decide +kernel
theorem dX6_restore_77 : decode cX6_restore 77 = .ok (.iload_n 1, 1) := by decide +kernel
theorem dX6_restore_78 : decode cX6_restore 78 = .ok (.imul, 1) := by decide +kernel
theorem dX6_restore_79 : decode cX6_restore 79 = .ok (.iload_n 2, 1) := by decide +kernel
theorem dX6_restore_80 : decode cX6_restore 80 = .ok (.iadd, 1) := by decide +kernel
theorem dX6_restore_81 : decode cX6_restore 81 = .ok (.faload, 1) := by decide +kernel
theorem dX6_restore_82 : decode cX6_restore 82 = .ok (.fastore, 1) := by decide +kernel
theorem dX6_restore_83 : decode cX6_restore 83 = .ok (.iinc 2 1, 3) := by decide +kernel
theorem dX6_restore_86 : decode cX6_restore 86 = .ok (.goto (-24), 3) := by decide +kernel
theorem dX6_restore_89 : decode cX6_restore 89 = .ok (.aload_n 0, 1) := by decide +kernel
theorem dX6_restore_90 : decode cX6_restore 90 = .ok (.aload_n 0, 1) := by decide +kernel
theorem dX6_restore_91 : decode cX6_restore 91 = .ok (.getfield 7, 3) := by decide +kernel
theorem dX6_restore_94 : decode cX6_restore 94 = .ok (.iconst 1, 1) := by decide +kernel
theorem dX6_restore_95 : decode cX6_restore 95 = .ok (.iaload, 1) := by decide +kernel
theorem dX6_restore_96 : decode cX6_restore 96 = .ok (.invokevirtual 62, 3) := by decide +kernel
theorem dX6_restore_99 : decode cX6_restore 99 = .ok (.ireturn, 1) := by decide +kernel
theorem dX6_of_0 : decode cX6_of 0 = .ok (.aload_n 0, 1) := by decide +kernel
theorem dX6_of_1 : decode cX6_of 1 = .ok (.getfield 7, 3) := by decide +kernel
theorem dX6_of_4 : decode cX6_of 4 = .ok (.bipush 16, 2) := by decide +kernel
theorem dX6_of_6 : decode cX6_of 6 = .ok (.bipush 6, 2) := by decide +kernel
theorem dX6_of_8 : decode cX6_of 8 = .ok (.iload_n 1, 1) := by decide +kernel
theorem dX6_of_9 : decode cX6_of 9 = .ok (.imul, 1) := by decide +kernel
theorem dX6_of_10 : decode cX6_of 10 = .ok (.iadd, 1) := by decide +kernel
theorem dX6_of_11 : decode cX6_of 11 = .ok (.iload_n 2, 1) := by decide +kernel
theorem dX6_of_12 : decode cX6_of 12 = .ok (.iadd, 1) := by decide +kernel
theorem dX6_of_13 : decode cX6_of 13 = .ok (.iaload, 1) := by decide +kernel
theorem dX6_of_14 : decode cX6_of 14 = .ok (.ireturn, 1) := by decide +kernel
theorem dX6_put_0 : decode cX6_put 0 = .ok (.aload_n 0, 1) := by decide +kernel
theorem dX6_put_1 : decode cX6_put 1 = .ok (.getfield 7, 3) := by decide +kernel
theorem dX6_put_4 : decode cX6_put 4 = .ok (.bipush 16, 2) := by decide +kernel
theorem dX6_put_6 : decode cX6_put 6 = .ok (.bipush 6, 2) := by decide +kernel
theorem dX6_put_8 : decode cX6_put 8 = .ok (.iload_n 1, 1) := by decide +kernel
theorem dX6_put_9 : decode cX6_put 9 = .ok (.imul, 1) := by decide +kernel
theorem dX6_put_10 : decode cX6_put 10 = .ok (.iadd, 1) := by decide +kernel
theorem dX6_put_11 : decode cX6_put 11 = .ok (.iload_n 2, 1) := by decide +kernel
theorem dX6_put_12 : decode cX6_put 12 = .ok (.iadd, 1) := by decide +kernel
theorem dX6_put_13 : decode cX6_put 13 = .ok (.iload_n 3, 1) := by decide +kernel
theorem dX6_put_14 : decode cX6_put 14 = .ok (.iastore, 1) := by decide +kernel
theorem dX6_put_15 : decode cX6_put 15 = .ok (.return_, 1) := by decide +kernel
set_option maxRecDepth 20000 in
theorem ggX6_begins_X6_put : GoodIn wsX6_begins wsX6_put := goodIn_r _ [5, 6, 11, 12, 13, 14, 15, 16, 17, 18, 19, 20, 21, 22, 23] (by decide +kernel) (by decide +kernel)
set_option maxRecDepth 20000 in
theorem gX6_begins_X6_put : GoodIn wsX6_begins (wsV RX6 66 RX6 yX6_put wsX6_put) := goodIn_app (goodIn_of _ (by decide +kernel)) ggX6_begins_X6_put
set_option maxRecDepth 20000 in
theorem ggX6_begins_X6_renew : GoodIn wsX6_begins wsX6_renew := goodIn_r _ [10, 6, 11, 12, 13, 14, 15, 16, 17, 18, 19, 20, 21, 22, 23] (by decide +kernel) (by decide +kernel)
set_option maxRecDepth 20000 in
theorem gX6_begins_X6_renew : GoodIn wsX6_begins (wsV RX6 70 RX6 yX6_renew wsX6_renew) := goodIn_app (goodIn_of _ (by decide +kernel)) ggX6_begins_X6_renew
theorem dX6_begins_0 : decode cX6_begins 0 = .ok (.aload_n 0, 1) := by decide +kernel
theorem dX6_begins_1 : decode cX6_begins 1 = .ok (.iload_n 1, 1) := by decide +kernel
theorem dX6_begins_2 : decode cX6_begins 2 = .ok (.iconst 0, 1) := by decide +kernel
theorem dX6_begins_3 : decode cX6_begins 3 = .ok (.iconst 0, 1) := by decide +kernel
theorem dX6_begins_4 : decode cX6_begins 4 = .ok (.invokevirtual 66, 3) := by decide +kernel
theorem dX6_begins_7 : decode cX6_begins 7 = .ok (.aload_n 0, 1) := by decide +kernel
theorem dX6_begins_8 : decode cX6_begins 8 = .ok (.iload_n 1, 1) := by decide +kernel
theorem dX6_begins_9 : decode cX6_begins 9 = .ok (.iconst 1, 1) := by decide +kernel
theorem dX6_begins_10 : decode cX6_begins 10 = .ok (.bipush 10, 2) := by decide +kernel
theorem dX6_begins_12 : decode cX6_begins 12 = .ok (.invokevirtual 66, 3) := by decide +kernel
theorem dX6_begins_15 : decode cX6_begins 15 = .ok (.aload_n 0, 1) := by decide +kernel
theorem dX6_begins_16 : decode cX6_begins 16 = .ok (.iload_n 1, 1) := by decide +kernel
theorem dX6_begins_17 : decode cX6_begins 17 = .ok (.iconst 2, 1) := by decide +kernel
theorem dX6_begins_18 : decode cX6_begins 18 = .ok (.iconst 1, 1) := by decide +kernel
theorem dX6_begins_19 : decode cX6_begins 19 = .ok (.invokevirtual 66, 3) := by decide +kernel
theorem dX6_begins_22 : decode cX6_begins 22 = .ok (.aload_n 0, 1) := by decide +kernel
theorem dX6_begins_23 : decode cX6_begins 23 = .ok (.iload_n 1, 1) := by decide +kernel
theorem dX6_begins_24 : decode cX6_begins 24 = .ok (.iconst 3, 1) := by decide +kernel
theorem dX6_begins_25 : decode cX6_begins 25 = .ok (.bipush 15, 2) := by decide +kernel
theorem dX6_begins_27 : decode cX6_begins 27 = .ok (.invokevirtual 66, 3) := by decide +kernel
theorem dX6_begins_30 : decode cX6_begins 30 = .ok (.aload_n 0, 1) := by decide +kernel
theorem dX6_begins_31 : decode cX6_begins 31 = .ok (.iload_n 1, 1) := by decide +kernel
theorem dX6_begins_32 : decode cX6_begins 32 = .ok (.iconst 4, 1) := by decide +kernel
theorem dX6_begins_33 : decode cX6_begins 33 = .ok (.iconst 0, 1) := by decide +kernel
theorem dX6_begins_34 : decode cX6_begins 34 = .ok (.invokevirtual 66, 3) := by decide +kernel
theorem dX6_begins_37 : decode cX6_begins 37 = .ok (.aload_n 0, 1) := by decide +kernel
theorem dX6_begins_38 : decode cX6_begins 38 = .ok (.iload_n 1, 1) := by decide +kernel
theorem dX6_begins_39 : decode cX6_begins 39 = .ok (.iconst 5, 1) := by decide +kernel
theorem dX6_begins_40 : decode cX6_begins 40 = .ok (.iconst 0, 1) := by decide +kernel
theorem dX6_begins_41 : decode cX6_begins 41 = .ok (.invokevirtual 66, 3) := by decide +kernel
theorem dX6_begins_44 : decode cX6_begins 44 = .ok (.aload_n 0, 1) := by decide +kernel
theorem dX6_begins_45 : decode cX6_begins 45 = .ok (.iload_n 1, 1) := by decide +kernel
theorem dX6_begins_46 : decode cX6_begins 46 = .ok (.invokevirtual 70, 3) := by decide +kernel
theorem dX6_begins_49 : decode cX6_begins 49 = .ok (.return_, 1) := by decide +kernel
theorem dX6_renew_0 : decode cX6_renew 0 = .ok (.aload_n 0, 1) := by decide +kernel
theorem dX6_renew_1 : decode cX6_renew 1 = .ok (.getfield 7, 3) := by decide +kernel
theorem dX6_renew_4 : decode cX6_renew 4 = .ok (.sipush 192, 3) := by decide +kernel
theorem dX6_renew_7 : decode cX6_renew 7 = .ok (.iload_n 1, 1) := by decide +kernel
theorem dX6_renew_8 : decode cX6_renew 8 = .ok (.iadd, 1) := by decide +kernel
theorem dX6_renew_9 : decode cX6_renew 9 = .ok (.iconst 0, 1) := by decide +kernel
theorem dX6_renew_10 : decode cX6_renew 10 = .ok (.iastore, 1) := by decide +kernel
theorem dX6_renew_11 : decode cX6_renew 11 = .ok (.iconst 0, 1) := by decide +kernel
theorem dX6_renew_12 : decode cX6_renew 12 = .ok (.istore_n 2, 1) := by decide +kernel
theorem dX6_renew_13 : decode cX6_renew 13 = .ok (.iload_n 2, 1) := by decide +kernel
theorem dX6_renew_14 : decode cX6_renew 14 = .ok (.bipush 8, 2) := by decide +kernel
theorem dX6_renew_16 : decode cX6_renew 16 = .ok (.if_icmp .ge 40, 3) := by decide +kernel
theorem dX6_renew_19 : decode cX6_renew 19 = .ok (.aload_n 0, 1) := by decide +kernel
theorem dX6_renew_20 : decode cX6_renew 20 = .ok (.getfield 7, 3) := by decide +kernel
theorem dX6_renew_23 : decode cX6_renew 23 = .ok (.bipush 64, 2) := by decide +kernel
theorem dX6_renew_25 : decode cX6_renew 25 = .ok (.bipush 8, 2) := by decide +kernel
theorem dX6_renew_27 : decode cX6_renew 27 = .ok (.iload_n 1, 1) := by decide +kernel
theorem dX6_renew_28 : decode cX6_renew 28 = .ok (.imul, 1) := by decide +kernel
theorem dX6_renew_29 : decode cX6_renew 29 = .ok (.iadd, 1) := by decide +kernel
theorem dX6_renew_30 : decode cX6_renew 30 = .ok (.iload_n 2, 1) := by decide +kernel
theorem dX6_renew_31 : decode cX6_renew 31 = .ok (.iadd, 1) := by decide +kernel
theorem dX6_renew_32 : decode cX6_renew 32 = .ok (.iconst 0, 1) := by decide +kernel
theorem dX6_renew_33 : decode cX6_renew 33 = .ok (.iastore, 1) := by decide +kernel
theorem dX6_renew_34 : decode cX6_renew 34 = .ok (.aload_n 0, 1) := by decide +kernel
theorem dX6_renew_35 : decode cX6_renew 35 = .ok (.getfield 7, 3) := by decide +kernel
theorem dX6_renew_38 : decode cX6_renew 38 = .ok (.sipush 128, 3) := by decide +kernel
theorem dX6_renew_41 : decode cX6_renew 41 = .ok (.bipush 8, 2) := by decide +kernel
theorem dX6_renew_43 : decode cX6_renew 43 = .ok (.iload_n 1, 1) := by decide +kernel
theorem dX6_renew_44 : decode cX6_renew 44 = .ok (.imul, 1) := by decide +kernel
theorem dX6_renew_45 : decode cX6_renew 45 = .ok (.iadd, 1) := by decide +kernel
theorem dX6_renew_46 : decode cX6_renew 46 = .ok (.iload_n 2, 1) := by decide +kernel
theorem dX6_renew_47 : decode cX6_renew 47 = .ok (.iadd, 1) := by decide +kernel
theorem dX6_renew_48 : decode cX6_renew 48 = .ok (.iconst 0, 1) := by decide +kernel
theorem dX6_renew_49 : decode cX6_renew 49 = .ok (.iastore, 1) := by decide +kernel
theorem dX6_renew_50 : decode cX6_renew 50 = .ok (.iinc 2 1, 3) := by decide +kernel
theorem dX6_renew_53 : decode cX6_renew 53 = .ok (.goto (-40), 3) := by decide +kernel
theorem dX6_renew_56 : decode cX6_renew 56 = .ok (.return_, 1) := by decide +kernel
set_option maxRecDepth 20000 in
theorem ggX6_noDigit_X6_in : GoodIn wsX6_noDigit wsX6_in := goodIn_r _ [5] (by decide +kernel) (by decide +kernel)
set_option maxRecDepth 20000 in
theorem gX6_noDigit_X6_in : GoodIn wsX6_noDigit (va_wsS RX6 55 yX6_in wsX6_in) := goodIn_app (goodIn_of _ (by decide +kernel)) ggX6_noDigit_X6_in
theorem dX6_noDigit_0 : decode cX6_noDigit 0 = .ok (.iload_n 1, 1) := by decide +kernel
theorem dX6_noDigit_1 : decode cX6_noDigit 1 = .ok (.iconst 0, 1) := by decide +kernel
theorem dX6_noDigit_2 : decode cX6_noDigit 2 = .ok (.aload_n 0, 1) := by decide +kernel
theorem dX6_noDigit_3 : decode cX6_noDigit 3 = .ok (.getfield 7, 3) := by decide +kernel
theorem dX6_noDigit_6 : decode cX6_noDigit 6 = .ok (.iconst 0, 1) := by decide +kernel
theorem dX6_noDigit_7 : decode cX6_noDigit 7 = .ok (.iaload, 1) := by decide +kernel
theorem dX6_noDigit_8 : decode cX6_noDigit 8 = .ok (.iconst 1, 1) := by decide +kernel
theorem dX6_noDigit_9 : decode cX6_noDigit 9 = .ok (.isub, 1) := by decide +kernel
theorem dX6_noDigit_10 : decode cX6_noDigit 10 = .ok (.invokestatic 55, 3) := by decide +kernel
theorem dX6_noDigit_13 : decode cX6_noDigit 13 = .ok (.ifCond .ne 7, 3) := by decide +kernel
theorem dX6_noDigit_16 : decode cX6_noDigit 16 = .ok (.iconst 1, 1) := by decide +kernel
theorem dX6_noDigit_17 : decode cX6_noDigit 17 = .ok (.goto 4, 3) := by decide +kernel
theorem dX6_noDigit_20 : decode cX6_noDigit 20 = .ok (.iconst 0, 1) := by decide +kernel
theorem dX6_noDigit_21 : decode cX6_noDigit 21 = .ok (.ireturn, 1) := by decide +kernel
set_option maxRecDepth 20000 in
theorem ggX6_litPart_X6_of : GoodIn wsX6_litPart wsX6_of := goodIn_r _ [5, 6, 7, 8, 9, 10, 11, 12, 13, 14, 15, 16, 17, 18, 19] (by decide +kernel) (by decide +kernel)
set_option maxRecDepth 20000 in
theorem gX6_litPart_X6_of : GoodIn wsX6_litPart (wsV RX6 73 RX6 yX6_of wsX6_of) := goodIn_app (goodIn_of _ (by decide +kernel)) ggX6_litPart_X6_of
theorem dX6_litPart_0 : decode cX6_litPart 0 = .ok (.aload_n 0, 1) := by decide +kernel
theorem dX6_litPart_1 : decode cX6_litPart 1 = .ok (.iload_n 1, 1) := by decide +kernel
theorem dX6_litPart_2 : decode cX6_litPart 2 = .ok (.iconst 1, 1) := by decide +kernel
theorem dX6_litPart_3 : decode cX6_litPart 3 = .ok (.invokevirtual 73, 3) := by decide +kernel
theorem dX6_litPart_6 : decode cX6_litPart 6 = .ok (.aload_n 0, 1) := by decide +kernel
theorem dX6_litPart_7 : decode cX6_litPart 7 = .ok (.iload_n 1, 1) := by decide +kernel
theorem dX6_litPart_8 : decode cX6_litPart 8 = .ok (.iconst 2, 1) := by decide +kernel
theorem dX6_litPart_9 : decode cX6_litPart 9 = .ok (.invokevirtual 73, 3) := by decide +kernel
theorem dX6_litPart_12 : decode cX6_litPart 12 = .ok (.isub, 1) := by decide +kernel
theorem dX6_litPart_13 : decode cX6_litPart 13 = .ok (.aload_n 0, 1) := by decide +kernel
theorem dX6_litPart_14 : decode cX6_litPart 14 = .ok (.iload_n 1, 1) := by decide +kernel
theorem dX6_litPart_15 : decode cX6_litPart 15 = .ok (.iconst 3, 1) := by decide +kernel
theorem dX6_litPart_16 : decode cX6_litPart 16 = .ok (.invokevirtual 73, 3) := by decide +kernel
theorem dX6_litPart_19 : decode cX6_litPart 19 = .ok (.imul, 1) := by decide +kernel
theorem dX6_litPart_20 : decode cX6_litPart 20 = .ok (.bipush 15, 2) := by decide +kernel
theorem dX6_litPart_22 : decode cX6_litPart 22 = .ok (.idiv, 1) := by decide +kernel
theorem dX6_litPart_23 : decode cX6_litPart 23 = .ok (.ireturn, 1) := by decide +kernel
set_option maxRecDepth 20000 in
theorem ggX6_beginOf_X6_of : GoodIn wsX6_beginOf wsX6_of := goodIn_r _ [5, 6, 7, 8, 9, 10, 11, 12, 13, 14, 15, 16, 17, 18, 19] (by decide +kernel) (by decide +kernel)
set_option maxRecDepth 20000 in
theorem gX6_beginOf_X6_of : GoodIn wsX6_beginOf (wsV RX6 73 RX6 yX6_of wsX6_of) := goodIn_app (goodIn_of _ (by decide +kernel)) ggX6_beginOf_X6_of
theorem dX6_beginOf_0 : decode cX6_beginOf 0 = .ok (.iconst 0, 1) := by decide +kernel
theorem dX6_beginOf_1 : decode cX6_beginOf 1 = .ok (.istore_n 2, 1) := by decide +kernel
theorem dX6_beginOf_2 : decode cX6_beginOf 2 = .ok (.iconst 0, 1) := by decide +kernel
theorem dX6_beginOf_3 : decode cX6_beginOf 3 = .ok (.istore_n 3, 1) := by decide +kernel
theorem dX6_beginOf_4 : decode cX6_beginOf 4 = .ok (.iload_n 3, 1) := by decide +kernel
theorem dX6_beginOf_5 : decode cX6_beginOf 5 = .ok (.iload_n 1, 1) := by decide +kernel
theorem dX6_beginOf_6 : decode cX6_beginOf 6 = .ok (.if_icmp .ge 18, 3) := by decide +kernel
theorem dX6_beginOf_9 : decode cX6_beginOf 9 = .ok (.iload_n 2, 1) := by decide +kernel
theorem dX6_beginOf_10 : decode cX6_beginOf 10 = .ok (.aload_n 0, 1) := by decide +kernel
theorem dX6_beginOf_11 : decode cX6_beginOf 11 = .ok (.iload_n 3, 1) := by decide +kernel
theorem dX6_beginOf_12 : decode cX6_beginOf 12 = .ok (.iconst 1, 1) := by decide +kernel
theorem dX6_beginOf_13 : decode cX6_beginOf 13 = .ok (.invokevirtual 73, 3) := by decide +kernel
theorem dX6_beginOf_16 : decode cX6_beginOf 16 = .ok (.iadd, 1) := by decide +kernel
theorem dX6_beginOf_17 : decode cX6_beginOf 17 = .ok (.istore_n 2, 1) := by decide +kernel
theorem dX6_beginOf_18 : decode cX6_beginOf 18 = .ok (.iinc 3 1, 3) := by decide +kernel
theorem dX6_beginOf_21 : decode cX6_beginOf 21 = .ok (.goto (-17), 3) := by decide +kernel
theorem dX6_beginOf_24 : decode cX6_beginOf 24 = .ok (.iload_n 2, 1) := by decide +kernel
theorem dX6_beginOf_25 : decode cX6_beginOf 25 = .ok (.ireturn, 1) := by decide +kernel
set_option maxRecDepth 20000 in
theorem ggX6_frameLength_X6_beginOf : GoodIn wsX6_frameLength wsX6_beginOf := goodIn_r _ [6, 7, 8, 9, 5, 10, 1, 11, 12, 13, 14, 15, 16, 17, 18, 19, 20, 21, 22, 23] (by decide +kernel) (by decide +kernel)
set_option maxRecDepth 20000 in
theorem gX6_frameLength_X6_beginOf : GoodIn wsX6_frameLength (wsV RX6 77 RX6 yX6_beginOf wsX6_beginOf) := goodIn_app (goodIn_of _ (by decide +kernel)) ggX6_frameLength_X6_beginOf
theorem dX6_frameLength_0 : decode cX6_frameLength 0 = .ok (.aload_n 0, 1) := by decide +kernel
theorem dX6_frameLength_1 : decode cX6_frameLength 1 = .ok (.aload_n 0, 1) := by decide +kernel
theorem dX6_frameLength_2 : decode cX6_frameLength 2 = .ok (.getfield 7, 3) := by decide +kernel
theorem dX6_frameLength_5 : decode cX6_frameLength 5 = .ok (.iconst 0, 1) := by decide +kernel
theorem dX6_frameLength_6 : decode cX6_frameLength 6 = .ok (.iaload, 1) := by decide +kernel
theorem dX6_frameLength_7 : decode cX6_frameLength 7 = .ok (.invokevirtual 77, 3) := by decide +kernel
theorem dX6_frameLength_10 : decode cX6_frameLength 10 = .ok (.ireturn, 1) := by decide +kernel
theorem dX6_endFrame_0 : decode cX6_endFrame 0 = .ok (.aload_n 0, 1) := by decide +kernel
theorem dX6_endFrame_1 : decode cX6_endFrame 1 = .ok (.getfield 7, 3) := by decide +kernel
theorem dX6_endFrame_4 : decode cX6_endFrame 4 = .ok (.iconst 2, 1) := by decide +kernel
theorem dX6_endFrame_5 : decode cX6_endFrame 5 = .ok (.dup2, 1) := by decide +kernel
theorem dX6_endFrame_6 : decode cX6_endFrame 6 = .ok (.iaload, 1) := by decide +kernel
theorem dX6_endFrame_7 : decode cX6_endFrame 7 = .ok (.iconst 1, 1) := by decide +kernel
theorem dX6_endFrame_8 : decode cX6_endFrame 8 = .ok (.iadd, 1) := by decide +kernel
theorem dX6_endFrame_9 : decode cX6_endFrame 9 = .ok (.iastore, 1) := by decide +kernel
theorem dX6_endFrame_10 : decode cX6_endFrame 10 = .ok (.aload_n 0, 1) := by decide +kernel
theorem dX6_endFrame_11 : decode cX6_endFrame 11 = .ok (.getfield 7, 3) := by decide +kernel
theorem dX6_endFrame_14 : decode cX6_endFrame 14 = .ok (.iconst 3, 1) := by decide +kernel
theorem dX6_endFrame_15 : decode cX6_endFrame 15 = .ok (.iconst 0, 1) := by decide +kernel
theorem dX6_endFrame_16 : decode cX6_endFrame 16 = .ok (.iastore, 1) := by decide +kernel
theorem dX6_endFrame_17 : decode cX6_endFrame 17 = .ok (.aload_n 0, 1) := by decide +kernel
theorem dX6_endFrame_18 : decode cX6_endFrame 18 = .ok (.getfield 7, 3) := by decide +kernel
theorem dX6_endFrame_21 : decode cX6_endFrame 21 = .ok (.iconst 4, 1) := by decide +kernel
theorem dX6_endFrame_22 : decode cX6_endFrame 22 = .ok (.dup2, 1) := by decide +kernel
theorem dX6_endFrame_23 : decode cX6_endFrame 23 = .ok (.iaload, 1) := by decide +kernel
theorem dX6_endFrame_24 : decode cX6_endFrame 24 = .ok (.aload_n 0, 1) := by decide +kernel
theorem dX6_endFrame_25 : decode cX6_endFrame 25 = .ok (.getfield 7, 3) := by decide +kernel
theorem dX6_endFrame_28 : decode cX6_endFrame 28 = .ok (.iconst 4, 1) := by decide +kernel
theorem dX6_endFrame_29 : decode cX6_endFrame 29 = .ok (.iaload, 1) := by decide +kernel
theorem dX6_endFrame_30 : decode cX6_endFrame 30 = .ok (.ifCond .le 7, 3) := by decide +kernel
theorem dX6_endFrame_33 : decode cX6_endFrame 33 = .ok (.iconst 1, 1) := by decide +kernel
theorem dX6_endFrame_34 : decode cX6_endFrame 34 = .ok (.goto 4, 3) := by decide +kernel
theorem dX6_endFrame_37 : decode cX6_endFrame 37 = .ok (.iconst 0, 1) := by decide +kernel
theorem dX6_endFrame_38 : decode cX6_endFrame 38 = .ok (.isub, 1) := by decide +kernel
theorem dX6_endFrame_39 : decode cX6_endFrame 39 = .ok (.iastore, 1) := by decide +kernel
theorem dX6_endFrame_40 : decode cX6_endFrame 40 = .ok (.return_, 1) := by decide +kernel
set_option maxRecDepth 20000 in
theorem ggX6_setDigits_X6_in : GoodIn wsX6_setDigits wsX6_in := goodIn_r _ [5] (by decide +kernel) (by decide +kernel)
set_option maxRecDepth 20000 in
theorem gX6_setDigits_X6_in : GoodIn wsX6_setDigits (va_wsS RX6 55 yX6_in wsX6_in) := goodIn_app (goodIn_of _ (by decide +kernel)) ggX6_setDigits_X6_in
set_option maxRecDepth 20000 in
theorem ggX6_setDigits_X6_begin : GoodIn wsX6_setDigits wsX6_begin := goodIn_r _ [9, 10, 1, 11, 12, 36, 37, 38, 39, 40, 41, 42, 43, 44, 45, 46, 47, 48] (by decide +kernel) (by decide +kernel)
set_option maxRecDepth 20000 in
theorem gX6_setDigits_X6_begin : GoodIn wsX6_setDigits (wsV RX6 59 RX6 yX6_begin wsX6_begin) := goodIn_app (goodIn_of _ (by decide +kernel)) ggX6_setDigits_X6_begin
set_option maxRecDepth 20000 in
theorem ggX6_setDigits_X6_begins : GoodIn wsX6_setDigits wsX6_begins := goodIn_r _ [16, 17, 18, 19, 4, 20, 1, 21, 22, 23, 24, 36, 37, 38, 39, 40, 41, 42, 43, 44, 45, 46, 47, 48] (by decide +kernel) (by decide +kernel)
set_option maxRecDepth 20000 in
theorem gX6_setDigits_X6_begins : GoodIn wsX6_setDigits (wsV RX6 47 RX6 yX6_begins wsX6_begins) := goodIn_app (goodIn_of _ (by decide +kernel)) ggX6_setDigits_X6_begins
set_option maxRecDepth 20000 in
theorem ggX6_setDigits_X6_endFrame : GoodIn wsX6_setDigits wsX6_endFrame := goodIn_r _ [28, 1, 36, 37, 38, 39, 40, 41, 42, 43, 44, 45, 46, 47, 48] (by decide +kernel) (by decide +kernel)
set_option maxRecDepth 20000 in
theorem gX6_setDigits_X6_endFrame : GoodIn wsX6_setDigits (wsV RX6 80 RX6 yX6_endFrame wsX6_endFrame) := goodIn_app (goodIn_of _ (by decide +kernel)) ggX6_setDigits_X6_endFrame
set_option maxRecDepth 20000 in
theorem ggX6_setDigits_X6_done : GoodIn wsX6_setDigits wsX6_done := goodIn_r _ [32, 33, 34, 35, 10, 11, 36, 37, 38, 39, 40, 41, 42, 43, 44, 45, 46, 47, 48] (by decide +kernel) (by decide +kernel)
set_option maxRecDepth 20000 in
theorem gX6_setDigits_X6_done : GoodIn wsX6_setDigits (wsV RX6 62 RX6 yX6_done wsX6_done) := goodIn_app (goodIn_of _ (by decide +kernel)) ggX6_setDigits_X6_done
theorem dX6_setDigits_0 : decode cX6_setDigits 0 = .ok (.iload_n 1, 1) := by decide +kernel
theorem dX6_setDigits_1 : decode cX6_setDigits 1 = .ok (.iconst 1, 1) := by decide +kernel
theorem dX6_setDigits_2 : decode cX6_setDigits 2 = .ok (.bipush 8, 2) := by decide +kernel
theorem dX6_setDigits_4 : decode cX6_setDigits 4 = .ok (.invokestatic 55, 3) := by decide +kernel
theorem dX6_setDigits_7 : decode cX6_setDigits 7 = .ok (.ifCond .ne 6, 3) := by decide +kernel
theorem dX6_setDigits_10 : decode cX6_setDigits 10 = .ok (.bipush (-2), 2) := by decide +kernel
theorem dX6_setDigits_12 : decode cX6_setDigits 12 = .ok (.ireturn, 1) := by decide +kernel
theorem dX6_setDigits_13 : decode cX6_setDigits 13 = .ok (.aload_n 0, 1) := by decide +kernel
theorem dX6_setDigits_14 : decode cX6_setDigits 14 = .ok (.invokevirtual 59, 3) := by decide +kernel
theorem dX6_setDigits_17 : decode cX6_setDigits 17 = .ok (.aload_n 0, 1) := by decide +kernel
theorem dX6_setDigits_18 : decode cX6_setDigits 18 = .ok (.getfield 7, 3) := by decide +kernel
theorem dX6_setDigits_21 : decode cX6_setDigits 21 = .ok (.iconst 0, 1) := by decide +kernel
theorem dX6_setDigits_22 : decode cX6_setDigits 22 = .ok (.iaload, 1) := by decide +kernel
theorem dX6_setDigits_23 : decode cX6_setDigits 23 = .ok (.istore_n 2, 1) := by decide +kernel
theorem dX6_setDigits_24 : decode cX6_setDigits 24 = .ok (.iload_n 2, 1) := by decide +kernel
theorem dX6_setDigits_25 : decode cX6_setDigits 25 = .ok (.istore_n 3, 1) := by decide +kernel
theorem dX6_setDigits_26 : decode cX6_setDigits 26 = .ok (.iload_n 3, 1) := by decide +kernel
theorem dX6_setDigits_27 : decode cX6_setDigits 27 = .ok (.iload_n 1, 1) := by decide +kernel
theorem dX6_setDigits_28 : decode cX6_setDigits 28 = .ok (.if_icmp .ge 14, 3) := by decide +kernel
theorem dX6_setDigits_31 : decode cX6_setDigits 31 = .ok (.aload_n 0, 1) := by decide +kernel
theorem dX6_setDigits_32 : decode cX6_setDigits 32 = .ok (.iload_n 3, 1) := by decide +kernel
theorem dX6_setDigits_33 : decode cX6_setDigits 33 = .ok (.invokevirtual 47, 3) := by decide +kernel
theorem dX6_setDigits_36 : decode cX6_setDigits 36 = .ok (.iinc 3 1, 3) := by decide +kernel
theorem dX6_setDigits_39 : decode cX6_setDigits 39 = .ok (.goto (-13), 3) := by decide +kernel
theorem dX6_setDigits_42 : decode cX6_setDigits 42 = .ok (.aload_n 0, 1) := by decide +kernel
theorem dX6_setDigits_43 : decode cX6_setDigits 43 = .ok (.getfield 7, 3) := by decide +kernel
theorem dX6_setDigits_46 : decode cX6_setDigits 46 = .ok (.iconst 0, 1) := by decide +kernel
theorem dX6_setDigits_47 : decode cX6_setDigits 47 = .ok (.iload_n 1, 1) := by decide +kernel
theorem dX6_setDigits_48 : decode cX6_setDigits 48 = .ok (.iastore, 1) := by decide +kernel
theorem dX6_setDigits_49 : decode cX6_setDigits 49 = .ok (.iload_n 2, 1) := by decide +kernel
theorem dX6_setDigits_50 : decode cX6_setDigits 50 = .ok (.iload_n 1, 1) := by decide +kernel
theorem dX6_setDigits_51 : decode cX6_setDigits 51 = .ok (.if_icmp .eq 7, 3) := by decide +kernel
theorem dX6_setDigits_54 : decode cX6_setDigits 54 = .ok (.aload_n 0, 1) := by decide +kernel
theorem dX6_setDigits_55 : decode cX6_setDigits 55 = .ok (.invokevirtual 80, 3) := by decide +kernel
theorem dX6_setDigits_58 : decode cX6_setDigits 58 = .ok (.aload_n 0, 1) := by decide +kernel
theorem dX6_setDigits_59 : decode cX6_setDigits 59 = .ok (.iload_n 2, 1) := by decide +kernel
theorem dX6_setDigits_60 : decode cX6_setDigits 60 = .ok (.invokevirtual 62, 3) := by decide +kernel
theorem dX6_setDigits_63 : decode cX6_setDigits 63 = .ok (.ireturn, 1) := by decide +kernel
set_option maxRecDepth 20000 in
theorem ggX6_setWidth_X6_noDigit : GoodIn wsX6_setWidth wsX6_noDigit := goodIn_r _ [5, 6, 7, 8, 4, 9, 44, 45, 46, 47, 48, 49, 50, 51, 52, 53, 54, 55, 56] (by decide +kernel) (by decide +kernel)
set_option maxRecDepth 20000 in
theorem gX6_setWidth_X6_noDigit : GoodIn wsX6_setWidth (wsV RX6 83 RX6 yX6_noDigit wsX6_noDigit) := goodIn_app (goodIn_of _ (by decide +kernel)) ggX6_setWidth_X6_noDigit
set_option maxRecDepth 20000 in
theorem ggX6_setWidth_X6_in : GoodIn wsX6_setWidth wsX6_in := goodIn_r _ [9] (by decide +kernel) (by decide +kernel)
set_option maxRecDepth 20000 in
theorem gX6_setWidth_X6_in : GoodIn wsX6_setWidth (va_wsS RX6 55 yX6_in wsX6_in) := goodIn_app (goodIn_of _ (by decide +kernel)) ggX6_setWidth_X6_in
set_option maxRecDepth 20000 in
theorem ggX6_setWidth_X6_begin : GoodIn wsX6_setWidth wsX6_begin := goodIn_r _ [13, 14, 6, 15, 16, 44, 45, 46, 47, 48, 49, 50, 51, 52, 53, 54, 55, 56] (by decide +kernel) (by decide +kernel)
set_option maxRecDepth 20000 in
theorem gX6_setWidth_X6_begin : GoodIn wsX6_setWidth (wsV RX6 59 RX6 yX6_begin wsX6_begin) := goodIn_app (goodIn_of _ (by decide +kernel)) ggX6_setWidth_X6_begin
set_option maxRecDepth 20000 in
theorem ggX6_setWidth_X6_of : GoodIn wsX6_setWidth wsX6_of := goodIn_r _ [20, 6, 44, 45, 46, 47, 48, 49, 50, 51, 52, 53, 54, 55, 56] (by decide +kernel) (by decide +kernel)
set_option maxRecDepth 20000 in
theorem gX6_setWidth_X6_of : GoodIn wsX6_setWidth (wsV RX6 73 RX6 yX6_of wsX6_of) := goodIn_app (goodIn_of _ (by decide +kernel)) ggX6_setWidth_X6_of
set_option maxRecDepth 20000 in
theorem ggX6_setWidth_X6_put : GoodIn wsX6_setWidth wsX6_put := goodIn_r _ [24, 6, 44, 45, 46, 47, 48, 49, 50, 51, 52, 53, 54, 55, 56] (by decide +kernel) (by decide +kernel)
set_option maxRecDepth 20000 in
theorem gX6_setWidth_X6_put : GoodIn wsX6_setWidth (wsV RX6 66 RX6 yX6_put wsX6_put) := goodIn_app (goodIn_of _ (by decide +kernel)) ggX6_setWidth_X6_put
set_option maxRecDepth 20000 in
theorem ggX6_setWidth_X6_endFrame : GoodIn wsX6_setWidth wsX6_endFrame := goodIn_r _ [28, 6, 44, 45, 46, 47, 48, 49, 50, 51, 52, 53, 54, 55, 56] (by decide +kernel) (by decide +kernel)
set_option maxRecDepth 20000 in
theorem gX6_setWidth_X6_endFrame : GoodIn wsX6_setWidth (wsV RX6 80 RX6 yX6_endFrame wsX6_endFrame) := goodIn_app (goodIn_of _ (by decide +kernel)) ggX6_setWidth_X6_endFrame
set_option maxRecDepth 20000 in
theorem ggX6_setWidth_X6_frameLength : GoodIn wsX6_setWidth wsX6_frameLength := goodIn_r _ [32, 6, 33, 34, 35, 4, 36, 17, 18, 19, 20, 44, 45, 46, 47, 48, 49, 50, 51, 52, 53, 54, 55, 56] (by decide +kernel) (by decide +kernel)
set_option maxRecDepth 20000 in
theorem gX6_setWidth_X6_frameLength : GoodIn wsX6_setWidth (wsV RX6 87 RX6 yX6_frameLength wsX6_frameLength) := goodIn_app (goodIn_of _ (by decide +kernel)) ggX6_setWidth_X6_frameLength
set_option maxRecDepth 20000 in
theorem ggX6_setWidth_X6_done : GoodIn wsX6_setWidth wsX6_done := goodIn_r _ [40, 41, 42, 43, 14, 15, 44, 45, 46, 47, 48, 49, 50, 51, 52, 53, 54, 55, 56] (by decide +kernel) (by decide +kernel)
set_option maxRecDepth 20000 in
theorem gX6_setWidth_X6_done : GoodIn wsX6_setWidth (wsV RX6 62 RX6 yX6_done wsX6_done) := goodIn_app (goodIn_of _ (by decide +kernel)) ggX6_setWidth_X6_done
theorem dX6_setWidth_0 : decode cX6_setWidth 0 = .ok (.aload_n 0, 1) := by decide +kernel
theorem dX6_setWidth_1 : decode cX6_setWidth 1 = .ok (.iload_n 1, 1) := by decide +kernel
theorem dX6_setWidth_2 : decode cX6_setWidth 2 = .ok (.invokevirtual 83, 3) := by decide +kernel
theorem dX6_setWidth_5 : decode cX6_setWidth 5 = .ok (.ifCond .eq 5, 3) := by decide +kernel
theorem dX6_setWidth_8 : decode cX6_setWidth 8 = .ok (.iconst (-1), 1) := by decide +kernel
theorem dX6_setWidth_9 : decode cX6_setWidth 9 = .ok (.ireturn, 1) := by decide +kernel
theorem dX6_setWidth_10 : decode cX6_setWidth 10 = .ok (.iload_n 2, 1) := by decide +kernel
theorem dX6_setWidth_11 : decode cX6_setWidth 11 = .ok (.iconst 4, 1) := by decide +kernel
theorem dX6_setWidth_12 : decode cX6_setWidth 12 = .ok (.bipush 40, 2) := by decide +kernel
theorem dX6_setWidth_14 : decode cX6_setWidth 14 = .ok (.invokestatic 55, 3) := by decide +kernel
theorem dX6_setWidth_17 : decode cX6_setWidth 17 = .ok (.ifCond .ne 6, 3) := by decide +kernel
theorem dX6_setWidth_20 : decode cX6_setWidth 20 = .ok (.bipush (-2), 2) := by decide +kernel
theorem dX6_setWidth_22 : decode cX6_setWidth 22 = .ok (.ireturn, 1) := by decide +kernel
theorem dX6_setWidth_23 : decode cX6_setWidth 23 = .ok (.aload_n 0, 1) := by decide +kernel
theorem dX6_setWidth_24 : decode cX6_setWidth 24 = .ok (.invokevirtual 59, 3) := by decide +kernel
theorem dX6_setWidth_27 : decode cX6_setWidth 27 = .ok (.aload_n 0, 1) := by decide +kernel
theorem dX6_setWidth_28 : decode cX6_setWidth 28 = .ok (.iload_n 1, 1) := by decide +kernel
theorem dX6_setWidth_29 : decode cX6_setWidth 29 = .ok (.iconst 1, 1) := by decide +kernel
theorem dX6_setWidth_30 : decode cX6_setWidth 30 = .ok (.invokevirtual 73, 3) := by decide +kernel
theorem dX6_setWidth_33 : decode cX6_setWidth 33 = .ok (.iload_n 2, 1) := by decide +kernel
theorem dX6_setWidth_34 : decode cX6_setWidth 34 = .ok (.if_icmp .eq 7, 3) := by decide +kernel
theorem dX6_setWidth_37 : decode cX6_setWidth 37 = .ok (.iconst 1, 1) := by decide +kernel
theorem dX6_setWidth_38 : decode cX6_setWidth 38 = .ok (.goto 4, 3) := by decide +kernel
theorem dX6_setWidth_41 : decode cX6_setWidth 41 = .ok (.iconst 0, 1) := by decide +kernel
theorem dX6_setWidth_42 : decode cX6_setWidth 42 = .ok (.istore_n 3, 1) := by decide +kernel
theorem dX6_setWidth_43 : decode cX6_setWidth 43 = .ok (.aload_n 0, 1) := by decide +kernel
theorem dX6_setWidth_44 : decode cX6_setWidth 44 = .ok (.iload_n 1, 1) := by decide +kernel
theorem dX6_setWidth_45 : decode cX6_setWidth 45 = .ok (.iconst 1, 1) := by decide +kernel
theorem dX6_setWidth_46 : decode cX6_setWidth 46 = .ok (.iload_n 2, 1) := by decide +kernel
theorem dX6_setWidth_47 : decode cX6_setWidth 47 = .ok (.invokevirtual 66, 3) := by decide +kernel
theorem dX6_setWidth_50 : decode cX6_setWidth 50 = .ok (.iload_n 3, 1) := by decide +kernel
theorem dX6_setWidth_51 : decode cX6_setWidth 51 = .ok (.ifCond .eq 7, 3) := by decide +kernel
theorem dX6_setWidth_54 : decode cX6_setWidth 54 = .ok (.aload_n 0, 1) := by decide +kernel
theorem dX6_setWidth_55 : decode cX6_setWidth 55 = .ok (.invokevirtual 80, 3) := by decide +kernel
theorem dX6_setWidth_58 : decode cX6_setWidth 58 = .ok (.aload_n 0, 1) := by decide +kernel
theorem dX6_setWidth_59 : decode cX6_setWidth 59 = .ok (.aload_n 0, 1) := by decide +kernel
theorem dX6_setWidth_60 : decode cX6_setWidth 60 = .ok (.invokevirtual 87, 3) := by decide +kernel
theorem dX6_setWidth_63 : decode cX6_setWidth 63 = .ok (.invokevirtual 62, 3) := by decide +kernel
theorem dX6_setWidth_66 : decode cX6_setWidth 66 = .ok (.ireturn, 1) := by decide +kernel
set_option maxRecDepth 20000 in
theorem ggX6_setGuard_X6_noDigit : GoodIn wsX6_setGuard wsX6_noDigit := goodIn_r _ [5, 6, 7, 8, 4, 9, 36, 37, 38, 39, 40, 41, 42, 43, 44, 45, 46, 47, 48] (by decide +kernel) (by decide +kernel)
set_option maxRecDepth 20000 in
theorem gX6_setGuard_X6_noDigit : GoodIn wsX6_setGuard (wsV RX6 83 RX6 yX6_noDigit wsX6_noDigit) := goodIn_app (goodIn_of _ (by decide +kernel)) ggX6_setGuard_X6_noDigit
set_option maxRecDepth 20000 in
theorem ggX6_setGuard_X6_in : GoodIn wsX6_setGuard wsX6_in := goodIn_r _ [9] (by decide +kernel) (by decide +kernel)
set_option maxRecDepth 20000 in
theorem gX6_setGuard_X6_in : GoodIn wsX6_setGuard (va_wsS RX6 55 yX6_in wsX6_in) := goodIn_app (goodIn_of _ (by decide +kernel)) ggX6_setGuard_X6_in
set_option maxRecDepth 20000 in
theorem ggX6_setGuard_X6_begin : GoodIn wsX6_setGuard wsX6_begin := goodIn_r _ [13, 14, 6, 15, 16, 36, 37, 38, 39, 40, 41, 42, 43, 44, 45, 46, 47, 48] (by decide +kernel) (by decide +kernel)
set_option maxRecDepth 20000 in
theorem gX6_setGuard_X6_begin : GoodIn wsX6_setGuard (wsV RX6 59 RX6 yX6_begin wsX6_begin) := goodIn_app (goodIn_of _ (by decide +kernel)) ggX6_setGuard_X6_begin
set_option maxRecDepth 20000 in
theorem ggX6_setGuard_X6_put : GoodIn wsX6_setGuard wsX6_put := goodIn_r _ [20, 6, 36, 37, 38, 39, 40, 41, 42, 43, 44, 45, 46, 47, 48] (by decide +kernel) (by decide +kernel)
set_option maxRecDepth 20000 in
theorem gX6_setGuard_X6_put : GoodIn wsX6_setGuard (wsV RX6 66 RX6 yX6_put wsX6_put) := goodIn_app (goodIn_of _ (by decide +kernel)) ggX6_setGuard_X6_put
set_option maxRecDepth 20000 in
theorem ggX6_setGuard_X6_litPart : GoodIn wsX6_setGuard wsX6_litPart := goodIn_r _ [24, 25, 26, 27, 4, 28, 6, 36, 37, 38, 39, 40, 41, 42, 43, 44, 45, 46, 47, 48] (by decide +kernel) (by decide +kernel)
set_option maxRecDepth 20000 in
theorem gX6_setGuard_X6_litPart : GoodIn wsX6_setGuard (wsV RX6 91 RX6 yX6_litPart wsX6_litPart) := goodIn_app (goodIn_of _ (by decide +kernel)) ggX6_setGuard_X6_litPart
set_option maxRecDepth 20000 in
theorem ggX6_setGuard_X6_done : GoodIn wsX6_setGuard wsX6_done := goodIn_r _ [32, 33, 34, 35, 14, 15, 36, 37, 38, 39, 40, 41, 42, 43, 44, 45, 46, 47, 48] (by decide +kernel) (by decide +kernel)
set_option maxRecDepth 20000 in
theorem gX6_setGuard_X6_done : GoodIn wsX6_setGuard (wsV RX6 62 RX6 yX6_done wsX6_done) := goodIn_app (goodIn_of _ (by decide +kernel)) ggX6_setGuard_X6_done
theorem dX6_setGuard_0 : decode cX6_setGuard 0 = .ok (.aload_n 0, 1) := by decide +kernel
theorem dX6_setGuard_1 : decode cX6_setGuard 1 = .ok (.iload_n 1, 1) := by decide +kernel
theorem dX6_setGuard_2 : decode cX6_setGuard 2 = .ok (.invokevirtual 83, 3) := by decide +kernel
theorem dX6_setGuard_5 : decode cX6_setGuard 5 = .ok (.ifCond .eq 5, 3) := by decide +kernel
theorem dX6_setGuard_8 : decode cX6_setGuard 8 = .ok (.iconst (-1), 1) := by decide +kernel
theorem dX6_setGuard_9 : decode cX6_setGuard 9 = .ok (.ireturn, 1) := by decide +kernel
theorem dX6_setGuard_10 : decode cX6_setGuard 10 = .ok (.iload_n 2, 1) := by decide +kernel
theorem dX6_setGuard_11 : decode cX6_setGuard 11 = .ok (.iconst 0, 1) := by decide +kernel
theorem dX6_setGuard_12 : decode cX6_setGuard 12 = .ok (.iconst 3, 1) := by decide +kernel
theorem dX6_setGuard_13 : decode cX6_setGuard 13 = .ok (.invokestatic 55, 3) := by decide +kernel
theorem dX6_setGuard_16 : decode cX6_setGuard 16 = .ok (.ifCond .ne 6, 3) := by decide +kernel
theorem dX6_setGuard_19 : decode cX6_setGuard 19 = .ok (.bipush (-2), 2) := by decide +kernel
theorem dX6_setGuard_21 : decode cX6_setGuard 21 = .ok (.ireturn, 1) := by decide +kernel
theorem dX6_setGuard_22 : decode cX6_setGuard 22 = .ok (.aload_n 0, 1) := by decide +kernel
theorem dX6_setGuard_23 : decode cX6_setGuard 23 = .ok (.invokevirtual 59, 3) := by decide +kernel
theorem dX6_setGuard_26 : decode cX6_setGuard 26 = .ok (.aload_n 0, 1) := by decide +kernel
theorem dX6_setGuard_27 : decode cX6_setGuard 27 = .ok (.iload_n 1, 1) := by decide +kernel
theorem dX6_setGuard_28 : decode cX6_setGuard 28 = .ok (.iconst 2, 1) := by decide +kernel
theorem dX6_setGuard_29 : decode cX6_setGuard 29 = .ok (.iload_n 2, 1) := by decide +kernel
theorem dX6_setGuard_30 : decode cX6_setGuard 30 = .ok (.invokevirtual 66, 3) := by decide +kernel
theorem dX6_setGuard_33 : decode cX6_setGuard 33 = .ok (.aload_n 0, 1) := by decide +kernel
theorem dX6_setGuard_34 : decode cX6_setGuard 34 = .ok (.aload_n 0, 1) := by decide +kernel
theorem dX6_setGuard_35 : decode cX6_setGuard 35 = .ok (.iload_n 1, 1) := by decide +kernel
theorem dX6_setGuard_36 : decode cX6_setGuard 36 = .ok (.invokevirtual 91, 3) := by decide +kernel
theorem dX6_setGuard_39 : decode cX6_setGuard 39 = .ok (.invokevirtual 62, 3) := by decide +kernel
theorem dX6_setGuard_42 : decode cX6_setGuard 42 = .ok (.ireturn, 1) := by decide +kernel
set_option maxRecDepth 20000 in
theorem ggX6_setBrightness_X6_noDigit : GoodIn wsX6_setBrightness wsX6_noDigit := goodIn_r _ [5, 6, 7, 8, 4, 9, 36, 37, 38, 39, 40, 41, 42, 43, 44, 45, 46, 47, 48] (by decide +kernel) (by decide +kernel)
set_option maxRecDepth 20000 in
theorem gX6_setBrightness_X6_noDigit : GoodIn wsX6_setBrightness (wsV RX6 83 RX6 yX6_noDigit wsX6_noDigit) := goodIn_app (goodIn_of _ (by decide +kernel)) ggX6_setBrightness_X6_noDigit
set_option maxRecDepth 20000 in
theorem ggX6_setBrightness_X6_in : GoodIn wsX6_setBrightness wsX6_in := goodIn_r _ [9] (by decide +kernel) (by decide +kernel)
set_option maxRecDepth 20000 in
theorem gX6_setBrightness_X6_in : GoodIn wsX6_setBrightness (va_wsS RX6 55 yX6_in wsX6_in) := goodIn_app (goodIn_of _ (by decide +kernel)) ggX6_setBrightness_X6_in
set_option maxRecDepth 20000 in
theorem ggX6_setBrightness_X6_begin : GoodIn wsX6_setBrightness wsX6_begin := goodIn_r _ [13, 14, 6, 15, 16, 36, 37, 38, 39, 40, 41, 42, 43, 44, 45, 46, 47, 48] (by decide +kernel) (by decide +kernel)
set_option maxRecDepth 20000 in
theorem gX6_setBrightness_X6_begin : GoodIn wsX6_setBrightness (wsV RX6 59 RX6 yX6_begin wsX6_begin) := goodIn_app (goodIn_of _ (by decide +kernel)) ggX6_setBrightness_X6_begin
set_option maxRecDepth 20000 in
theorem ggX6_setBrightness_X6_put : GoodIn wsX6_setBrightness wsX6_put := goodIn_r _ [20, 6, 36, 37, 38, 39, 40, 41, 42, 43, 44, 45, 46, 47, 48] (by decide +kernel) (by decide +kernel)
set_option maxRecDepth 20000 in
theorem gX6_setBrightness_X6_put : GoodIn wsX6_setBrightness (wsV RX6 66 RX6 yX6_put wsX6_put) := goodIn_app (goodIn_of _ (by decide +kernel)) ggX6_setBrightness_X6_put
set_option maxRecDepth 20000 in
theorem ggX6_setBrightness_X6_litPart : GoodIn wsX6_setBrightness wsX6_litPart := goodIn_r _ [24, 25, 26, 27, 4, 28, 6, 36, 37, 38, 39, 40, 41, 42, 43, 44, 45, 46, 47, 48] (by decide +kernel) (by decide +kernel)
set_option maxRecDepth 20000 in
theorem gX6_setBrightness_X6_litPart : GoodIn wsX6_setBrightness (wsV RX6 91 RX6 yX6_litPart wsX6_litPart) := goodIn_app (goodIn_of _ (by decide +kernel)) ggX6_setBrightness_X6_litPart
set_option maxRecDepth 20000 in
theorem ggX6_setBrightness_X6_done : GoodIn wsX6_setBrightness wsX6_done := goodIn_r _ [32, 33, 34, 35, 14, 15, 36, 37, 38, 39, 40, 41, 42, 43, 44, 45, 46, 47, 48] (by decide +kernel) (by decide +kernel)
set_option maxRecDepth 20000 in
theorem gX6_setBrightness_X6_done : GoodIn wsX6_setBrightness (wsV RX6 62 RX6 yX6_done wsX6_done) := goodIn_app (goodIn_of _ (by decide +kernel)) ggX6_setBrightness_X6_done
theorem dX6_setBrightness_0 : decode cX6_setBrightness 0 = .ok (.aload_n 0, 1) := by decide +kernel
theorem dX6_setBrightness_1 : decode cX6_setBrightness 1 = .ok (.iload_n 1, 1) := by decide +kernel
theorem dX6_setBrightness_2 : decode cX6_setBrightness 2 = .ok (.invokevirtual 83, 3) := by decide +kernel
theorem dX6_setBrightness_5 : decode cX6_setBrightness 5 = .ok (.ifCond .eq 5, 3) := by decide +kernel
theorem dX6_setBrightness_8 : decode cX6_setBrightness 8 = .ok (.iconst (-1), 1) := by decide +kernel
theorem dX6_setBrightness_9 : decode cX6_setBrightness 9 = .ok (.ireturn, 1) := by decide +kernel
theorem dX6_setBrightness_10 : decode cX6_setBrightness 10 = .ok (.iload_n 2, 1) := by decide +kernel
theorem dX6_setBrightness_11 : decode cX6_setBrightness 11 = .ok (.iconst 0, 1) := by decide +kernel
theorem dX6_setBrightness_12 : decode cX6_setBrightness 12 = .ok (.bipush 15, 2) := by decide +kernel
theorem dX6_setBrightness_14 : decode cX6_setBrightness 14 = .ok (.invokestatic 55, 3) := by decide +kernel
theorem dX6_setBrightness_17 : decode cX6_setBrightness 17 = .ok (.ifCond .ne 6, 3) := by decide +kernel
theorem dX6_setBrightness_20 : decode cX6_setBrightness 20 = .ok (.bipush (-2), 2) := by decide +kernel
theorem dX6_setBrightness_22 : decode cX6_setBrightness 22 = .ok (.ireturn, 1) := by decide +kernel
theorem dX6_setBrightness_23 : decode cX6_setBrightness 23 = .ok (.aload_n 0, 1) := by decide +kernel
theorem dX6_setBrightness_24 : decode cX6_setBrightness 24 = .ok (.invokevirtual 59, 3) := by decide +kernel
theorem dX6_setBrightness_27 : decode cX6_setBrightness 27 = .ok (.aload_n 0, 1) := by decide +kernel
theorem dX6_setBrightness_28 : decode cX6_setBrightness 28 = .ok (.iload_n 1, 1) := by decide +kernel
theorem dX6_setBrightness_29 : decode cX6_setBrightness 29 = .ok (.iconst 3, 1) := by decide +kernel
theorem dX6_setBrightness_30 : decode cX6_setBrightness 30 = .ok (.iload_n 2, 1) := by decide +kernel
theorem dX6_setBrightness_31 : decode cX6_setBrightness 31 = .ok (.invokevirtual 66, 3) := by decide +kernel
theorem dX6_setBrightness_34 : decode cX6_setBrightness 34 = .ok (.aload_n 0, 1) := by decide +kernel
theorem dX6_setBrightness_35 : decode cX6_setBrightness 35 = .ok (.aload_n 0, 1) := by decide +kernel
theorem dX6_setBrightness_36 : decode cX6_setBrightness 36 = .ok (.iload_n 1, 1) := by decide +kernel
theorem dX6_setBrightness_37 : decode cX6_setBrightness 37 = .ok (.invokevirtual 91, 3) := by decide +kernel
theorem dX6_setBrightness_40 : decode cX6_setBrightness 40 = .ok (.invokevirtual 62, 3) := by decide +kernel
theorem dX6_setBrightness_43 : decode cX6_setBrightness 43 = .ok (.ireturn, 1) := by decide +kernel
set_option maxRecDepth 20000 in
theorem ggX6_setPattern_X6_noDigit : GoodIn wsX6_setPattern wsX6_noDigit := goodIn_r _ [5, 6, 7, 8, 4, 9, 32, 33, 34, 35, 36, 37, 38, 39, 40, 41, 42, 43, 44] (by decide +kernel) (by decide +kernel)
set_option maxRecDepth 20000 in
theorem gX6_setPattern_X6_noDigit : GoodIn wsX6_setPattern (wsV RX6 83 RX6 yX6_noDigit wsX6_noDigit) := goodIn_app (goodIn_of _ (by decide +kernel)) ggX6_setPattern_X6_noDigit
set_option maxRecDepth 20000 in
theorem ggX6_setPattern_X6_in : GoodIn wsX6_setPattern wsX6_in := goodIn_r _ [9] (by decide +kernel) (by decide +kernel)
set_option maxRecDepth 20000 in
theorem gX6_setPattern_X6_in : GoodIn wsX6_setPattern (va_wsS RX6 55 yX6_in wsX6_in) := goodIn_app (goodIn_of _ (by decide +kernel)) ggX6_setPattern_X6_in
set_option maxRecDepth 20000 in
theorem ggX6_setPattern_X6_begin : GoodIn wsX6_setPattern wsX6_begin := goodIn_r _ [13, 14, 6, 15, 16, 32, 33, 34, 35, 36, 37, 38, 39, 40, 41, 42, 43, 44] (by decide +kernel) (by decide +kernel)
set_option maxRecDepth 20000 in
theorem gX6_setPattern_X6_begin : GoodIn wsX6_setPattern (wsV RX6 59 RX6 yX6_begin wsX6_begin) := goodIn_app (goodIn_of _ (by decide +kernel)) ggX6_setPattern_X6_begin
set_option maxRecDepth 20000 in
theorem ggX6_setPattern_X6_of : GoodIn wsX6_setPattern wsX6_of := goodIn_r _ [20, 6, 32, 33, 34, 35, 36, 37, 38, 39, 40, 41, 42, 43, 44] (by decide +kernel) (by decide +kernel)
set_option maxRecDepth 20000 in
theorem gX6_setPattern_X6_of : GoodIn wsX6_setPattern (wsV RX6 73 RX6 yX6_of wsX6_of) := goodIn_app (goodIn_of _ (by decide +kernel)) ggX6_setPattern_X6_of
set_option maxRecDepth 20000 in
theorem ggX6_setPattern_X6_put : GoodIn wsX6_setPattern wsX6_put := goodIn_r _ [24, 6, 32, 33, 34, 35, 36, 37, 38, 39, 40, 41, 42, 43, 44] (by decide +kernel) (by decide +kernel)
set_option maxRecDepth 20000 in
theorem gX6_setPattern_X6_put : GoodIn wsX6_setPattern (wsV RX6 66 RX6 yX6_put wsX6_put) := goodIn_app (goodIn_of _ (by decide +kernel)) ggX6_setPattern_X6_put
set_option maxRecDepth 20000 in
theorem ggX6_setPattern_X6_done : GoodIn wsX6_setPattern wsX6_done := goodIn_r _ [28, 29, 30, 31, 14, 15, 32, 33, 34, 35, 36, 37, 38, 39, 40, 41, 42, 43, 44] (by decide +kernel) (by decide +kernel)
set_option maxRecDepth 20000 in
theorem gX6_setPattern_X6_done : GoodIn wsX6_setPattern (wsV RX6 62 RX6 yX6_done wsX6_done) := goodIn_app (goodIn_of _ (by decide +kernel)) ggX6_setPattern_X6_done
theorem dX6_setPattern_0 : decode cX6_setPattern 0 = .ok (.aload_n 0, 1) := by decide +kernel
theorem dX6_setPattern_1 : decode cX6_setPattern 1 = .ok (.iload_n 1, 1) := by decide +kernel
theorem dX6_setPattern_2 : decode cX6_setPattern 2 = .ok (.invokevirtual 83, 3) := by decide +kernel
theorem dX6_setPattern_5 : decode cX6_setPattern 5 = .ok (.ifCond .eq 5, 3) := by decide +kernel
theorem dX6_setPattern_8 : decode cX6_setPattern 8 = .ok (.iconst (-1), 1) := by decide +kernel
theorem dX6_setPattern_9 : decode cX6_setPattern 9 = .ok (.ireturn, 1) := by decide +kernel
theorem dX6_setPattern_10 : decode cX6_setPattern 10 = .ok (.iload_n 2, 1) := by decide +kernel
theorem dX6_setPattern_11 : decode cX6_setPattern 11 = .ok (.iconst 0, 1) := by decide +kernel
theorem dX6_setPattern_12 : decode cX6_setPattern 12 = .ok (.sipush 255, 3) := by decide +kernel
theorem dX6_setPattern_15 : decode cX6_setPattern 15 = .ok (.invokestatic 55, 3) := by decide +kernel
theorem dX6_setPattern_18 : decode cX6_setPattern 18 = .ok (.ifCond .ne 6, 3) := by decide +kernel
theorem dX6_setPattern_21 : decode cX6_setPattern 21 = .ok (.bipush (-2), 2) := by decide +kernel
theorem dX6_setPattern_23 : decode cX6_setPattern 23 = .ok (.ireturn, 1) := by decide +kernel
theorem dX6_setPattern_24 : decode cX6_setPattern 24 = .ok (.aload_n 0, 1) := by decide +kernel
theorem dX6_setPattern_25 : decode cX6_setPattern 25 = .ok (.invokevirtual 59, 3) := by decide +kernel
theorem dX6_setPattern_28 : decode cX6_setPattern 28 = .ok (.aload_n 0, 1) := by decide +kernel
theorem dX6_setPattern_29 : decode cX6_setPattern 29 = .ok (.iload_n 1, 1) := by decide +kernel
theorem dX6_setPattern_30 : decode cX6_setPattern 30 = .ok (.iconst 0, 1) := by decide +kernel
theorem dX6_setPattern_31 : decode cX6_setPattern 31 = .ok (.invokevirtual 73, 3) := by decide +kernel
theorem dX6_setPattern_34 : decode cX6_setPattern 34 = .ok (.istore_n 3, 1) := by decide +kernel
theorem dX6_setPattern_35 : decode cX6_setPattern 35 = .ok (.aload_n 0, 1) := by decide +kernel
theorem dX6_setPattern_36 : decode cX6_setPattern 36 = .ok (.iload_n 1, 1) := by decide +kernel
theorem dX6_setPattern_37 : decode cX6_setPattern 37 = .ok (.iconst 0, 1) := by decide +kernel
theorem dX6_setPattern_38 : decode cX6_setPattern 38 = .ok (.iload_n 2, 1) := by decide +kernel
theorem dX6_setPattern_39 : decode cX6_setPattern 39 = .ok (.invokevirtual 66, 3) := by decide +kernel
theorem dX6_setPattern_42 : decode cX6_setPattern 42 = .ok (.aload_n 0, 1) := by decide +kernel
theorem dX6_setPattern_43 : decode cX6_setPattern 43 = .ok (.iload_n 3, 1) := by decide +kernel
theorem dX6_setPattern_44 : decode cX6_setPattern 44 = .ok (.invokevirtual 62, 3) := by decide +kernel
theorem dX6_setPattern_47 : decode cX6_setPattern 47 = .ok (.ireturn, 1) := by decide +kernel
set_option maxRecDepth 20000 in
theorem ggX6_setGroup_X6_noDigit : GoodIn wsX6_setGroup wsX6_noDigit := goodIn_r _ [5, 6, 7, 8, 4, 9, 32, 33, 34, 35, 36, 37, 38, 39, 40, 41, 42, 43, 44] (by decide +kernel) (by decide +kernel)
set_option maxRecDepth 20000 in
theorem gX6_setGroup_X6_noDigit : GoodIn wsX6_setGroup (wsV RX6 83 RX6 yX6_noDigit wsX6_noDigit) := goodIn_app (goodIn_of _ (by decide +kernel)) ggX6_setGroup_X6_noDigit
set_option maxRecDepth 20000 in
theorem ggX6_setGroup_X6_in : GoodIn wsX6_setGroup wsX6_in := goodIn_r _ [9] (by decide +kernel) (by decide +kernel)
set_option maxRecDepth 20000 in
theorem gX6_setGroup_X6_in : GoodIn wsX6_setGroup (va_wsS RX6 55 yX6_in wsX6_in) := goodIn_app (goodIn_of _ (by decide +kernel)) ggX6_setGroup_X6_in
set_option maxRecDepth 20000 in
theorem ggX6_setGroup_X6_begin : GoodIn wsX6_setGroup wsX6_begin := goodIn_r _ [13, 14, 6, 15, 16, 32, 33, 34, 35, 36, 37, 38, 39, 40, 41, 42, 43, 44] (by decide +kernel) (by decide +kernel)
set_option maxRecDepth 20000 in
theorem gX6_setGroup_X6_begin : GoodIn wsX6_setGroup (wsV RX6 59 RX6 yX6_begin wsX6_begin) := goodIn_app (goodIn_of _ (by decide +kernel)) ggX6_setGroup_X6_begin
set_option maxRecDepth 20000 in
theorem ggX6_setGroup_X6_of : GoodIn wsX6_setGroup wsX6_of := goodIn_r _ [20, 6, 32, 33, 34, 35, 36, 37, 38, 39, 40, 41, 42, 43, 44] (by decide +kernel) (by decide +kernel)
set_option maxRecDepth 20000 in
theorem gX6_setGroup_X6_of : GoodIn wsX6_setGroup (wsV RX6 73 RX6 yX6_of wsX6_of) := goodIn_app (goodIn_of _ (by decide +kernel)) ggX6_setGroup_X6_of
set_option maxRecDepth 20000 in
theorem ggX6_setGroup_X6_put : GoodIn wsX6_setGroup wsX6_put := goodIn_r _ [24, 6, 32, 33, 34, 35, 36, 37, 38, 39, 40, 41, 42, 43, 44] (by decide +kernel) (by decide +kernel)
set_option maxRecDepth 20000 in
theorem gX6_setGroup_X6_put : GoodIn wsX6_setGroup (wsV RX6 66 RX6 yX6_put wsX6_put) := goodIn_app (goodIn_of _ (by decide +kernel)) ggX6_setGroup_X6_put
set_option maxRecDepth 20000 in
theorem ggX6_setGroup_X6_done : GoodIn wsX6_setGroup wsX6_done := goodIn_r _ [28, 29, 30, 31, 14, 15, 32, 33, 34, 35, 36, 37, 38, 39, 40, 41, 42, 43, 44] (by decide +kernel) (by decide +kernel)
set_option maxRecDepth 20000 in
theorem gX6_setGroup_X6_done : GoodIn wsX6_setGroup (wsV RX6 62 RX6 yX6_done wsX6_done) := goodIn_app (goodIn_of _ (by decide +kernel)) ggX6_setGroup_X6_done
theorem dX6_setGroup_0 : decode cX6_setGroup 0 = .ok (.aload_n 0, 1) := by decide +kernel
theorem dX6_setGroup_1 : decode cX6_setGroup 1 = .ok (.iload_n 1, 1) := by decide +kernel
theorem dX6_setGroup_2 : decode cX6_setGroup 2 = .ok (.invokevirtual 83, 3) := by decide +kernel
theorem dX6_setGroup_5 : decode cX6_setGroup 5 = .ok (.ifCond .ne 12, 3) := by decide +kernel
theorem dX6_setGroup_8 : decode cX6_setGroup 8 = .ok (.iload_n 2, 1) := by decide +kernel
theorem dX6_setGroup_9 : decode cX6_setGroup 9 = .ok (.iconst 0, 1) := by decide +kernel
theorem dX6_setGroup_10 : decode cX6_setGroup 10 = .ok (.iconst 3, 1) := by decide +kernel
theorem dX6_setGroup_11 : decode cX6_setGroup 11 = .ok (.invokestatic 55, 3) := by decide +kernel
theorem dX6_setGroup_14 : decode cX6_setGroup 14 = .ok (.ifCond .ne 5, 3) := by decide +kernel
theorem dX6_setGroup_17 : decode cX6_setGroup 17 = .ok (.iconst (-1), 1) := by decide +kernel
theorem dX6_setGroup_18 : decode cX6_setGroup 18 = .ok (.ireturn, 1) := by decide +kernel
theorem dX6_setGroup_19 : decode cX6_setGroup 19 = .ok (.aload_n 0, 1) := by decide +kernel
theorem dX6_setGroup_20 : decode cX6_setGroup 20 = .ok (.invokevirtual 59, 3) := by decide +kernel
theorem dX6_setGroup_23 : decode cX6_setGroup 23 = .ok (.aload_n 0, 1) := by decide +kernel
theorem dX6_setGroup_24 : decode cX6_setGroup 24 = .ok (.iload_n 1, 1) := by decide +kernel
theorem dX6_setGroup_25 : decode cX6_setGroup 25 = .ok (.iconst 4, 1) := by decide +kernel
theorem dX6_setGroup_26 : decode cX6_setGroup 26 = .ok (.invokevirtual 73, 3) := by decide +kernel
theorem dX6_setGroup_29 : decode cX6_setGroup 29 = .ok (.istore_n 3, 1) := by decide +kernel
theorem dX6_setGroup_30 : decode cX6_setGroup 30 = .ok (.aload_n 0, 1) := by decide +kernel
theorem dX6_setGroup_31 : decode cX6_setGroup 31 = .ok (.iload_n 1, 1) := by decide +kernel
theorem dX6_setGroup_32 : decode cX6_setGroup 32 = .ok (.iconst 4, 1) := by decide +kernel
theorem dX6_setGroup_33 : decode cX6_setGroup 33 = .ok (.iload_n 2, 1) := by decide +kernel
theorem dX6_setGroup_34 : decode cX6_setGroup 34 = .ok (.invokevirtual 66, 3) := by decide +kernel
theorem dX6_setGroup_37 : decode cX6_setGroup 37 = .ok (.aload_n 0, 1) := by decide +kernel
theorem dX6_setGroup_38 : decode cX6_setGroup 38 = .ok (.iload_n 3, 1) := by decide +kernel
theorem dX6_setGroup_39 : decode cX6_setGroup 39 = .ok (.invokevirtual 62, 3) := by decide +kernel
theorem dX6_setGroup_42 : decode cX6_setGroup 42 = .ok (.ireturn, 1) := by decide +kernel
set_option maxRecDepth 20000 in
theorem ggX6_digitsIn_X6_of : GoodIn wsX6_digitsIn wsX6_of := goodIn_r _ [6, 1, 7, 8, 9, 10, 11, 12, 13, 14, 15, 16, 17, 18, 19] (by decide +kernel) (by decide +kernel)
set_option maxRecDepth 20000 in
theorem gX6_digitsIn_X6_of : GoodIn wsX6_digitsIn (wsV RX6 73 RX6 yX6_of wsX6_of) := goodIn_app (goodIn_of _ (by decide +kernel)) ggX6_digitsIn_X6_of
theorem dX6_digitsIn_0 : decode cX6_digitsIn 0 = .ok (.iconst 0, 1) := by decide +kernel
theorem dX6_digitsIn_1 : decode cX6_digitsIn 1 = .ok (.istore_n 2, 1) := by decide +kernel
theorem dX6_digitsIn_2 : decode cX6_digitsIn 2 = .ok (.iconst 0, 1) := by decide +kernel
theorem dX6_digitsIn_3 : decode cX6_digitsIn 3 = .ok (.istore_n 3, 1) := by decide +kernel
theorem dX6_digitsIn_4 : decode cX6_digitsIn 4 = .ok (.iload_n 3, 1) := by decide +kernel
theorem dX6_digitsIn_5 : decode cX6_digitsIn 5 = .ok (.aload_n 0, 1) := by decide +kernel
theorem dX6_digitsIn_6 : decode cX6_digitsIn 6 = .ok (.getfield 7, 3) := by decide +kernel
theorem dX6_digitsIn_9 : decode cX6_digitsIn 9 = .ok (.iconst 0, 1) := by decide +kernel
theorem dX6_digitsIn_10 : decode cX6_digitsIn 10 = .ok (.iaload, 1) := by decide +kernel
theorem dX6_digitsIn_11 : decode cX6_digitsIn 11 = .ok (.if_icmp .ge 27, 3) := by decide +kernel
theorem dX6_digitsIn_14 : decode cX6_digitsIn 14 = .ok (.iload_n 2, 1) := by decide +kernel
theorem dX6_digitsIn_15 : decode cX6_digitsIn 15 = .ok (.aload_n 0, 1) := by decide +kernel
theorem dX6_digitsIn_16 : decode cX6_digitsIn 16 = .ok (.iload_n 3, 1) := by decide +kernel
theorem dX6_digitsIn_17 : decode cX6_digitsIn 17 = .ok (.iconst 4, 1) := by decide +kernel
theorem dX6_digitsIn_18 : decode cX6_digitsIn 18 = .ok (.invokevirtual 73, 3) := by decide +kernel
theorem dX6_digitsIn_21 : decode cX6_digitsIn 21 = .ok (.iload_n 1, 1) := by decide +kernel
theorem dX6_digitsIn_22 : decode cX6_digitsIn 22 = .ok (.if_icmp .ne 7, 3) := by decide +kernel
theorem dX6_digitsIn_25 : decode cX6_digitsIn 25 = .ok (.iconst 1, 1) := by decide +kernel
theorem dX6_digitsIn_26 : decode cX6_digitsIn 26 = .ok (.goto 4, 3) := by decide +kernel
theorem dX6_digitsIn_29 : decode cX6_digitsIn 29 = .ok (.iconst 0, 1) := by decide +kernel
theorem dX6_digitsIn_30 : decode cX6_digitsIn 30 = .ok (.iadd, 1) := by decide +kernel
theorem dX6_digitsIn_31 : decode cX6_digitsIn 31 = .ok (.istore_n 2, 1) := by decide +kernel
theorem dX6_digitsIn_32 : decode cX6_digitsIn 32 = .ok (.iinc 3 1, 3) := by decide +kernel
theorem dX6_digitsIn_35 : decode cX6_digitsIn 35 = .ok (.goto (-31), 3) := by decide +kernel
theorem dX6_digitsIn_38 : decode cX6_digitsIn 38 = .ok (.iload_n 2, 1) := by decide +kernel
theorem dX6_digitsIn_39 : decode cX6_digitsIn 39 = .ok (.ireturn, 1) := by decide +kernel
set_option maxRecDepth 20000 in
theorem ggX6_setBlink_X6_in : GoodIn wsX6_setBlink wsX6_in := goodIn_r _ [5] (by decide +kernel) (by decide +kernel)
set_option maxRecDepth 20000 in
theorem gX6_setBlink_X6_in : GoodIn wsX6_setBlink (va_wsS RX6 55 yX6_in wsX6_in) := goodIn_app (goodIn_of _ (by decide +kernel)) ggX6_setBlink_X6_in
set_option maxRecDepth 20000 in
theorem ggX6_setBlink_X6_begin : GoodIn wsX6_setBlink wsX6_begin := goodIn_r _ [9, 10, 1, 11, 12, 28, 29, 30, 31, 32, 33, 34, 35, 36, 37, 38, 39, 40] (by decide +kernel) (by decide +kernel)
set_option maxRecDepth 20000 in
theorem gX6_setBlink_X6_begin : GoodIn wsX6_setBlink (wsV RX6 59 RX6 yX6_begin wsX6_begin) := goodIn_app (goodIn_of _ (by decide +kernel)) ggX6_setBlink_X6_begin
set_option maxRecDepth 20000 in
theorem ggX6_setBlink_X6_digitsIn : GoodIn wsX6_setBlink wsX6_digitsIn := goodIn_r _ [16, 1, 17, 18, 19, 4, 20, 28, 29, 30, 31, 32, 33, 34, 35, 36, 37, 38, 39, 40] (by decide +kernel) (by decide +kernel)
set_option maxRecDepth 20000 in
theorem gX6_setBlink_X6_digitsIn : GoodIn wsX6_setBlink (wsV RX6 94 RX6 yX6_digitsIn wsX6_digitsIn) := goodIn_app (goodIn_of _ (by decide +kernel)) ggX6_setBlink_X6_digitsIn
set_option maxRecDepth 20000 in
theorem ggX6_setBlink_X6_done : GoodIn wsX6_setBlink wsX6_done := goodIn_r _ [24, 25, 26, 27, 10, 11, 28, 29, 30, 31, 32, 33, 34, 35, 36, 37, 38, 39, 40] (by decide +kernel) (by decide +kernel)
set_option maxRecDepth 20000 in
theorem gX6_setBlink_X6_done : GoodIn wsX6_setBlink (wsV RX6 62 RX6 yX6_done wsX6_done) := goodIn_app (goodIn_of _ (by decide +kernel)) ggX6_setBlink_X6_done
theorem dX6_setBlink_0 : decode cX6_setBlink 0 = .ok (.iload_n 1, 1) := by decide +kernel
theorem dX6_setBlink_1 : decode cX6_setBlink 1 = .ok (.iconst 1, 1) := by decide +kernel
theorem dX6_setBlink_2 : decode cX6_setBlink 2 = .ok (.iconst 3, 1) := by decide +kernel
theorem dX6_setBlink_3 : decode cX6_setBlink 3 = .ok (.invokestatic 55, 3) := by decide +kernel
theorem dX6_setBlink_6 : decode cX6_setBlink 6 = .ok (.ifCond .ne 5, 3) := by decide +kernel
theorem dX6_setBlink_9 : decode cX6_setBlink 9 = .ok (.iconst (-1), 1) := by decide +kernel
theorem dX6_setBlink_10 : decode cX6_setBlink 10 = .ok (.ireturn, 1) := by decide +kernel
theorem dX6_setBlink_11 : decode cX6_setBlink 11 = .ok (.iload_n 2, 1) := by decide +kernel
theorem dX6_setBlink_12 : decode cX6_setBlink 12 = .ok (.iconst 1, 1) := by decide +kernel
theorem dX6_setBlink_13 : decode cX6_setBlink 13 = .ok (.bipush 50, 2) := by decide +kernel
theorem dX6_setBlink_15 : decode cX6_setBlink 15 = .ok (.invokestatic 55, 3) := by decide +kernel
theorem dX6_setBlink_18 : decode cX6_setBlink 18 = .ok (.ifCond .eq 13, 3) := by decide +kernel
theorem dX6_setBlink_21 : decode cX6_setBlink 21 = .ok (.iload_n 3, 1) := by decide +kernel
theorem dX6_setBlink_22 : decode cX6_setBlink 22 = .ok (.iconst 0, 1) := by decide +kernel
theorem dX6_setBlink_23 : decode cX6_setBlink 23 = .ok (.bipush 50, 2) := by decide +kernel
theorem dX6_setBlink_25 : decode cX6_setBlink 25 = .ok (.invokestatic 55, 3) := by decide +kernel
theorem dX6_setBlink_28 : decode cX6_setBlink 28 = .ok (.ifCond .ne 6, 3) := by decide +kernel
theorem dX6_setBlink_31 : decode cX6_setBlink 31 = .ok (.bipush (-2), 2) := by decide +kernel
theorem dX6_setBlink_33 : decode cX6_setBlink 33 = .ok (.ireturn, 1) := by decide +kernel
theorem dX6_setBlink_34 : decode cX6_setBlink 34 = .ok (.aload_n 0, 1) := by decide +kernel
theorem dX6_setBlink_35 : decode cX6_setBlink 35 = .ok (.invokevirtual 59, 3) := by decide +kernel
theorem dX6_setBlink_38 : decode cX6_setBlink 38 = .ok (.aload_n 0, 1) := by decide +kernel
theorem dX6_setBlink_39 : decode cX6_setBlink 39 = .ok (.getfield 7, 3) := by decide +kernel
theorem dX6_setBlink_42 : decode cX6_setBlink 42 = .ok (.bipush 9, 2) := by decide +kernel
theorem dX6_setBlink_44 : decode cX6_setBlink 44 = .ok (.iload_n 1, 1) := by decide +kernel
theorem dX6_setBlink_45 : decode cX6_setBlink 45 = .ok (.iadd, 1) := by decide +kernel
theorem dX6_setBlink_46 : decode cX6_setBlink 46 = .ok (.iconst 1, 1) := by decide +kernel
theorem dX6_setBlink_47 : decode cX6_setBlink 47 = .ok (.isub, 1) := by decide +kernel
theorem dX6_setBlink_48 : decode cX6_setBlink 48 = .ok (.iload_n 2, 1) := by decide +kernel
theorem dX6_setBlink_49 : decode cX6_setBlink 49 = .ok (.iastore, 1) := by decide +kernel
theorem dX6_setBlink_50 : decode cX6_setBlink 50 = .ok (.aload_n 0, 1) := by decide +kernel
theorem dX6_setBlink_51 : decode cX6_setBlink 51 = .ok (.getfield 7, 3) := by decide +kernel
theorem dX6_setBlink_54 : decode cX6_setBlink 54 = .ok (.bipush 12, 2) := by decide +kernel
theorem dX6_setBlink_56 : decode cX6_setBlink 56 = .ok (.iload_n 1, 1) := by decide +kernel
theorem dX6_setBlink_57 : decode cX6_setBlink 57 = .ok (.iadd, 1) := by decide +kernel
theorem dX6_setBlink_58 : decode cX6_setBlink 58 = .ok (.iconst 1, 1) := by decide +kernel
theorem dX6_setBlink_59 : decode cX6_setBlink 59 = .ok (.isub, 1) := by decide +kernel
theorem dX6_setBlink_60 : decode cX6_setBlink 60 = .ok (.iload_n 3, 1) := by decide +kernel
theorem dX6_setBlink_61 : decode cX6_setBlink 61 = .ok (.iastore, 1) := by decide +kernel
theorem dX6_setBlink_62 : decode cX6_setBlink 62 = .ok (.aload_n 0, 1) := by decide +kernel
theorem dX6_setBlink_63 : decode cX6_setBlink 63 = .ok (.aload_n 0, 1) := by decide +kernel
theorem dX6_setBlink_64 : decode cX6_setBlink 64 = .ok (.iload_n 1, 1) := by decide +kernel
theorem dX6_setBlink_65 : decode cX6_setBlink 65 = .ok (.invokevirtual 94, 3) := by decide +kernel
theorem dX6_setBlink_68 : decode cX6_setBlink 68 = .ok (.invokevirtual 62, 3) := by decide +kernel
theorem dX6_setBlink_71 : decode cX6_setBlink 71 = .ok (.ireturn, 1) := by decide +kernel
set_option maxRecDepth 20000 in
theorem ggX6_set_X6_in : GoodIn wsX6_set wsX6_in := goodIn_r _ [6] (by decide +kernel) (by decide +kernel)
set_option maxRecDepth 20000 in
theorem gX6_set_X6_in : GoodIn wsX6_set (va_wsS RX6 55 yX6_in wsX6_in) := goodIn_app (goodIn_of _ (by decide +kernel)) ggX6_set_X6_in
set_option maxRecDepth 20000 in
theorem ggX6_set_X6_begin : GoodIn wsX6_set wsX6_begin := goodIn_r _ [10, 11, 2, 12, 13, 21, 22, 23, 24, 25, 26, 27, 28, 29, 30, 31, 32, 33] (by decide +kernel) (by decide +kernel)
set_option maxRecDepth 20000 in
theorem gX6_set_X6_begin : GoodIn wsX6_set (wsV RX6 59 RX6 yX6_begin wsX6_begin) := goodIn_app (goodIn_of _ (by decide +kernel)) ggX6_set_X6_begin
set_option maxRecDepth 20000 in
theorem ggX6_set_X6_done : GoodIn wsX6_set wsX6_done := goodIn_r _ [17, 18, 19, 20, 11, 12, 21, 22, 23, 24, 25, 26, 27, 28, 29, 30, 31, 32, 33] (by decide +kernel) (by decide +kernel)
set_option maxRecDepth 20000 in
theorem gX6_set_X6_done : GoodIn wsX6_set (wsV RX6 62 RX6 yX6_done wsX6_done) := goodIn_app (goodIn_of _ (by decide +kernel)) ggX6_set_X6_done
theorem dX6_set_0 : decode cX6_set 0 = .ok (.iload_n 1, 1) := by decide +kernel
theorem dX6_set_1 : decode cX6_set 1 = .ok (.iconst 0, 1) := by decide +kernel
theorem dX6_set_2 : decode cX6_set 2 = .ok (.iconst 2, 1) := by decide +kernel
theorem dX6_set_3 : decode cX6_set 3 = .ok (.invokestatic 55, 3) := by decide +kernel
theorem dX6_set_6 : decode cX6_set 6 = .ok (.ifCond .ne 5, 3) := by decide +kernel
theorem dX6_set_9 : decode cX6_set 9 = .ok (.iconst (-1), 1) := by decide +kernel
theorem dX6_set_10 : decode cX6_set 10 = .ok (.ireturn, 1) := by decide +kernel
theorem dX6_set_11 : decode cX6_set 11 = .ok (.iload_n 2, 1) := by decide +kernel
theorem dX6_set_12 : decode cX6_set 12 = .ok (.iload_n 1, 1) := by decide +kernel
theorem dX6_set_13 : decode cX6_set 13 = .ok (.ifCond .ne 7, 3) := by decide +kernel
theorem dX6_set_16 : decode cX6_set 16 = .ok (.iconst 2, 1) := by decide +kernel
theorem dX6_set_17 : decode cX6_set 17 = .ok (.goto 4, 3) := by decide +kernel
theorem dX6_set_20 : decode cX6_set 20 = .ok (.iconst 1, 1) := by decide +kernel
theorem dX6_set_21 : decode cX6_set 21 = .ok (.iload_n 1, 1) := by decide +kernel
theorem dX6_set_22 : decode cX6_set 22 = .ok (.ifCond .ne 8, 3) := by decide +kernel
theorem dX6_set_25 : decode cX6_set 25 = .ok (.bipush 50, 2) := by decide +kernel
theorem dX6_set_27 : decode cX6_set 27 = .ok (.goto 16, 3) := by decide +kernel
theorem dX6_set_30 : decode cX6_set 30 = .ok (.iload_n 1, 1) := by decide +kernel
theorem dX6_set_31 : decode cX6_set 31 = .ok (.iconst 1, 1) := by decide +kernel
theorem dX6_set_32 : decode cX6_set 32 = .ok (.if_icmp .ne 9, 3) := by decide +kernel
theorem dX6_set_35 : decode cX6_set 35 = .ok (.sipush 1000, 3) := by decide +kernel
theorem dX6_set_38 : decode cX6_set 38 = .ok (.goto 5, 3) := by decide +kernel
theorem dX6_set_41 : decode cX6_set 41 = .ok (.ldc 97, 2) := by decide +kernel
theorem dX6_set_43 : decode cX6_set 43 = .ok (.invokestatic 55, 3) := by decide +kernel
theorem dX6_set_46 : decode cX6_set 46 = .ok (.ifCond .ne 6, 3) := by decide +kernel
theorem dX6_set_49 : decode cX6_set 49 = .ok (.bipush (-2), 2) := by decide +kernel
theorem dX6_set_51 : decode cX6_set 51 = .ok (.ireturn, 1) := by decide +kernel
theorem dX6_set_52 : decode cX6_set 52 = .ok (.aload_n 0, 1) := by decide +kernel
theorem dX6_set_53 : decode cX6_set 53 = .ok (.invokevirtual 59, 3) := by decide +kernel
theorem dX6_set_56 : decode cX6_set 56 = .ok (.aload_n 0, 1) := by decide +kernel
theorem dX6_set_57 : decode cX6_set 57 = .ok (.getfield 7, 3) := by decide +kernel
theorem dX6_set_60 : decode cX6_set 60 = .ok (.bipush 6, 2) := by decide +kernel
theorem dX6_set_62 : decode cX6_set 62 = .ok (.iload_n 1, 1) := by decide +kernel
theorem dX6_set_63 : decode cX6_set 63 = .ok (.iadd, 1) := by decide +kernel
theorem dX6_set_64 : decode cX6_set 64 = .ok (.iaload, 1) := by decide +kernel
theorem dX6_set_65 : decode cX6_set 65 = .ok (.istore_n 3, 1) := by decide +kernel
theorem dX6_set_66 : decode cX6_set 66 = .ok (.aload_n 0, 1) := by decide +kernel
theorem dX6_set_67 : decode cX6_set 67 = .ok (.getfield 7, 3) := by decide +kernel
theorem dX6_set_70 : decode cX6_set 70 = .ok (.bipush 6, 2) := by decide +kernel
theorem dX6_set_72 : decode cX6_set 72 = .ok (.iload_n 1, 1) := by decide +kernel
theorem dX6_set_73 : decode cX6_set 73 = .ok (.iadd, 1) := by decide +kernel
theorem dX6_set_74 : decode cX6_set 74 = .ok (.iload_n 2, 1) := by decide +kernel
theorem dX6_set_75 : decode cX6_set 75 = .ok (.iastore, 1) := by decide +kernel
theorem dX6_set_76 : decode cX6_set 76 = .ok (.aload_n 0, 1) := by decide +kernel
theorem dX6_set_77 : decode cX6_set 77 = .ok (.iload_n 3, 1) := by decide +kernel
theorem dX6_set_78 : decode cX6_set 78 = .ok (.invokevirtual 62, 3) := by decide +kernel
theorem dX6_set_81 : decode cX6_set 81 = .ok (.ireturn, 1) := by decide +kernel
theorem dX6_brokenOf_0 : decode cX6_brokenOf 0 = .ok (.iconst 0, 1) := by decide +kernel
theorem dX6_brokenOf_1 : decode cX6_brokenOf 1 = .ok (.istore_n 2, 1) := by decide +kernel
theorem dX6_brokenOf_2 : decode cX6_brokenOf 2 = .ok (.iconst 0, 1) := by decide +kernel
theorem dX6_brokenOf_3 : decode cX6_brokenOf 3 = .ok (.istore_n 3, 1) := by decide +kernel
theorem dX6_brokenOf_4 : decode cX6_brokenOf 4 = .ok (.iload_n 3, 1) := by decide +kernel
theorem dX6_brokenOf_5 : decode cX6_brokenOf 5 = .ok (.bipush 8, 2) := by decide +kernel
theorem dX6_brokenOf_7 : decode cX6_brokenOf 7 = .ok (.if_icmp .ge 26, 3) := by decide +kernel
theorem dX6_brokenOf_10 : decode cX6_brokenOf 10 = .ok (.iload_n 2, 1) := by decide +kernel
theorem dX6_brokenOf_11 : decode cX6_brokenOf 11 = .ok (.aload_n 0, 1) := by decide +kernel
theorem dX6_brokenOf_12 : decode cX6_brokenOf 12 = .ok (.getfield 7, 3) := by decide +kernel
theorem dX6_brokenOf_15 : decode cX6_brokenOf 15 = .ok (.sipush 192, 3) := by decide +kernel
theorem dX6_brokenOf_18 : decode cX6_brokenOf 18 = .ok (.iload_n 1, 1) := by decide +kernel
theorem dX6_brokenOf_19 : decode cX6_brokenOf 19 = .ok (.iadd, 1) := by decide +kernel
theorem dX6_brokenOf_20 : decode cX6_brokenOf 20 = .ok (.iaload, 1) := by decide +kernel
theorem dX6_brokenOf_21 : decode cX6_brokenOf 21 = .ok (.iload_n 3, 1) := by decide +kernel
theorem dX6_brokenOf_22 : decode cX6_brokenOf 22 = .ok (.ishr, 1) := by decide +kernel
theorem dX6_brokenOf_23 : decode cX6_brokenOf 23 = .ok (.iconst 1, 1) := by decide +kernel
theorem dX6_brokenOf_24 : decode cX6_brokenOf 24 = .ok (.iand, 1) := by decide +kernel
theorem dX6_brokenOf_25 : decode cX6_brokenOf 25 = .ok (.iadd, 1) := by decide +kernel
theorem dX6_brokenOf_26 : decode cX6_brokenOf 26 = .ok (.istore_n 2, 1) := by decide +kernel
theorem dX6_brokenOf_27 : decode cX6_brokenOf 27 = .ok (.iinc 3 1, 3) := by decide +kernel
theorem dX6_brokenOf_30 : decode cX6_brokenOf 30 = .ok (.goto (-26), 3) := by decide +kernel
theorem dX6_brokenOf_33 : decode cX6_brokenOf 33 = .ok (.iload_n 2, 1) := by decide +kernel
theorem dX6_brokenOf_34 : decode cX6_brokenOf 34 = .ok (.ireturn, 1) := by decide +kernel
set_option maxRecDepth 20000 in
theorem ggX6_replace_X6_noDigit : GoodIn wsX6_replace wsX6_noDigit := goodIn_r _ [5, 6, 7, 8, 4, 9, 32, 33, 34, 35, 36, 37, 38, 39, 40, 41, 42, 43, 44] (by decide +kernel) (by decide +kernel)
set_option maxRecDepth 20000 in
theorem gX6_replace_X6_noDigit : GoodIn wsX6_replace (wsV RX6 83 RX6 yX6_noDigit wsX6_noDigit) := goodIn_app (goodIn_of _ (by decide +kernel)) ggX6_replace_X6_noDigit
set_option maxRecDepth 20000 in
theorem ggX6_replace_X6_begin : GoodIn wsX6_replace wsX6_begin := goodIn_r _ [13, 14, 6, 15, 16, 32, 33, 34, 35, 36, 37, 38, 39, 40, 41, 42, 43, 44] (by decide +kernel) (by decide +kernel)
set_option maxRecDepth 20000 in
theorem gX6_replace_X6_begin : GoodIn wsX6_replace (wsV RX6 59 RX6 yX6_begin wsX6_begin) := goodIn_app (goodIn_of _ (by decide +kernel)) ggX6_replace_X6_begin
set_option maxRecDepth 20000 in
theorem ggX6_replace_X6_brokenOf : GoodIn wsX6_replace wsX6_brokenOf := goodIn_r _ [20, 6, 32, 33, 34, 35, 36, 37, 38, 39, 40, 41, 42, 43, 44] (by decide +kernel) (by decide +kernel)
set_option maxRecDepth 20000 in
theorem gX6_replace_X6_brokenOf : GoodIn wsX6_replace (wsV RX6 98 RX6 yX6_brokenOf wsX6_brokenOf) := goodIn_app (goodIn_of _ (by decide +kernel)) ggX6_replace_X6_brokenOf
set_option maxRecDepth 20000 in
theorem ggX6_replace_X6_renew : GoodIn wsX6_replace wsX6_renew := goodIn_r _ [24, 6, 32, 33, 34, 35, 36, 37, 38, 39, 40, 41, 42, 43, 44] (by decide +kernel) (by decide +kernel)
set_option maxRecDepth 20000 in
theorem gX6_replace_X6_renew : GoodIn wsX6_replace (wsV RX6 70 RX6 yX6_renew wsX6_renew) := goodIn_app (goodIn_of _ (by decide +kernel)) ggX6_replace_X6_renew
set_option maxRecDepth 20000 in
theorem ggX6_replace_X6_done : GoodIn wsX6_replace wsX6_done := goodIn_r _ [28, 29, 30, 31, 14, 15, 32, 33, 34, 35, 36, 37, 38, 39, 40, 41, 42, 43, 44] (by decide +kernel) (by decide +kernel)
set_option maxRecDepth 20000 in
theorem gX6_replace_X6_done : GoodIn wsX6_replace (wsV RX6 62 RX6 yX6_done wsX6_done) := goodIn_app (goodIn_of _ (by decide +kernel)) ggX6_replace_X6_done
theorem dX6_replace_0 : decode cX6_replace 0 = .ok (.aload_n 0, 1) := by decide +kernel
theorem dX6_replace_1 : decode cX6_replace 1 = .ok (.iload_n 1, 1) := by decide +kernel
theorem dX6_replace_2 : decode cX6_replace 2 = .ok (.invokevirtual 83, 3) := by decide +kernel
theorem dX6_replace_5 : decode cX6_replace 5 = .ok (.ifCond .eq 5, 3) := by decide +kernel
theorem dX6_replace_8 : decode cX6_replace 8 = .ok (.iconst (-1), 1) := by decide +kernel
theorem dX6_replace_9 : decode cX6_replace 9 = .ok (.ireturn, 1) := by decide +kernel
theorem dX6_replace_10 : decode cX6_replace 10 = .ok (.aload_n 0, 1) := by decide +kernel
theorem dX6_replace_11 : decode cX6_replace 11 = .ok (.invokevirtual 59, 3) := by decide +kernel
theorem dX6_replace_14 : decode cX6_replace 14 = .ok (.aload_n 0, 1) := by decide +kernel
theorem dX6_replace_15 : decode cX6_replace 15 = .ok (.iload_n 1, 1) := by decide +kernel
theorem dX6_replace_16 : decode cX6_replace 16 = .ok (.invokevirtual 98, 3) := by decide +kernel
theorem dX6_replace_19 : decode cX6_replace 19 = .ok (.istore_n 2, 1) := by decide +kernel
theorem dX6_replace_20 : decode cX6_replace 20 = .ok (.aload_n 0, 1) := by decide +kernel
theorem dX6_replace_21 : decode cX6_replace 21 = .ok (.iload_n 1, 1) := by decide +kernel
theorem dX6_replace_22 : decode cX6_replace 22 = .ok (.invokevirtual 70, 3) := by decide +kernel
theorem dX6_replace_25 : decode cX6_replace 25 = .ok (.aload_n 0, 1) := by decide +kernel
theorem dX6_replace_26 : decode cX6_replace 26 = .ok (.iload_n 2, 1) := by decide +kernel
theorem dX6_replace_27 : decode cX6_replace 27 = .ok (.invokevirtual 62, 3) := by decide +kernel
theorem dX6_replace_30 : decode cX6_replace 30 = .ok (.ireturn, 1) := by decide +kernel
set_option maxRecDepth 20000 in
theorem ggX6_test_X6_in : GoodIn wsX6_test wsX6_in := goodIn_r _ [5] (by decide +kernel) (by decide +kernel)
set_option maxRecDepth 20000 in
theorem gX6_test_X6_in : GoodIn wsX6_test (va_wsS RX6 55 yX6_in wsX6_in) := goodIn_app (goodIn_of _ (by decide +kernel)) ggX6_test_X6_in
set_option maxRecDepth 20000 in
theorem ggX6_test_X6_begin : GoodIn wsX6_test wsX6_begin := goodIn_r _ [9, 10, 1, 11, 12, 20, 21, 22, 23, 24, 25, 26, 27, 28, 29, 30, 31, 32] (by decide +kernel) (by decide +kernel)
set_option maxRecDepth 20000 in
theorem gX6_test_X6_begin : GoodIn wsX6_test (wsV RX6 59 RX6 yX6_begin wsX6_begin) := goodIn_app (goodIn_of _ (by decide +kernel)) ggX6_test_X6_begin
set_option maxRecDepth 20000 in
theorem ggX6_test_X6_done : GoodIn wsX6_test wsX6_done := goodIn_r _ [16, 17, 18, 19, 10, 11, 20, 21, 22, 23, 24, 25, 26, 27, 28, 29, 30, 31, 32] (by decide +kernel) (by decide +kernel)
set_option maxRecDepth 20000 in
theorem gX6_test_X6_done : GoodIn wsX6_test (wsV RX6 62 RX6 yX6_done wsX6_done) := goodIn_app (goodIn_of _ (by decide +kernel)) ggX6_test_X6_done
theorem dX6_test_0 : decode cX6_test 0 = .ok (.iload_n 1, 1) := by decide +kernel
theorem dX6_test_1 : decode cX6_test 1 = .ok (.iconst 0, 1) := by decide +kernel
theorem dX6_test_2 : decode cX6_test 2 = .ok (.bipush 50, 2) := by decide +kernel
theorem dX6_test_4 : decode cX6_test 4 = .ok (.invokestatic 55, 3) := by decide +kernel
theorem dX6_test_7 : decode cX6_test 7 = .ok (.ifCond .ne 6, 3) := by decide +kernel
theorem dX6_test_10 : decode cX6_test 10 = .ok (.bipush (-2), 2) := by decide +kernel
theorem dX6_test_12 : decode cX6_test 12 = .ok (.ireturn, 1) := by decide +kernel
theorem dX6_test_13 : decode cX6_test 13 = .ok (.aload_n 0, 1) := by decide +kernel
theorem dX6_test_14 : decode cX6_test 14 = .ok (.invokevirtual 59, 3) := by decide +kernel
theorem dX6_test_17 : decode cX6_test 17 = .ok (.aload_n 0, 1) := by decide +kernel
theorem dX6_test_18 : decode cX6_test 18 = .ok (.getfield 7, 3) := by decide +kernel
theorem dX6_test_21 : decode cX6_test 21 = .ok (.iconst 4, 1) := by decide +kernel
theorem dX6_test_22 : decode cX6_test 22 = .ok (.iaload, 1) := by decide +kernel
theorem dX6_test_23 : decode cX6_test 23 = .ok (.istore_n 2, 1) := by decide +kernel
theorem dX6_test_24 : decode cX6_test 24 = .ok (.aload_n 0, 1) := by decide +kernel
theorem dX6_test_25 : decode cX6_test 25 = .ok (.getfield 7, 3) := by decide +kernel
theorem dX6_test_28 : decode cX6_test 28 = .ok (.iconst 4, 1) := by decide +kernel
theorem dX6_test_29 : decode cX6_test 29 = .ok (.iload_n 1, 1) := by decide +kernel
theorem dX6_test_30 : decode cX6_test 30 = .ok (.iastore, 1) := by decide +kernel
theorem dX6_test_31 : decode cX6_test 31 = .ok (.aload_n 0, 1) := by decide +kernel
theorem dX6_test_32 : decode cX6_test 32 = .ok (.iload_n 2, 1) := by decide +kernel
theorem dX6_test_33 : decode cX6_test 33 = .ok (.invokevirtual 62, 3) := by decide +kernel
theorem dX6_test_36 : decode cX6_test 36 = .ok (.ireturn, 1) := by decide +kernel
theorem dX6_isOn_0 : decode cX6_isOn 0 = .ok (.iload_n 1, 1) := by decide +kernel
theorem dX6_isOn_1 : decode cX6_isOn 1 = .ok (.ifCond .ne 5, 3) := by decide +kernel
theorem dX6_isOn_4 : decode cX6_isOn 4 = .ok (.iconst 1, 1) := by decide +kernel
theorem dX6_isOn_5 : decode cX6_isOn 5 = .ok (.ireturn, 1) := by decide +kernel
theorem dX6_isOn_6 : decode cX6_isOn 6 = .ok (.aload_n 0, 1) := by decide +kernel
theorem dX6_isOn_7 : decode cX6_isOn 7 = .ok (.getfield 7, 3) := by decide +kernel
theorem dX6_isOn_10 : decode cX6_isOn 10 = .ok (.bipush 9, 2) := by decide +kernel
theorem dX6_isOn_12 : decode cX6_isOn 12 = .ok (.iload_n 1, 1) := by decide +kernel
theorem dX6_isOn_13 : decode cX6_isOn 13 = .ok (.iadd, 1) := by decide +kernel
theorem dX6_isOn_14 : decode cX6_isOn 14 = .ok (.iconst 1, 1) := by decide +kernel
theorem dX6_isOn_15 : decode cX6_isOn 15 = .ok (.isub, 1) := by decide +kernel
theorem dX6_isOn_16 : decode cX6_isOn 16 = .ok (.iaload, 1) := by decide +kernel
theorem dX6_isOn_17 : decode cX6_isOn 17 = .ok (.istore_n 2, 1) := by decide +kernel
theorem dX6_isOn_18 : decode cX6_isOn 18 = .ok (.aload_n 0, 1) := by decide +kernel
theorem dX6_isOn_19 : decode cX6_isOn 19 = .ok (.getfield 7, 3) := by decide +kernel
theorem dX6_isOn_22 : decode cX6_isOn 22 = .ok (.iconst 2, 1) := by decide +kernel
theorem dX6_isOn_23 : decode cX6_isOn 23 = .ok (.iaload, 1) := by decide +kernel
theorem dX6_isOn_24 : decode cX6_isOn 24 = .ok (.iload_n 2, 1) := by decide +kernel
theorem dX6_isOn_25 : decode cX6_isOn 25 = .ok (.aload_n 0, 1) := by decide +kernel
theorem dX6_isOn_26 : decode cX6_isOn 26 = .ok (.getfield 7, 3) := by decide +kernel
theorem dX6_isOn_29 : decode cX6_isOn 29 = .ok (.bipush 12, 2) := by decide +kernel
theorem dX6_isOn_31 : decode cX6_isOn 31 = .ok (.iload_n 1, 1) := by decide +kernel
theorem dX6_isOn_32 : decode cX6_isOn 32 = .ok (.iadd, 1) := by decide +kernel
theorem dX6_isOn_33 : decode cX6_isOn 33 = .ok (.iconst 1, 1) := by decide +kernel
theorem dX6_isOn_34 : decode cX6_isOn 34 = .ok (.isub, 1) := by decide +kernel
theorem dX6_isOn_35 : decode cX6_isOn 35 = .ok (.iaload, 1) := by decide +kernel
theorem dX6_isOn_36 : decode cX6_isOn 36 = .ok (.iadd, 1) := by decide +kernel
theorem dX6_isOn_37 : decode cX6_isOn 37 = .ok (.irem, 1) := by decide +kernel
theorem dX6_isOn_38 : decode cX6_isOn 38 = .ok (.iload_n 2, 1) := by decide +kernel
theorem dX6_isOn_39 : decode cX6_isOn 39 = .ok (.if_icmp .ge 7, 3) := by decide +kernel
theorem dX6_isOn_42 : decode cX6_isOn 42 = .ok (.iconst 1, 1) := by decide +kernel
theorem dX6_isOn_43 : decode cX6_isOn 43 = .ok (.goto 4, 3) := by decide +kernel
theorem dX6_isOn_46 : decode cX6_isOn 46 = .ok (.iconst 0, 1) := by decide +kernel
theorem dX6_isOn_47 : decode cX6_isOn 47 = .ok (.ireturn, 1) := by decide +kernel
set_option maxRecDepth 20000 in
theorem ggX6_slotNow_X6_beginOf : GoodIn wsX6_slotNow wsX6_beginOf := goodIn_r _ [6, 7, 8, 9, 5, 10, 1, 11, 12, 13, 14, 15, 16, 17, 18, 19, 20, 21, 22, 23] (by decide +kernel) (by decide +kernel)
set_option maxRecDepth 20000 in
theorem gX6_slotNow_X6_beginOf : GoodIn wsX6_slotNow (wsV RX6 77 RX6 yX6_beginOf wsX6_beginOf) := goodIn_app (goodIn_of _ (by decide +kernel)) ggX6_slotNow_X6_beginOf
theorem dX6_slotNow_0 : decode cX6_slotNow 0 = .ok (.iconst 0, 1) := by decide +kernel
theorem dX6_slotNow_1 : decode cX6_slotNow 1 = .ok (.istore_n 1, 1) := by decide +kernel
theorem dX6_slotNow_2 : decode cX6_slotNow 2 = .ok (.aload_n 0, 1) := by decide +kernel
theorem dX6_slotNow_3 : decode cX6_slotNow 3 = .ok (.getfield 7, 3) := by decide +kernel
theorem dX6_slotNow_6 : decode cX6_slotNow 6 = .ok (.iconst 3, 1) := by decide +kernel
theorem dX6_slotNow_7 : decode cX6_slotNow 7 = .ok (.iaload, 1) := by decide +kernel
theorem dX6_slotNow_8 : decode cX6_slotNow 8 = .ok (.aload_n 0, 1) := by decide +kernel
theorem dX6_slotNow_9 : decode cX6_slotNow 9 = .ok (.iload_n 1, 1) := by decide +kernel
theorem dX6_slotNow_10 : decode cX6_slotNow 10 = .ok (.iconst 1, 1) := by decide +kernel
theorem dX6_slotNow_11 : decode cX6_slotNow 11 = .ok (.iadd, 1) := by decide +kernel
theorem dX6_slotNow_12 : decode cX6_slotNow 12 = .ok (.invokevirtual 77, 3) := by decide +kernel
theorem dX6_slotNow_15 : decode cX6_slotNow 15 = .ok (.if_icmp .lt 9, 3) := by decide +kernel
theorem dX6_slotNow_18 : decode cX6_slotNow 18 = .ok (.iinc 1 1, 3) := by decide +kernel
theorem dX6_slotNow_21 : decode cX6_slotNow 21 = .ok (.goto (-19), 3) := by decide +kernel
theorem dX6_slotNow_24 : decode cX6_slotNow 24 = .ok (.iload_n 1, 1) := by decide +kernel
theorem dX6_slotNow_25 : decode cX6_slotNow 25 = .ok (.ireturn, 1) := by decide +kernel
set_option maxRecDepth 20000 in
theorem ggX6_isDriven_X6_beginOf : GoodIn wsX6_isDriven wsX6_beginOf := goodIn_r _ [6, 7, 8, 9, 5, 10, 1, 19, 20, 21, 22, 23, 24, 25, 26, 27, 28, 29, 30, 31] (by decide +kernel) (by decide +kernel)
set_option maxRecDepth 20000 in
theorem gX6_isDriven_X6_beginOf : GoodIn wsX6_isDriven (wsV RX6 77 RX6 yX6_beginOf wsX6_beginOf) := goodIn_app (goodIn_of _ (by decide +kernel)) ggX6_isDriven_X6_beginOf
set_option maxRecDepth 20000 in
theorem ggX6_isDriven_X6_of : GoodIn wsX6_isDriven wsX6_of := goodIn_r _ [10, 1, 19, 20, 21, 22, 23, 24, 25, 26, 27, 28, 29, 30, 31] (by decide +kernel) (by decide +kernel)
set_option maxRecDepth 20000 in
theorem gX6_isDriven_X6_of : GoodIn wsX6_isDriven (wsV RX6 73 RX6 yX6_of wsX6_of) := goodIn_app (goodIn_of _ (by decide +kernel)) ggX6_isDriven_X6_of
set_option maxRecDepth 20000 in
theorem ggX6_isDriven_X6_litPart : GoodIn wsX6_isDriven wsX6_litPart := goodIn_r _ [14, 7, 8, 9, 5, 10, 1, 19, 20, 21, 22, 23, 24, 25, 26, 27, 28, 29, 30, 31] (by decide +kernel) (by decide +kernel)
set_option maxRecDepth 20000 in
theorem gX6_isDriven_X6_litPart : GoodIn wsX6_isDriven (wsV RX6 91 RX6 yX6_litPart wsX6_litPart) := goodIn_app (goodIn_of _ (by decide +kernel)) ggX6_isDriven_X6_litPart
set_option maxRecDepth 20000 in
theorem ggX6_isDriven_X6_isOn : GoodIn wsX6_isDriven wsX6_isOn := goodIn_r _ [18, 1, 19, 20, 21, 22, 23, 24, 25, 26, 27, 28, 29, 30, 31] (by decide +kernel) (by decide +kernel)
set_option maxRecDepth 20000 in
theorem gX6_isDriven_X6_isOn : GoodIn wsX6_isDriven (wsV RX6 101 RX6 yX6_isOn wsX6_isOn) := goodIn_app (goodIn_of _ (by decide +kernel)) ggX6_isDriven_X6_isOn
theorem dX6_isDriven_0 : decode cX6_isDriven 0 = .ok (.aload_n 0, 1) := by decide +kernel
theorem dX6_isDriven_1 : decode cX6_isDriven 1 = .ok (.getfield 7, 3) := by decide +kernel
theorem dX6_isDriven_4 : decode cX6_isDriven 4 = .ok (.iconst 3, 1) := by decide +kernel
theorem dX6_isDriven_5 : decode cX6_isDriven 5 = .ok (.iaload, 1) := by decide +kernel
theorem dX6_isDriven_6 : decode cX6_isDriven 6 = .ok (.aload_n 0, 1) := by decide +kernel
theorem dX6_isDriven_7 : decode cX6_isDriven 7 = .ok (.iload_n 1, 1) := by decide +kernel
theorem dX6_isDriven_8 : decode cX6_isDriven 8 = .ok (.invokevirtual 77, 3) := by decide +kernel
theorem dX6_isDriven_11 : decode cX6_isDriven 11 = .ok (.isub, 1) := by decide +kernel
theorem dX6_isDriven_12 : decode cX6_isDriven 12 = .ok (.istore_n 2, 1) := by decide +kernel
theorem dX6_isDriven_13 : decode cX6_isDriven 13 = .ok (.aload_n 0, 1) := by decide +kernel
theorem dX6_isDriven_14 : decode cX6_isDriven 14 = .ok (.getfield 7, 3) := by decide +kernel
theorem dX6_isDriven_17 : decode cX6_isDriven 17 = .ok (.iconst 4, 1) := by decide +kernel
theorem dX6_isDriven_18 : decode cX6_isDriven 18 = .ok (.iaload, 1) := by decide +kernel
theorem dX6_isDriven_19 : decode cX6_isDriven 19 = .ok (.ifCond .le 26, 3) := by decide +kernel
theorem dX6_isDriven_22 : decode cX6_isDriven 22 = .ok (.iload_n 2, 1) := by decide +kernel
theorem dX6_isDriven_23 : decode cX6_isDriven 23 = .ok (.aload_n 0, 1) := by decide +kernel
theorem dX6_isDriven_24 : decode cX6_isDriven 24 = .ok (.iload_n 1, 1) := by decide +kernel
theorem dX6_isDriven_25 : decode cX6_isDriven 25 = .ok (.iconst 1, 1) := by decide +kernel
theorem dX6_isDriven_26 : decode cX6_isDriven 26 = .ok (.invokevirtual 73, 3) := by decide +kernel
theorem dX6_isDriven_29 : decode cX6_isDriven 29 = .ok (.aload_n 0, 1) := by decide +kernel
theorem dX6_isDriven_30 : decode cX6_isDriven 30 = .ok (.iload_n 1, 1) := by decide +kernel
theorem dX6_isDriven_31 : decode cX6_isDriven 31 = .ok (.iconst 2, 1) := by decide +kernel
theorem dX6_isDriven_32 : decode cX6_isDriven 32 = .ok (.invokevirtual 73, 3) := by decide +kernel
theorem dX6_isDriven_35 : decode cX6_isDriven 35 = .ok (.isub, 1) := by decide +kernel
theorem dX6_isDriven_36 : decode cX6_isDriven 36 = .ok (.if_icmp .ge 7, 3) := by decide +kernel
theorem dX6_isDriven_39 : decode cX6_isDriven 39 = .ok (.iconst 1, 1) := by decide +kernel
theorem dX6_isDriven_40 : decode cX6_isDriven 40 = .ok (.goto 4, 3) := by decide +kernel
theorem dX6_isDriven_43 : decode cX6_isDriven 43 = .ok (.iconst 0, 1) := by decide +kernel
theorem dX6_isDriven_44 : decode cX6_isDriven 44 = .ok (.ireturn, 1) := by decide +kernel
theorem dX6_isDriven_45 : decode cX6_isDriven 45 = .ok (.iload_n 2, 1) := by decide +kernel
theorem dX6_isDriven_46 : decode cX6_isDriven 46 = .ok (.aload_n 0, 1) := by decide +kernel
theorem dX6_isDriven_47 : decode cX6_isDriven 47 = .ok (.iload_n 1, 1) := by decide +kernel
theorem dX6_isDriven_48 : decode cX6_isDriven 48 = .ok (.invokevirtual 91, 3) := by decide +kernel
theorem dX6_isDriven_51 : decode cX6_isDriven 51 = .ok (.if_icmp .ge 20, 3) := by decide +kernel
theorem dX6_isDriven_54 : decode cX6_isDriven 54 = .ok (.aload_n 0, 1) := by decide +kernel
theorem dX6_isDriven_55 : decode cX6_isDriven 55 = .ok (.aload_n 0, 1) := by decide +kernel
theorem dX6_isDriven_56 : decode cX6_isDriven 56 = .ok (.iload_n 1, 1) := by decide +kernel
theorem dX6_isDriven_57 : decode cX6_isDriven 57 = .ok (.iconst 4, 1) := by decide +kernel
theorem dX6_isDriven_58 : decode cX6_isDriven 58 = .ok (.invokevirtual 73, 3) := by decide +kernel
theorem dX6_isDriven_61 : decode cX6_isDriven 61 = .ok (.invokevirtual 101, 3) := by decide +kernel
theorem dX6_isDriven_64 : decode cX6_isDriven 64 = .ok (.ifCond .eq 7, 3) := by decide +kernel
theorem dX6_isDriven_67 : decode cX6_isDriven 67 = .ok (.iconst 1, 1) := by decide +kernel
theorem dX6_isDriven_68 : decode cX6_isDriven 68 = .ok (.goto 4, 3) := by decide +kernel
theorem dX6_isDriven_71 : decode cX6_isDriven 71 = .ok (.iconst 0, 1) := by decide +kernel
theorem dX6_isDriven_72 : decode cX6_isDriven 72 = .ok (.ireturn, 1) := by decide +kernel
set_option maxRecDepth 20000 in
theorem ggX6_litNow_X6_slotNow : GoodIn wsX6_litNow wsX6_slotNow := goodIn_r _ [6, 1, 7, 8, 9, 5, 10, 11, 12, 13, 14, 27, 28, 29, 30, 31, 32, 33, 34, 35, 36, 37, 38, 39] (by decide +kernel) (by decide +kernel)
set_option maxRecDepth 20000 in
theorem gX6_litNow_X6_slotNow : GoodIn wsX6_litNow (wsV RX6 104 RX6 yX6_slotNow wsX6_slotNow) := goodIn_app (goodIn_of _ (by decide +kernel)) ggX6_litNow_X6_slotNow
set_option maxRecDepth 20000 in
theorem ggX6_litNow_X6_isDriven : GoodIn wsX6_litNow wsX6_isDriven := goodIn_r _ [18, 1, 7, 8, 9, 5, 10, 11, 12, 13, 14, 19, 20, 21, 22, 23, 24, 25, 26, 27, 28, 29, 30, 31, 32, 33, 34, 35, 36, 37, 38, 39] (by decide +kernel) (by decide +kernel)
set_option maxRecDepth 20000 in
theorem gX6_litNow_X6_isDriven : GoodIn wsX6_litNow (wsV RX6 107 RX6 yX6_isDriven wsX6_isDriven) := goodIn_app (goodIn_of _ (by decide +kernel)) ggX6_litNow_X6_isDriven
set_option maxRecDepth 20000 in
theorem ggX6_litNow_X6_of : GoodIn wsX6_litNow wsX6_of := goodIn_r _ [14, 1, 27, 28, 29, 30, 31, 32, 33, 34, 35, 36, 37, 38, 39] (by decide +kernel) (by decide +kernel)
set_option maxRecDepth 20000 in
theorem gX6_litNow_X6_of : GoodIn wsX6_litNow (wsV RX6 73 RX6 yX6_of wsX6_of) := goodIn_app (goodIn_of _ (by decide +kernel)) ggX6_litNow_X6_of
theorem dX6_litNow_0 : decode cX6_litNow 0 = .ok (.aload_n 0, 1) := by decide +kernel
theorem dX6_litNow_1 : decode cX6_litNow 1 = .ok (.invokevirtual 104, 3) := by decide +kernel
theorem dX6_litNow_4 : decode cX6_litNow 4 = .ok (.iload_n 1, 1) := by decide +kernel
theorem dX6_litNow_5 : decode cX6_litNow 5 = .ok (.if_icmp .ne 15, 3) := by decide +kernel
theorem dX6_litNow_8 : decode cX6_litNow 8 = .ok (.aload_n 0, 1) := by decide +kernel
theorem dX6_litNow_9 : decode cX6_litNow 9 = .ok (.iload_n 1, 1) := by decide +kernel
theorem dX6_litNow_10 : decode cX6_litNow 10 = .ok (.invokevirtual 107, 3) := by decide +kernel
theorem dX6_litNow_13 : decode cX6_litNow 13 = .ok (.ifCond .eq 7, 3) := by decide +kernel
theorem dX6_litNow_16 : decode cX6_litNow 16 = .ok (.iconst 1, 1) := by decide +kernel
theorem dX6_litNow_17 : decode cX6_litNow 17 = .ok (.goto 4, 3) := by decide +kernel
theorem dX6_litNow_20 : decode cX6_litNow 20 = .ok (.iconst 0, 1) := by decide +kernel
theorem dX6_litNow_21 : decode cX6_litNow 21 = .ok (.istore_n 2, 1) := by decide +kernel
theorem dX6_litNow_22 : decode cX6_litNow 22 = .ok (.iload_n 2, 1) := by decide +kernel
theorem dX6_litNow_23 : decode cX6_litNow 23 = .ok (.ifCond .ne 7, 3) := by decide +kernel
theorem dX6_litNow_26 : decode cX6_litNow 26 = .ok (.iconst 0, 1) := by decide +kernel
theorem dX6_litNow_27 : decode cX6_litNow 27 = .ok (.goto 37, 3) := by decide +kernel
theorem dX6_litNow_30 : decode cX6_litNow 30 = .ok (.aload_n 0, 1) := by decide +kernel
theorem dX6_litNow_31 : decode cX6_litNow 31 = .ok (.getfield 7, 3) := by decide +kernel
theorem dX6_litNow_34 : decode cX6_litNow 34 = .ok (.iconst 4, 1) := by decide +kernel
theorem dX6_litNow_35 : decode cX6_litNow 35 = .ok (.iaload, 1) := by decide +kernel
theorem dX6_litNow_36 : decode cX6_litNow 36 = .ok (.ifCond .le 9, 3) := by decide +kernel
theorem dX6_litNow_39 : decode cX6_litNow 39 = .ok (.sipush 255, 3) := by decide +kernel
theorem dX6_litNow_42 : decode cX6_litNow 42 = .ok (.goto 9, 3) := by decide +kernel
theorem dX6_litNow_45 : decode cX6_litNow 45 = .ok (.aload_n 0, 1) := by decide +kernel
theorem dX6_litNow_46 : decode cX6_litNow 46 = .ok (.iload_n 1, 1) := by decide +kernel
theorem dX6_litNow_47 : decode cX6_litNow 47 = .ok (.iconst 0, 1) := by decide +kernel
theorem dX6_litNow_48 : decode cX6_litNow 48 = .ok (.invokevirtual 73, 3) := by decide +kernel
theorem dX6_litNow_51 : decode cX6_litNow 51 = .ok (.aload_n 0, 1) := by decide +kernel
theorem dX6_litNow_52 : decode cX6_litNow 52 = .ok (.getfield 7, 3) := by decide +kernel
theorem dX6_litNow_55 : decode cX6_litNow 55 = .ok (.sipush 192, 3) := by decide +kernel
theorem dX6_litNow_58 : decode cX6_litNow 58 = .ok (.iload_n 1, 1) := by decide +kernel
theorem dX6_litNow_59 : decode cX6_litNow 59 = .ok (.iadd, 1) := by decide +kernel
theorem dX6_litNow_60 : decode cX6_litNow 60 = .ok (.iaload, 1) := by decide +kernel
theorem dX6_litNow_61 : decode cX6_litNow 61 = .ok (.iconst (-1), 1) := by decide +kernel
theorem dX6_litNow_62 : decode cX6_litNow 62 = .ok (.ixor, 1) := by decide +kernel
theorem dX6_litNow_63 : decode cX6_litNow 63 = .ok (.iand, 1) := by decide +kernel
theorem dX6_litNow_64 : decode cX6_litNow 64 = .ok (.ireturn, 1) := by decide +kernel
theorem dX6_brighter_0 : decode cX6_brighter 0 = .ok (.sipush 1000, 3) := by decide +kernel
theorem dX6_brighter_3 : decode cX6_brighter 3 = .ok (.iload_n 0, 1) := by decide +kernel
theorem dX6_brighter_4 : decode cX6_brighter 4 = .ok (.isub, 1) := by decide +kernel
theorem dX6_brighter_5 : decode cX6_brighter 5 = .ok (.iconst 4, 1) := by decide +kernel
theorem dX6_brighter_6 : decode cX6_brighter 6 = .ok (.idiv, 1) := by decide +kernel
theorem dX6_brighter_7 : decode cX6_brighter 7 = .ok (.istore_n 1, 1) := by decide +kernel
theorem dX6_brighter_8 : decode cX6_brighter 8 = .ok (.iload_n 0, 1) := by decide +kernel
theorem dX6_brighter_9 : decode cX6_brighter 9 = .ok (.iload_n 1, 1) := by decide +kernel
theorem dX6_brighter_10 : decode cX6_brighter 10 = .ok (.iconst 1, 1) := by decide +kernel
theorem dX6_brighter_11 : decode cX6_brighter 11 = .ok (.if_icmp .ge 7, 3) := by decide +kernel
theorem dX6_brighter_14 : decode cX6_brighter 14 = .ok (.iconst 1, 1) := by decide +kernel
theorem dX6_brighter_15 : decode cX6_brighter 15 = .ok (.goto 4, 3) := by decide +kernel
theorem dX6_brighter_18 : decode cX6_brighter 18 = .ok (.iload_n 1, 1) := by decide +kernel
theorem dX6_brighter_19 : decode cX6_brighter 19 = .ok (.iadd, 1) := by decide +kernel
theorem dX6_brighter_20 : decode cX6_brighter 20 = .ok (.istore_n 2, 1) := by decide +kernel
theorem dX6_brighter_21 : decode cX6_brighter 21 = .ok (.iload_n 2, 1) := by decide +kernel
theorem dX6_brighter_22 : decode cX6_brighter 22 = .ok (.sipush 1000, 3) := by decide +kernel
theorem dX6_brighter_25 : decode cX6_brighter 25 = .ok (.if_icmp .le 9, 3) := by decide +kernel
theorem dX6_brighter_28 : decode cX6_brighter 28 = .ok (.sipush 1000, 3) := by decide +kernel
theorem dX6_brighter_31 : decode cX6_brighter 31 = .ok (.goto 4, 3) := by decide +kernel
theorem dX6_brighter_34 : decode cX6_brighter 34 = .ok (.iload_n 2, 1) := by decide +kernel
theorem dX6_brighter_35 : decode cX6_brighter 35 = .ok (.ireturn, 1) := by decide +kernel
theorem dX6_darker_0 : decode cX6_darker 0 = .ok (.iload_n 1, 1) := by decide +kernel
theorem dX6_darker_1 : decode cX6_darker 1 = .ok (.iload_n 1, 1) := by decide +kernel
theorem dX6_darker_2 : decode cX6_darker 2 = .ok (.aload_n 0, 1) := by decide +kernel
theorem dX6_darker_3 : decode cX6_darker 3 = .ok (.getfield 7, 3) := by decide +kernel
theorem dX6_darker_6 : decode cX6_darker 6 = .ok (.bipush 6, 2) := by decide +kernel
theorem dX6_darker_8 : decode cX6_darker 8 = .ok (.iaload, 1) := by decide +kernel
theorem dX6_darker_9 : decode cX6_darker 9 = .ok (.idiv, 1) := by decide +kernel
theorem dX6_darker_10 : decode cX6_darker 10 = .ok (.isub, 1) := by decide +kernel
theorem dX6_darker_11 : decode cX6_darker 11 = .ok (.iconst 1, 1) := by decide +kernel
theorem dX6_darker_12 : decode cX6_darker 12 = .ok (.isub, 1) := by decide +kernel
theorem dX6_darker_13 : decode cX6_darker 13 = .ok (.istore_n 2, 1) := by decide +kernel
theorem dX6_darker_14 : decode cX6_darker 14 = .ok (.iload_n 2, 1) := by decide +kernel
theorem dX6_darker_15 : decode cX6_darker 15 = .ok (.ifCond .ge 7, 3) := by decide +kernel
theorem dX6_darker_18 : decode cX6_darker 18 = .ok (.iconst 0, 1) := by decide +kernel
theorem dX6_darker_19 : decode cX6_darker 19 = .ok (.goto 4, 3) := by decide +kernel
theorem dX6_darker_22 : decode cX6_darker 22 = .ok (.iload_n 2, 1) := by decide +kernel
theorem dX6_darker_23 : decode cX6_darker 23 = .ok (.ireturn, 1) := by decide +kernel
set_option maxRecDepth 20000 in
theorem ggX6_light_X6_brighter : GoodIn wsX6_light wsX6_brighter := goodIn_r _ [5] (by decide +kernel) (by decide +kernel)
set_option maxRecDepth 20000 in
theorem gX6_light_X6_brighter : GoodIn wsX6_light (va_wsS RX6 110 yX6_brighter wsX6_brighter) := goodIn_app (goodIn_of _ (by decide +kernel)) ggX6_light_X6_brighter
set_option maxRecDepth 20000 in
theorem ggX6_light_X6_darker : GoodIn wsX6_light wsX6_darker := goodIn_r _ [9, 1, 10, 11, 12, 13, 14, 15, 16, 17, 18, 19, 20, 21, 22] (by decide +kernel) (by decide +kernel)
set_option maxRecDepth 20000 in
theorem gX6_light_X6_darker : GoodIn wsX6_light (wsV RX6 113 RX6 yX6_darker wsX6_darker) := goodIn_app (goodIn_of _ (by decide +kernel)) ggX6_light_X6_darker
theorem dX6_light_0 : decode cX6_light 0 = .ok (.bipush 8, 2) := by decide +kernel
theorem dX6_light_2 : decode cX6_light 2 = .ok (.iload_n 1, 1) := by decide +kernel
theorem dX6_light_3 : decode cX6_light 3 = .ok (.imul, 1) := by decide +kernel
theorem dX6_light_4 : decode cX6_light 4 = .ok (.iload_n 2, 1) := by decide +kernel
theorem dX6_light_5 : decode cX6_light 5 = .ok (.iadd, 1) := by decide +kernel
theorem dX6_light_6 : decode cX6_light 6 = .ok (.istore 4, 2) := by decide +kernel
theorem dX6_light_8 : decode cX6_light 8 = .ok (.aload_n 0, 1) := by decide +kernel
theorem dX6_light_9 : decode cX6_light 9 = .ok (.getfield 7, 3) := by decide +kernel
theorem dX6_light_12 : decode cX6_light 12 = .ok (.bipush 64, 2) := by decide +kernel
theorem dX6_light_14 : decode cX6_light 14 = .ok (.iload 4, 2) := by decide +kernel
theorem dX6_light_16 : decode cX6_light 16 = .ok (.iadd, 1) := by decide +kernel
theorem dX6_light_17 : decode cX6_light 17 = .ok (.iload_n 3, 1) := by decide +kernel
theorem dX6_light_18 : decode cX6_light 18 = .ok (.ifCond .eq 19, 3) := by decide +kernel
theorem dX6_light_21 : decode cX6_light 21 = .ok (.aload_n 0, 1) := by decide +kernel
theorem dX6_light_22 : decode cX6_light 22 = .ok (.getfield 7, 3) := by decide +kernel
theorem dX6_light_25 : decode cX6_light 25 = .ok (.bipush 64, 2) := by decide +kernel
theorem dX6_light_27 : decode cX6_light 27 = .ok (.iload 4, 2) := by decide +kernel
theorem dX6_light_29 : decode cX6_light 29 = .ok (.iadd, 1) := by decide +kernel
theorem dX6_light_30 : decode cX6_light 30 = .ok (.iaload, 1) := by decide +kernel
theorem dX6_light_31 : decode cX6_light 31 = .ok (.invokestatic 110, 3) := by decide +kernel
theorem dX6_light_34 : decode cX6_light 34 = .ok (.goto 17, 3) := by decide +kernel
theorem dX6_light_37 : decode cX6_light 37 = .ok (.aload_n 0, 1) := by decide +kernel
theorem dX6_light_38 : decode cX6_light 38 = .ok (.aload_n 0, 1) := by decide +kernel
theorem dX6_light_39 : decode cX6_light 39 = .ok (.getfield 7, 3) := by decide +kernel
theorem dX6_light_42 : decode cX6_light 42 = .ok (.bipush 64, 2) := by decide +kernel
theorem dX6_light_44 : decode cX6_light 44 = .ok (.iload 4, 2) := by decide +kernel
theorem dX6_light_46 : decode cX6_light 46 = .ok (.iadd, 1) := by decide +kernel
theorem dX6_light_47 : decode cX6_light 47 = .ok (.iaload, 1) := by decide +kernel
theorem dX6_light_48 : decode cX6_light 48 = .ok (.invokevirtual 113, 3) := by decide +kernel
theorem dX6_light_51 : decode cX6_light 51 = .ok (.iastore, 1) := by decide +kernel
theorem dX6_light_52 : decode cX6_light 52 = .ok (.iload_n 3, 1) := by decide +kernel
theorem dX6_light_53 : decode cX6_light 53 = .ok (.ifCond .eq 55, 3) := by decide +kernel
theorem dX6_light_56 : decode cX6_light 56 = .ok (.aload_n 0, 1) := by decide +kernel
theorem dX6_light_57 : decode cX6_light 57 = .ok (.getfield 7, 3) := by decide +kernel
theorem dX6_light_60 : decode cX6_light 60 = .ok (.sipush 128, 3) := by decide +kernel
theorem dX6_light_63 : decode cX6_light 63 = .ok (.iload 4, 2) := by decide +kernel
theorem dX6_light_65 : decode cX6_light 65 = .ok (.iadd, 1) := by decide +kernel
theorem dX6_light_66 : decode cX6_light 66 = .ok (.dup2, 1) := by decide +kernel
theorem dX6_light_67 : decode cX6_light 67 = .ok (.iaload, 1) := by decide +kernel
theorem dX6_light_68 : decode cX6_light 68 = .ok (.iconst 1, 1) := by decide +kernel
theorem dX6_light_69 : decode cX6_light 69 = .ok (.iadd, 1) := by decide +kernel
theorem dX6_light_70 : decode cX6_light 70 = .ok (.iastore, 1) := by decide +kernel
theorem dX6_light_71 : decode cX6_light 71 = .ok (.aload_n 0, 1) := by decide +kernel
theorem dX6_light_72 : decode cX6_light 72 = .ok (.getfield 7, 3) := by decide +kernel
theorem dX6_light_75 : decode cX6_light 75 = .ok (.sipush 128, 3) := by decide +kernel
theorem dX6_light_78 : decode cX6_light 78 = .ok (.iload 4, 2) := by decide +kernel
theorem dX6_light_80 : decode cX6_light 80 = .ok (.iadd, 1) := by decide +kernel
theorem dX6_light_81 : decode cX6_light 81 = .ok (.iaload, 1) := by decide +kernel
theorem dX6_light_82 : decode cX6_light 82 = .ok (.aload_n 0, 1) := by decide +kernel
theorem dX6_light_83 : decode cX6_light 83 = .ok (.getfield 7, 3) := by decide +kernel
theorem dX6_light_86 : decode cX6_light 86 = .ok (.bipush 8, 2) := by decide +kernel
theorem dX6_light_88 : decode cX6_light 88 = .ok (.iaload, 1) := by decide +kernel
theorem dX6_light_89 : decode cX6_light 89 = .ok (.if_icmp .lt 19, 3) := by decide +kernel
theorem dX6_light_92 : decode cX6_light 92 = .ok (.aload_n 0, 1) := by decide +kernel
theorem dX6_light_93 : decode cX6_light 93 = .ok (.getfield 7, 3) := by decide +kernel
theorem dX6_light_96 : decode cX6_light 96 = .ok (.sipush 192, 3) := by decide +kernel
theorem dX6_light_99 : decode cX6_light 99 = .ok (.iload_n 1, 1) := by decide +kernel
theorem dX6_light_100 : decode cX6_light 100 = .ok (.iadd, 1) := by decide +kernel
theorem dX6_light_101 : decode cX6_light 101 = .ok (.dup2, 1) := by decide +kernel
theorem dX6_light_102 : decode cX6_light 102 = .ok (.iaload, 1) := by decide +kernel
theorem dX6_light_103 : decode cX6_light 103 = .ok (.iconst 1, 1) := by decide +kernel
theorem dX6_light_104 : decode cX6_light 104 = .ok (.iload_n 2, 1) := by decide +kernel
theorem dX6_light_105 : decode cX6_light 105 = .ok (.ishl, 1) := by decide +kernel
theorem dX6_light_106 : decode cX6_light 106 = .ok (.ior, 1) := by decide +kernel
theorem dX6_light_107 : decode cX6_light 107 = .ok (.iastore, 1) := by decide +kernel
theorem dX6_light_108 : decode cX6_light 108 = .ok (.return_, 1) := by decide +kernel
set_option maxRecDepth 20000 in
theorem ggX6_tick_X6_slotNow : GoodIn wsX6_tick wsX6_slotNow := goodIn_r _ [10, 1, 11, 12, 13, 9, 14, 15, 16, 17, 18, 58, 59, 60, 61, 62, 63, 64, 65, 66, 67, 68, 69, 70] (by decide +kernel) (by decide +kernel)
set_option maxRecDepth 20000 in
theorem gX6_tick_X6_slotNow : GoodIn wsX6_tick (wsV RX6 104 RX6 yX6_slotNow wsX6_slotNow) := goodIn_app (goodIn_of _ (by decide +kernel)) ggX6_tick_X6_slotNow
set_option maxRecDepth 20000 in
theorem ggX6_tick_X6_litNow : GoodIn wsX6_tick wsX6_litNow := goodIn_r _ [22, 1, 6, 7, 8, 9, 10, 11, 12, 13, 14, 15, 16, 17, 18, 23, 24, 25, 26, 27, 28, 29, 30, 31, 32, 33, 34, 58, 59, 60, 61, 62, 63, 64, 65, 66, 67, 68, 69, 70] (by decide +kernel) (by decide +kernel)
set_option maxRecDepth 20000 in
theorem gX6_tick_X6_litNow : GoodIn wsX6_tick (wsV RX6 116 RX6 yX6_litNow wsX6_litNow) := goodIn_app (goodIn_of _ (by decide +kernel)) ggX6_tick_X6_litNow
set_option maxRecDepth 20000 in
theorem ggX6_tick_X6_isDriven : GoodIn wsX6_tick wsX6_isDriven := goodIn_r _ [26, 1, 11, 12, 13, 9, 14, 15, 16, 17, 18, 27, 28, 29, 30, 31, 32, 33, 34, 58, 59, 60, 61, 62, 63, 64, 65, 66, 67, 68, 69, 70] (by decide +kernel) (by decide +kernel)
set_option maxRecDepth 20000 in
theorem gX6_tick_X6_isDriven : GoodIn wsX6_tick (wsV RX6 107 RX6 yX6_isDriven wsX6_isDriven) := goodIn_app (goodIn_of _ (by decide +kernel)) ggX6_tick_X6_isDriven
set_option maxRecDepth 20000 in
theorem ggX6_tick_X6_of : GoodIn wsX6_tick wsX6_of := goodIn_r _ [18, 1, 58, 59, 60, 61, 62, 63, 64, 65, 66, 67, 68, 69, 70] (by decide +kernel) (by decide +kernel)
set_option maxRecDepth 20000 in
theorem gX6_tick_X6_of : GoodIn wsX6_tick (wsV RX6 73 RX6 yX6_of wsX6_of) := goodIn_app (goodIn_of _ (by decide +kernel)) ggX6_tick_X6_of
set_option maxRecDepth 20000 in
theorem ggX6_tick_X6_put : GoodIn wsX6_tick wsX6_put := goodIn_r _ [38, 1, 58, 59, 60, 61, 62, 63, 64, 65, 66, 67, 68, 69, 70] (by decide +kernel) (by decide +kernel)
set_option maxRecDepth 20000 in
theorem gX6_tick_X6_put : GoodIn wsX6_tick (wsV RX6 66 RX6 yX6_put wsX6_put) := goodIn_app (goodIn_of _ (by decide +kernel)) ggX6_tick_X6_put
set_option maxRecDepth 20000 in
theorem ggX6_tick_X6_light : GoodIn wsX6_tick wsX6_light := goodIn_r _ [42, 1, 43, 44, 9, 45, 46, 47, 48, 49, 58, 59, 60, 61, 62, 63, 64, 65, 66, 67, 68, 69, 70] (by decide +kernel) (by decide +kernel)
set_option maxRecDepth 20000 in
theorem gX6_tick_X6_light : GoodIn wsX6_tick (wsV RX6 119 RX6 yX6_light wsX6_light) := goodIn_app (goodIn_of _ (by decide +kernel)) ggX6_tick_X6_light
set_option maxRecDepth 20000 in
theorem ggX6_tick_X6_frameLength : GoodIn wsX6_tick wsX6_frameLength := goodIn_r _ [53, 1, 11, 12, 13, 9, 14, 15, 16, 17, 18, 58, 59, 60, 61, 62, 63, 64, 65, 66, 67, 68, 69, 70] (by decide +kernel) (by decide +kernel)
set_option maxRecDepth 20000 in
theorem gX6_tick_X6_frameLength : GoodIn wsX6_tick (wsV RX6 87 RX6 yX6_frameLength wsX6_frameLength) := goodIn_app (goodIn_of _ (by decide +kernel)) ggX6_tick_X6_frameLength
set_option maxRecDepth 20000 in
theorem ggX6_tick_X6_endFrame : GoodIn wsX6_tick wsX6_endFrame := goodIn_r _ [57, 1, 58, 59, 60, 61, 62, 63, 64, 65, 66, 67, 68, 69, 70] (by decide +kernel) (by decide +kernel)
set_option maxRecDepth 20000 in
theorem gX6_tick_X6_endFrame : GoodIn wsX6_tick (wsV RX6 80 RX6 yX6_endFrame wsX6_endFrame) := goodIn_app (goodIn_of _ (by decide +kernel)) ggX6_tick_X6_endFrame
theorem dX6_tick_0 : decode cX6_tick 0 = .ok (.aload_n 0, 1) := by decide +kernel
theorem dX6_tick_1 : decode cX6_tick 1 = .ok (.invokevirtual 104, 3) := by decide +kernel
theorem dX6_tick_4 : decode cX6_tick 4 = .ok (.istore_n 1, 1) := by decide +kernel
theorem dX6_tick_5 : decode cX6_tick 5 = .ok (.aload_n 0, 1) := by decide +kernel
theorem dX6_tick_6 : decode cX6_tick 6 = .ok (.iload_n 1, 1) := by decide +kernel
theorem dX6_tick_7 : decode cX6_tick 7 = .ok (.invokevirtual 116, 3) := by decide +kernel
theorem dX6_tick_10 : decode cX6_tick 10 = .ok (.istore_n 2, 1) := by decide +kernel
theorem dX6_tick_11 : decode cX6_tick 11 = .ok (.iconst 0, 1) := by decide +kernel
theorem dX6_tick_12 : decode cX6_tick 12 = .ok (.istore_n 3, 1) := by decide +kernel
theorem dX6_tick_13 : decode cX6_tick 13 = .ok (.aload_n 0, 1) := by decide +kernel
theorem dX6_tick_14 : decode cX6_tick 14 = .ok (.iload_n 1, 1) := by decide +kernel
theorem dX6_tick_15 : decode cX6_tick 15 = .ok (.invokevirtual 107, 3) := by decide +kernel
theorem dX6_tick_18 : decode cX6_tick 18 = .ok (.ifCond .eq 27, 3) := by decide +kernel
theorem dX6_tick_21 : decode cX6_tick 21 = .ok (.aload_n 0, 1) := by decide +kernel
theorem dX6_tick_22 : decode cX6_tick 22 = .ok (.getfield 7, 3) := by decide +kernel
theorem dX6_tick_25 : decode cX6_tick 25 = .ok (.iconst 5, 1) := by decide +kernel
theorem dX6_tick_26 : decode cX6_tick 26 = .ok (.dup2, 1) := by decide +kernel
theorem dX6_tick_27 : decode cX6_tick 27 = .ok (.iaload, 1) := by decide +kernel
theorem dX6_tick_28 : decode cX6_tick 28 = .ok (.iconst 1, 1) := by decide +kernel
theorem dX6_tick_29 : decode cX6_tick 29 = .ok (.iadd, 1) := by decide +kernel
theorem dX6_tick_30 : decode cX6_tick 30 = .ok (.iastore, 1) := by decide +kernel
theorem dX6_tick_31 : decode cX6_tick 31 = .ok (.aload_n 0, 1) := by decide +kernel
theorem dX6_tick_32 : decode cX6_tick 32 = .ok (.iload_n 1, 1) := by decide +kernel
theorem dX6_tick_33 : decode cX6_tick 33 = .ok (.iconst 5, 1) := by decide +kernel
theorem dX6_tick_34 : decode cX6_tick 34 = .ok (.aload_n 0, 1) := by decide +kernel
theorem dX6_tick_35 : decode cX6_tick 35 = .ok (.iload_n 1, 1) := by decide +kernel
theorem dX6_tick_36 : decode cX6_tick 36 = .ok (.iconst 5, 1) := by decide +kernel
theorem dX6_tick_37 : decode cX6_tick 37 = .ok (.invokevirtual 73, 3) := by decide +kernel
theorem dX6_tick_40 : decode cX6_tick 40 = .ok (.iconst 1, 1) := by decide +kernel
theorem dX6_tick_41 : decode cX6_tick 41 = .ok (.iadd, 1) := by decide +kernel
theorem dX6_tick_42 : decode cX6_tick 42 = .ok (.invokevirtual 66, 3) := by decide +kernel
theorem dX6_tick_45 : decode cX6_tick 45 = .ok (.iconst 0, 1) := by decide +kernel
theorem dX6_tick_46 : decode cX6_tick 46 = .ok (.istore 4, 2) := by decide +kernel
theorem dX6_tick_48 : decode cX6_tick 48 = .ok (.iload 4, 2) := by decide +kernel
theorem dX6_tick_50 : decode cX6_tick 50 = .ok (.aload_n 0, 1) := by decide +kernel
theorem dX6_tick_51 : decode cX6_tick 51 = .ok (.getfield 7, 3) := by decide +kernel
theorem dX6_tick_54 : decode cX6_tick 54 = .ok (.iconst 0, 1) := by decide +kernel
theorem dX6_tick_55 : decode cX6_tick 55 = .ok (.iaload, 1) := by decide +kernel
theorem dX6_tick_56 : decode cX6_tick 56 = .ok (.if_icmp .ge 71, 3) := by decide +kernel
theorem dX6_tick_59 : decode cX6_tick 59 = .ok (.iconst 0, 1) := by decide +kernel
theorem dX6_tick_60 : decode cX6_tick 60 = .ok (.istore 5, 2) := by decide +kernel
theorem dX6_tick_62 : decode cX6_tick 62 = .ok (.iload 5, 2) := by decide +kernel
theorem dX6_tick_64 : decode cX6_tick 64 = .ok (.bipush 8, 2) := by decide +kernel
theorem dX6_tick_66 : decode cX6_tick 66 = .ok (.if_icmp .ge 55, 3) := by decide +kernel
theorem dX6_tick_69 : decode cX6_tick 69 = .ok (.iload 4, 2) := by decide +kernel
theorem dX6_tick_71 : decode cX6_tick 71 = .ok (.iload_n 1, 1) := by decide +kernel
theorem dX6_tick_72 : decode cX6_tick 72 = .ok (.if_icmp .ne 17, 3) := by decide +kernel
theorem dX6_tick_75 : decode cX6_tick 75 = .ok (.iload_n 2, 1) := by decide +kernel
theorem dX6_tick_76 : decode cX6_tick 76 = .ok (.iload 5, 2) := by decide +kernel
theorem dX6_tick_78 : decode cX6_tick 78 = .ok (.ishr, 1) := by decide +kernel
theorem dX6_tick_79 : decode cX6_tick 79 = .ok (.iconst 1, 1) := by decide +kernel
theorem dX6_tick_80 : decode cX6_tick 80 = .ok (.iand, 1) := by decide +kernel
theorem dX6_tick_81 : decode cX6_tick 81 = .ok (.iconst 1, 1) := by decide +kernel
theorem dX6_tick_82 : decode cX6_tick 82 = .ok (.if_icmp .ne 7, 3) := by decide +kernel
theorem dX6_tick_85 : decode cX6_tick 85 = .ok (.iconst 1, 1) := by decide +kernel
theorem dX6_tick_86 : decode cX6_tick 86 = .ok (.goto 4, 3) := by decide +kernel
theorem dX6_tick_89 : decode cX6_tick 89 = .ok (.iconst 0, 1) := by decide +kernel
theorem dX6_tick_90 : decode cX6_tick 90 = .ok (.istore 6, 2) := by decide +kernel
theorem dX6_tick_92 : decode cX6_tick 92 = .ok (.iload_n 3, 1) := by decide +kernel
theorem dX6_tick_93 : decode cX6_tick 93 = .ok (.iload 6, 2) := by decide +kernel
theorem dX6_tick_95 : decode cX6_tick 95 = .ok (.ifCond .eq 7, 3) := by decide +kernel
theorem dX6_tick_98 : decode cX6_tick 98 = .ok (.iconst 1, 1) := by decide +kernel
theorem dX6_tick_99 : decode cX6_tick 99 = .ok (.goto 4, 3) := by decide +kernel
theorem dX6_tick_102 : decode cX6_tick 102 = .ok (.iconst 0, 1) := by decide +kernel
theorem dX6_tick_103 : decode cX6_tick 103 = .ok (.iadd, 1) := by decide +kernel
theorem dX6_tick_104 : decode cX6_tick 104 = .ok (.istore_n 3, 1) := by decide +kernel
theorem dX6_tick_105 : decode cX6_tick 105 = .ok (.aload_n 0, 1) := by decide +kernel
theorem dX6_tick_106 : decode cX6_tick 106 = .ok (.iload 4, 2) := by decide +kernel
theorem dX6_tick_108 : decode cX6_tick 108 = .ok (.iload 5, 2) := by decide +kernel
theorem dX6_tick_110 : decode cX6_tick 110 = .ok (.iload 6, 2) := by decide +kernel
theorem dX6_tick_112 : decode cX6_tick 112 = .ok (.invokevirtual 119, 3) := by decide +kernel
theorem dX6_tick_115 : decode cX6_tick 115 = .ok (.iinc 5 1, 3) := by decide +kernel
theorem dX6_tick_118 : decode cX6_tick 118 = .ok (.goto (-56), 3) := by decide +kernel
theorem dX6_tick_121 : decode cX6_tick 121 = .ok (.iinc 4 1, 3) := by decide +kernel
theorem dX6_tick_124 : decode cX6_tick 124 = .ok (.goto (-76), 3) := by decide +kernel
theorem dX6_tick_127 : decode cX6_tick 127 = .ok (.aload_n 0, 1) := by decide +kernel
theorem dX6_tick_128 : decode cX6_tick 128 = .ok (.getfield 13, 3) := by decide +kernel
theorem dX6_tick_131 : decode cX6_tick 131 = .ok (.iconst 0, 1) := by decide +kernel
theorem dX6_tick_132 : decode cX6_tick 132 = .ok (.aload_n 0, 1) := by decide +kernel
theorem dX6_tick_133 : decode cX6_tick 133 = .ok (.getfield 13, 3) := by decide +kernel
theorem dX6_tick_136 : decode cX6_tick 136 = .ok (.iconst 0, 1) := by decide +kernel
theorem dX6_tick_137 : decode cX6_tick 137 = .ok (.faload, 1) := by decide +kernel
theorem dX6_tick_138 : decode cX6_tick 138 = .ok (.iload_n 3, 1) := by decide +kernel
theorem dX6_tick_139 : decode cX6_tick 139 = .ok (.i2f, 1) := by decide +kernel
theorem dX6_tick_140 : decode cX6_tick 140 = .ok (.ldc 123, 2) := by decide +kernel
theorem dX6_tick_142 : decode cX6_tick 142 = .ok (.fmul, 1) := by decide +kernel
theorem dX6_tick_143 : decode cX6_tick 143 = .ok (.aload_n 0, 1) := by decide +kernel
theorem dX6_tick_144 : decode cX6_tick 144 = .ok (.getfield 13, 3) := by decide +kernel
theorem dX6_tick_147 : decode cX6_tick 147 = .ok (.iconst 0, 1) := by decide +kernel
theorem dX6_tick_148 : decode cX6_tick 148 = .ok (.faload, 1) := by decide +kernel
theorem dX6_tick_149 : decode cX6_tick 149 = .ok (.fsub, 1) := by decide +kernel
theorem dX6_tick_150 : decode cX6_tick 150 = .ok (.ldc 124, 2) := by decide +kernel
theorem dX6_tick_152 : decode cX6_tick 152 = .ok (.fmul, 1) := by decide +kernel
theorem dX6_tick_153 : decode cX6_tick 153 = .ok (.fadd, 1) := by decide +kernel
theorem dX6_tick_154 : decode cX6_tick 154 = .ok (.fastore, 1) := by decide +kernel
theorem dX6_tick_155 : decode cX6_tick 155 = .ok (.aload_n 0, 1) := by decide +kernel
theorem dX6_tick_156 : decode cX6_tick 156 = .ok (.getfield 13, 3) := by decide +kernel
theorem dX6_tick_159 : decode cX6_tick 159 = .ok (.iconst 1, 1) := by decide +kernel
theorem dX6_tick_160 : decode cX6_tick 160 = .ok (.aload_n 0, 1) := by decide +kernel
theorem dX6_tick_161 : decode cX6_tick 161 = .ok (.getfield 13, 3) := by decide +kernel
theorem dX6_tick_164 : decode cX6_tick 164 = .ok (.iconst 0, 1) := by decide +kernel
theorem dX6_tick_165 : decode cX6_tick 165 = .ok (.faload, 1) := by decide +kernel
theorem dX6_tick_166 : decode cX6_tick 166 = .ok (.aload_n 0, 1) := by decide +kernel
theorem dX6_tick_167 : decode cX6_tick 167 = .ok (.getfield 13, 3) := by decide +kernel
theorem dX6_tick_170 : decode cX6_tick 170 = .ok (.iconst 1, 1) := by decide +kernel
theorem dX6_tick_171 : decode cX6_tick 171 = .ok (.faload, 1) := by decide +kernel
theorem dX6_tick_172 : decode cX6_tick 172 = .ok (.fcmp .l, 1) := by decide +kernel
theorem dX6_tick_173 : decode cX6_tick 173 = .ok (.ifCond .le 12, 3) := by decide +kernel
theorem dX6_tick_176 : decode cX6_tick 176 = .ok (.aload_n 0, 1) := by decide +kernel
theorem dX6_tick_177 : decode cX6_tick 177 = .ok (.getfield 13, 3) := by decide +kernel
theorem dX6_tick_180 : decode cX6_tick 180 = .ok (.iconst 0, 1) := by decide +kernel
theorem dX6_tick_181 : decode cX6_tick 181 = .ok (.faload, 1) := by decide +kernel
theorem dX6_tick_182 : decode cX6_tick 182 = .ok (.goto 9, 3) := by decide +kernel
theorem dX6_tick_185 : decode cX6_tick 185 = .ok (.aload_n 0, 1) := by decide +kernel
theorem dX6_tick_186 : decode cX6_tick 186 = .ok (.getfield 13, 3) := by decide +kernel
theorem dX6_tick_189 : decode cX6_tick 189 = .ok (.iconst 1, 1) := by decide +kernel
theorem dX6_tick_190 : decode cX6_tick 190 = .ok (.faload, 1) := by decide +kernel
theorem dX6_tick_191 : decode cX6_tick 191 = .ok (.fastore, 1) := by decide +kernel
theorem dX6_tick_192 : decode cX6_tick 192 = .ok (.aload_n 0, 1) := by decide +kernel
theorem dX6_tick_193 : decode cX6_tick 193 = .ok (.getfield 13, 3) := by decide +kernel
theorem dX6_tick_196 : decode cX6_tick 196 = .ok (.iconst 2, 1) := by decide +kernel
theorem dX6_tick_197 : decode cX6_tick 197 = .ok (.aload_n 0, 1) := by decide +kernel
theorem dX6_tick_198 : decode cX6_tick 198 = .ok (.getfield 13, 3) := by decide +kernel
theorem dX6_tick_201 : decode cX6_tick 201 = .ok (.iconst 2, 1) := by decide +kernel
theorem dX6_tick_202 : decode cX6_tick 202 = .ok (.faload, 1) := by decide +kernel
theorem dX6_tick_203 : decode cX6_tick 203 = .ok (.aload_n 0, 1) := by decide +kernel
theorem dX6_tick_204 : decode cX6_tick 204 = .ok (.getfield 13, 3) := by decide +kernel
theorem dX6_tick_207 : decode cX6_tick 207 = .ok (.iconst 0, 1) := by decide +kernel
theorem dX6_tick_208 : decode cX6_tick 208 = .ok (.faload, 1) := by decide +kernel
theorem dX6_tick_209 : decode cX6_tick 209 = .ok (.ldc 125, 2) := by decide +kernel
theorem dX6_tick_211 : decode cX6_tick 211 = .ok (.fmul, 1) := by decide +kernel
theorem dX6_tick_212 : decode cX6_tick 212 = .ok (.fadd, 1) := by decide +kernel
theorem dX6_tick_213 : decode cX6_tick 213 = .ok (.fastore, 1) := by decide +kernel
theorem dX6_tick_214 : decode cX6_tick 214 = .ok (.aload_n 0, 1) := by decide +kernel
theorem dX6_tick_215 : decode cX6_tick 215 = .ok (.getfield 7, 3) := by decide +kernel
theorem dX6_tick_218 : decode cX6_tick 218 = .ok (.iconst 1, 1) := by decide +kernel
theorem dX6_tick_219 : decode cX6_tick 219 = .ok (.dup2, 1) := by decide +kernel
theorem dX6_tick_220 : decode cX6_tick 220 = .ok (.iaload, 1) := by decide +kernel
theorem dX6_tick_221 : decode cX6_tick 221 = .ok (.iconst 1, 1) := by decide +kernel
theorem dX6_tick_222 : decode cX6_tick 222 = .ok (.iadd, 1) := by decide +kernel
theorem dX6_tick_223 : decode cX6_tick 223 = .ok (.iastore, 1) := by decide +kernel
theorem dX6_tick_224 : decode cX6_tick 224 = .ok (.aload_n 0, 1) := by decide +kernel
theorem dX6_tick_225 : decode cX6_tick 225 = .ok (.getfield 7, 3) := by decide +kernel
theorem dX6_tick_228 : decode cX6_tick 228 = .ok (.iconst 3, 1) := by decide +kernel
theorem dX6_tick_229 : decode cX6_tick 229 = .ok (.dup2, 1) := by decide +kernel
theorem dX6_tick_230 : decode cX6_tick 230 = .ok (.iaload, 1) := by decide +kernel
theorem dX6_tick_231 : decode cX6_tick 231 = .ok (.iconst 1, 1) := by decide +kernel
theorem dX6_tick_232 : decode cX6_tick 232 = .ok (.iadd, 1) := by decide +kernel
theorem dX6_tick_233 : decode cX6_tick 233 = .ok (.iastore, 1) := by decide +kernel
theorem dX6_tick_234 : decode cX6_tick 234 = .ok (.aload_n 0, 1) := by decide +kernel
theorem dX6_tick_235 : decode cX6_tick 235 = .ok (.getfield 7, 3) := by decide +kernel
theorem dX6_tick_238 : decode cX6_tick 238 = .ok (.iconst 3, 1) := by decide +kernel
theorem dX6_tick_239 : decode cX6_tick 239 = .ok (.iaload, 1) := by decide +kernel
theorem dX6_tick_240 : decode cX6_tick 240 = .ok (.aload_n 0, 1) := by decide +kernel
theorem dX6_tick_241 : decode cX6_tick 241 = .ok (.invokevirtual 87, 3) := by decide +kernel
theorem dX6_tick_244 : decode cX6_tick 244 = .ok (.if_icmp .ne 7, 3) := by decide +kernel
theorem dX6_tick_247 : decode cX6_tick 247 = .ok (.aload_n 0, 1) := by decide +kernel
theorem dX6_tick_248 : decode cX6_tick 248 = .ok (.invokevirtual 80, 3) := by decide +kernel
theorem dX6_tick_251 : decode cX6_tick 251 = .ok (.iload_n 3, 1) := by decide +kernel
theorem dX6_tick_252 : decode cX6_tick 252 = .ok (.ireturn, 1) := by decide +kernel
set_option maxRecDepth 20000 in
theorem ggX6_pass_X6_in : GoodIn wsX6_pass wsX6_in := goodIn_r _ [4] (by decide +kernel) (by decide +kernel)
set_option maxRecDepth 20000 in
theorem gX6_pass_X6_in : GoodIn wsX6_pass (va_wsS RX6 55 yX6_in wsX6_in) := goodIn_app (goodIn_of _ (by decide +kernel)) ggX6_pass_X6_in
set_option maxRecDepth 20000 in
theorem ggX6_pass_X6_begin : GoodIn wsX6_pass wsX6_begin := goodIn_r _ [8, 9, 10, 11, 12, 78, 79, 80, 81, 82, 83, 84, 85, 86, 87, 88, 89, 90] (by decide +kernel) (by decide +kernel)
set_option maxRecDepth 20000 in
theorem gX6_pass_X6_begin : GoodIn wsX6_pass (wsV RX6 59 RX6 yX6_begin wsX6_begin) := goodIn_app (goodIn_of _ (by decide +kernel)) ggX6_pass_X6_begin
set_option maxRecDepth 20000 in
theorem ggX6_pass_X6_tick : GoodIn wsX6_pass wsX6_tick := goodIn_r _ [16, 10, 12, 17, 18, 19, 20, 21, 22, 3, 23, 24, 25, 26, 27, 28, 29, 30, 31, 32, 33, 34, 35, 36, 37, 38, 39, 40, 41, 42, 43, 44, 45, 46, 47, 48, 49, 50, 51, 52, 53, 54, 55, 56, 57, 58, 59, 60, 61, 62, 63, 64, 65, 66, 67, 68, 69, 70, 78, 79, 80, 81, 82, 83, 84, 85, 86, 87, 88, 89, 90] (by decide +kernel) (by decide +kernel)
set_option maxRecDepth 20000 in
theorem gX6_pass_X6_tick : GoodIn wsX6_pass (wsV RX6 126 RX6 yX6_tick wsX6_tick) := goodIn_app (goodIn_of _ (by decide +kernel)) ggX6_pass_X6_tick
set_option maxRecDepth 20000 in
theorem ggX6_pass_X6_done : GoodIn wsX6_pass wsX6_done := goodIn_r _ [74, 75, 76, 77, 9, 11, 78, 79, 80, 81, 82, 83, 84, 85, 86, 87, 88, 89, 90] (by decide +kernel) (by decide +kernel)
set_option maxRecDepth 20000 in
theorem gX6_pass_X6_done : GoodIn wsX6_pass (wsV RX6 62 RX6 yX6_done wsX6_done) := goodIn_app (goodIn_of _ (by decide +kernel)) ggX6_pass_X6_done
theorem dX6_pass_0 : decode cX6_pass 0 = .ok (.iload_n 1, 1) := by decide +kernel
theorem dX6_pass_1 : decode cX6_pass 1 = .ok (.iconst 1, 1) := by decide +kernel
theorem dX6_pass_2 : decode cX6_pass 2 = .ok (.sipush 500, 3) := by decide +kernel
theorem dX6_pass_5 : decode cX6_pass 5 = .ok (.invokestatic 55, 3) := by decide +kernel
theorem dX6_pass_8 : decode cX6_pass 8 = .ok (.ifCond .ne 6, 3) := by decide +kernel
theorem dX6_pass_11 : decode cX6_pass 11 = .ok (.bipush (-2), 2) := by decide +kernel
theorem dX6_pass_13 : decode cX6_pass 13 = .ok (.ireturn, 1) := by decide +kernel
theorem dX6_pass_14 : decode cX6_pass 14 = .ok (.aload_n 0, 1) := by decide +kernel
theorem dX6_pass_15 : decode cX6_pass 15 = .ok (.invokevirtual 59, 3) := by decide +kernel
theorem dX6_pass_18 : decode cX6_pass 18 = .ok (.iconst 0, 1) := by decide +kernel
theorem dX6_pass_19 : decode cX6_pass 19 = .ok (.istore_n 2, 1) := by decide +kernel
theorem dX6_pass_20 : decode cX6_pass 20 = .ok (.iconst 0, 1) := by decide +kernel
theorem dX6_pass_21 : decode cX6_pass 21 = .ok (.istore_n 3, 1) := by decide +kernel
theorem dX6_pass_22 : decode cX6_pass 22 = .ok (.iload_n 3, 1) := by decide +kernel
theorem dX6_pass_23 : decode cX6_pass 23 = .ok (.iload_n 1, 1) := by decide +kernel
theorem dX6_pass_24 : decode cX6_pass 24 = .ok (.if_icmp .ge 16, 3) := by decide +kernel
theorem dX6_pass_27 : decode cX6_pass 27 = .ok (.iload_n 2, 1) := by decide +kernel
theorem dX6_pass_28 : decode cX6_pass 28 = .ok (.aload_n 0, 1) := by decide +kernel
theorem dX6_pass_29 : decode cX6_pass 29 = .ok (.invokevirtual 126, 3) := by decide +kernel
theorem dX6_pass_32 : decode cX6_pass 32 = .ok (.iadd, 1) := by decide +kernel
theorem dX6_pass_33 : decode cX6_pass 33 = .ok (.istore_n 2, 1) := by decide +kernel
theorem dX6_pass_34 : decode cX6_pass 34 = .ok (.iinc 3 1, 3) := by decide +kernel
theorem dX6_pass_37 : decode cX6_pass 37 = .ok (.goto (-15), 3) := by decide +kernel
theorem dX6_pass_40 : decode cX6_pass 40 = .ok (.aload_n 0, 1) := by decide +kernel
theorem dX6_pass_41 : decode cX6_pass 41 = .ok (.iload_n 2, 1) := by decide +kernel
theorem dX6_pass_42 : decode cX6_pass 42 = .ok (.invokevirtual 62, 3) := by decide +kernel
theorem dX6_pass_45 : decode cX6_pass 45 = .ok (.ireturn, 1) := by decide +kernel
set_option maxRecDepth 20000 in
theorem ggX6_passFrames_X6_in : GoodIn wsX6_passFrames wsX6_in := goodIn_r _ [5] (by decide +kernel) (by decide +kernel)
set_option maxRecDepth 20000 in
theorem gX6_passFrames_X6_in : GoodIn wsX6_passFrames (va_wsS RX6 55 yX6_in wsX6_in) := goodIn_app (goodIn_of _ (by decide +kernel)) ggX6_passFrames_X6_in
set_option maxRecDepth 20000 in
theorem ggX6_passFrames_X6_begin : GoodIn wsX6_passFrames wsX6_begin := goodIn_r _ [9, 10, 1, 11, 12, 78, 79, 80, 81, 82, 83, 84, 85, 86, 87, 88, 89, 90] (by decide +kernel) (by decide +kernel)
set_option maxRecDepth 20000 in
theorem gX6_passFrames_X6_begin : GoodIn wsX6_passFrames (wsV RX6 59 RX6 yX6_begin wsX6_begin) := goodIn_app (goodIn_of _ (by decide +kernel)) ggX6_passFrames_X6_begin
set_option maxRecDepth 20000 in
theorem ggX6_passFrames_X6_tick : GoodIn wsX6_passFrames wsX6_tick := goodIn_r _ [16, 1, 12, 17, 18, 19, 20, 21, 22, 4, 23, 24, 25, 26, 27, 28, 29, 30, 31, 32, 33, 34, 35, 36, 37, 38, 39, 40, 41, 42, 43, 44, 45, 46, 47, 48, 49, 50, 51, 52, 53, 54, 55, 56, 57, 58, 59, 60, 61, 62, 63, 64, 65, 66, 67, 68, 69, 70, 78, 79, 80, 81, 82, 83, 84, 85, 86, 87, 88, 89, 90] (by decide +kernel) (by decide +kernel)
set_option maxRecDepth 20000 in
theorem gX6_passFrames_X6_tick : GoodIn wsX6_passFrames (wsV RX6 126 RX6 yX6_tick wsX6_tick) := goodIn_app (goodIn_of _ (by decide +kernel)) ggX6_passFrames_X6_tick
set_option maxRecDepth 20000 in
theorem ggX6_passFrames_X6_done : GoodIn wsX6_passFrames wsX6_done := goodIn_r _ [74, 75, 76, 77, 10, 11, 78, 79, 80, 81, 82, 83, 84, 85, 86, 87, 88, 89, 90] (by decide +kernel) (by decide +kernel)
set_option maxRecDepth 20000 in
theorem gX6_passFrames_X6_done : GoodIn wsX6_passFrames (wsV RX6 62 RX6 yX6_done wsX6_done) := goodIn_app (goodIn_of _ (by decide +kernel)) ggX6_passFrames_X6_done
theorem dX6_passFrames_0 : decode cX6_passFrames 0 = .ok (.iload_n 1, 1) := by decide +kernel
theorem dX6_passFrames_1 : decode cX6_passFrames 1 = .ok (.iconst 1, 1) := by decide +kernel
theorem dX6_passFrames_2 : decode cX6_passFrames 2 = .ok (.bipush 20, 2) := by decide +kernel
theorem dX6_passFrames_4 : decode cX6_passFrames 4 = .ok (.invokestatic 55, 3) := by decide +kernel
theorem dX6_passFrames_7 : decode cX6_passFrames 7 = .ok (.ifCond .ne 6, 3) := by decide +kernel
theorem dX6_passFrames_10 : decode cX6_passFrames 10 = .ok (.bipush (-2), 2) := by decide +kernel
theorem dX6_passFrames_12 : decode cX6_passFrames 12 = .ok (.ireturn, 1) := by decide +kernel
theorem dX6_passFrames_13 : decode cX6_passFrames 13 = .ok (.aload_n 0, 1) := by decide +kernel
theorem dX6_passFrames_14 : decode cX6_passFrames 14 = .ok (.invokevirtual 59, 3) := by decide +kernel
theorem dX6_passFrames_17 : decode cX6_passFrames 17 = .ok (.aload_n 0, 1) := by decide +kernel
theorem dX6_passFrames_18 : decode cX6_passFrames 18 = .ok (.getfield 7, 3) := by decide +kernel
theorem dX6_passFrames_21 : decode cX6_passFrames 21 = .ok (.iconst 2, 1) := by decide +kernel
theorem dX6_passFrames_22 : decode cX6_passFrames 22 = .ok (.iaload, 1) := by decide +kernel
theorem dX6_passFrames_23 : decode cX6_passFrames 23 = .ok (.iload_n 1, 1) := by decide +kernel
theorem dX6_passFrames_24 : decode cX6_passFrames 24 = .ok (.iadd, 1) := by decide +kernel
theorem dX6_passFrames_25 : decode cX6_passFrames 25 = .ok (.istore_n 2, 1) := by decide +kernel
theorem dX6_passFrames_26 : decode cX6_passFrames 26 = .ok (.aload_n 0, 1) := by decide +kernel
theorem dX6_passFrames_27 : decode cX6_passFrames 27 = .ok (.getfield 7, 3) := by decide +kernel
theorem dX6_passFrames_30 : decode cX6_passFrames 30 = .ok (.iconst 2, 1) := by decide +kernel
theorem dX6_passFrames_31 : decode cX6_passFrames 31 = .ok (.iaload, 1) := by decide +kernel
theorem dX6_passFrames_32 : decode cX6_passFrames 32 = .ok (.iload_n 2, 1) := by decide +kernel
theorem dX6_passFrames_33 : decode cX6_passFrames 33 = .ok (.if_icmp .ge 11, 3) := by decide +kernel
theorem dX6_passFrames_36 : decode cX6_passFrames 36 = .ok (.aload_n 0, 1) := by decide +kernel
theorem dX6_passFrames_37 : decode cX6_passFrames 37 = .ok (.invokevirtual 126, 3) := by decide +kernel
theorem dX6_passFrames_40 : decode cX6_passFrames 40 = .ok (.istore_n 3, 1) := by decide +kernel
theorem dX6_passFrames_41 : decode cX6_passFrames 41 = .ok (.goto (-15), 3) := by decide +kernel
theorem dX6_passFrames_44 : decode cX6_passFrames 44 = .ok (.aload_n 0, 1) := by decide +kernel
theorem dX6_passFrames_45 : decode cX6_passFrames 45 = .ok (.aload_n 0, 1) := by decide +kernel
theorem dX6_passFrames_46 : decode cX6_passFrames 46 = .ok (.getfield 7, 3) := by decide +kernel
theorem dX6_passFrames_49 : decode cX6_passFrames 49 = .ok (.iconst 1, 1) := by decide +kernel
theorem dX6_passFrames_50 : decode cX6_passFrames 50 = .ok (.iaload, 1) := by decide +kernel
theorem dX6_passFrames_51 : decode cX6_passFrames 51 = .ok (.invokevirtual 62, 3) := by decide +kernel
theorem dX6_passFrames_54 : decode cX6_passFrames 54 = .ok (.ireturn, 1) := by decide +kernel
theorem dX6_type_0 : decode cX6_type 0 = .ok (.aload_n 0, 1) := by decide +kernel
theorem dX6_type_1 : decode cX6_type 1 = .ok (.getfield 129, 3) := by decide +kernel
theorem dX6_type_4 : decode cX6_type 4 = .ok (.bipush 30, 2) := by decide +kernel
theorem dX6_type_6 : decode cX6_type 6 = .ok (.if_icmp .ne 6, 3) := by decide +kernel
theorem dX6_type_9 : decode cX6_type 9 = .ok (.bipush (-3), 2) := by decide +kernel
theorem dX6_type_11 : decode cX6_type 11 = .ok (.ireturn, 1) := by decide +kernel
theorem dX6_type_12 : decode cX6_type 12 = .ok (.aload_n 0, 1) := by decide +kernel
theorem dX6_type_13 : decode cX6_type 13 = .ok (.getfield 39, 3) := by decide +kernel
theorem dX6_type_16 : decode cX6_type 16 = .ok (.aload_n 0, 1) := by decide +kernel
theorem dX6_type_17 : decode cX6_type 17 = .ok (.getfield 129, 3) := by decide +kernel
theorem dX6_type_20 : decode cX6_type 20 = .ok (.iload_n 1, 1) := by decide +kernel
theorem dX6_type_21 : decode cX6_type 21 = .ok (.castore, 1) := by decide +kernel
theorem dX6_type_22 : decode cX6_type 22 = .ok (.aload_n 0, 1) := by decide +kernel
theorem dX6_type_23 : decode cX6_type 23 = .ok (.dup, 1) := by decide +kernel
theorem dX6_type_24 : decode cX6_type 24 = .ok (.getfield 129, 3) := by decide +kernel
theorem dX6_type_27 : decode cX6_type 27 = .ok (.iconst 1, 1) := by decide +kernel
theorem dX6_type_28 : decode cX6_type 28 = .ok (.iadd, 1) := by decide +kernel
theorem dX6_type_29 : decode cX6_type 29 = .ok (.putfield 129, 3) := by decide +kernel
theorem dX6_type_32 : decode cX6_type 32 = .ok (.aload_n 0, 1) := by decide +kernel
theorem dX6_type_33 : decode cX6_type 33 = .ok (.getfield 129, 3) := by decide +kernel
theorem dX6_type_36 : decode cX6_type 36 = .ok (.ireturn, 1) := by decide +kernel
theorem dX6_clearText_0 : decode cX6_clearText 0 = .ok (.aload_n 0, 1) := by decide +kernel
theorem dX6_clearText_1 : decode cX6_clearText 1 = .ok (.getfield 129, 3) := by decide +kernel
theorem dX6_clearText_4 : decode cX6_clearText 4 = .ok (.istore_n 1, 1) := by decide +kernel
theorem dX6_clearText_5 : decode cX6_clearText 5 = .ok (.aload_n 0, 1) := by decide +kernel
theorem dX6_clearText_6 : decode cX6_clearText 6 = .ok (.iconst 0, 1) := by decide +kernel
theorem dX6_clearText_7 : decode cX6_clearText 7 = .ok (.putfield 129, 3) := by decide +kernel
theorem dX6_clearText_10 : decode cX6_clearText 10 = .ok (.iload_n 1, 1) := by decide +kernel
theorem dX6_clearText_11 : decode cX6_clearText 11 = .ok (.ireturn, 1) := by decide +kernel
theorem dX6_patternOf_0 : decode cX6_patternOf 0 = .ok (.iload_n 0, 1) := by decide +kernel
theorem dX6_patternOf_1 : decode cX6_patternOf 1 = .ok (.lookupswitch 175 #[(32, 164), (45, 161), (48, 131), (49, 134), (50, 137), (51, 140), (52, 143), (53, 146), (54, 149), (55, 152), (56, 155), (57, 158), (69, 166), (111, 172), (114, 169)], 131) := by decide +kernel
theorem dX6_patternOf_132 : decode cX6_patternOf 132 = .ok (.bipush 63, 2) := by decide +kernel
theorem dX6_patternOf_134 : decode cX6_patternOf 134 = .ok (.ireturn, 1) := by decide +kernel
theorem dX6_patternOf_135 : decode cX6_patternOf 135 = .ok (.bipush 6, 2) := by decide +kernel
theorem dX6_patternOf_137 : decode cX6_patternOf 137 = .ok (.ireturn, 1) := by decide +kernel
theorem dX6_patternOf_138 : decode cX6_patternOf 138 = .ok (.bipush 91, 2) := by decide +kernel
theorem dX6_patternOf_140 : decode cX6_patternOf 140 = .ok (.ireturn, 1) := by decide +kernel
theorem dX6_patternOf_141 : decode cX6_patternOf 141 = .ok (.bipush 79, 2) := by decide +kernel
theorem dX6_patternOf_143 : decode cX6_patternOf 143 = .ok (.ireturn, 1) := by decide +kernel
theorem dX6_patternOf_144 : decode cX6_patternOf 144 = .ok (.bipush 102, 2) := by decide +kernel
theorem dX6_patternOf_146 : decode cX6_patternOf 146 = .ok (.ireturn, 1) := by decide +kernel
theorem dX6_patternOf_147 : decode cX6_patternOf 147 = .ok (.bipush 109, 2) := by decide +kernel
theorem dX6_patternOf_149 : decode cX6_patternOf 149 = .ok (.ireturn, 1) := by decide +kernel
theorem dX6_patternOf_150 : decode cX6_patternOf 150 = .ok (.bipush 125, 2) := by decide +kernel
theorem dX6_patternOf_152 : decode cX6_patternOf 152 = .ok (.ireturn, 1) := by decide +kernel
theorem dX6_patternOf_153 : decode cX6_patternOf 153 = .ok (.bipush 7, 2) := by decide +kernel
theorem dX6_patternOf_155 : decode cX6_patternOf 155 = .ok (.ireturn, 1) := by decide +kernel
theorem dX6_patternOf_156 : decode cX6_patternOf 156 = .ok (.bipush 127, 2) := by decide +kernel
theorem dX6_patternOf_158 : decode cX6_patternOf 158 = .ok (.ireturn, 1) := by decide +kernel
theorem dX6_patternOf_159 : decode cX6_patternOf 159 = .ok (.bipush 111, 2) := by decide +kernel
theorem dX6_patternOf_161 : decode cX6_patternOf 161 = .ok (.ireturn, 1) := by decide +kernel
theorem dX6_patternOf_162 : decode cX6_patternOf 162 = .ok (.bipush 64, 2) := by decide +kernel
theorem dX6_patternOf_164 : decode cX6_patternOf 164 = .ok (.ireturn, 1) := by decide +kernel
theorem dX6_patternOf_165 : decode cX6_patternOf 165 = .ok (.iconst 0, 1) := by decide +kernel
theorem dX6_patternOf_166 : decode cX6_patternOf 166 = .ok (.ireturn, 1) := by decide +kernel
theorem dX6_patternOf_167 : decode cX6_patternOf 167 = .ok (.bipush 121, 2) := by decide +kernel
theorem dX6_patternOf_169 : decode cX6_patternOf 169 = .ok (.ireturn, 1) := by decide +kernel
theorem dX6_patternOf_170 : decode cX6_patternOf 170 = .ok (.bipush 80, 2) := by decide +kernel
theorem dX6_patternOf_172 : decode cX6_patternOf 172 = .ok (.ireturn, 1) := by decide +kernel
theorem dX6_patternOf_173 : decode cX6_patternOf 173 = .ok (.bipush 92, 2) := by decide +kernel
theorem dX6_patternOf_175 : decode cX6_patternOf 175 = .ok (.ireturn, 1) := by decide +kernel
theorem dX6_patternOf_176 : decode cX6_patternOf 176 = .ok (.bipush (-4), 2) := by decide +kernel
theorem dX6_patternOf_178 : decode cX6_patternOf 178 = .ok (.ireturn, 1) := by decide +kernel
set_option maxRecDepth 20000 in
theorem ggX6_charOf_X6_patternOf : GoodIn wsX6_charOf wsX6_patternOf := goodIn_r _ [4] (by decide +kernel) (by decide +kernel)
set_option maxRecDepth 20000 in
theorem gX6_charOf_X6_patternOf : GoodIn wsX6_charOf (va_wsS RX6 132 yX6_patternOf wsX6_patternOf) := goodIn_app (goodIn_of _ (by decide +kernel)) ggX6_charOf_X6_patternOf
theorem dX6_charOf_0 : decode cX6_charOf 0 = .ok (.bipush 32, 2) := by decide +kernel
theorem dX6_charOf_2 : decode cX6_charOf 2 = .ok (.istore_n 2, 1) := by decide +kernel
theorem dX6_charOf_3 : decode cX6_charOf 3 = .ok (.iload_n 2, 1) := by decide +kernel
theorem dX6_charOf_4 : decode cX6_charOf 4 = .ok (.bipush 127, 2) := by decide +kernel
theorem dX6_charOf_6 : decode cX6_charOf 6 = .ok (.if_icmp .ge 21, 3) := by decide +kernel
theorem dX6_charOf_9 : decode cX6_charOf 9 = .ok (.iload_n 2, 1) := by decide +kernel
theorem dX6_charOf_10 : decode cX6_charOf 10 = .ok (.invokestatic 132, 3) := by decide +kernel
theorem dX6_charOf_13 : decode cX6_charOf 13 = .ok (.iload_n 1, 1) := by decide +kernel
theorem dX6_charOf_14 : decode cX6_charOf 14 = .ok (.if_icmp .ne 5, 3) := by decide +kernel
theorem dX6_charOf_17 : decode cX6_charOf 17 = .ok (.iload_n 2, 1) := by decide +kernel
theorem dX6_charOf_18 : decode cX6_charOf 18 = .ok (.ireturn, 1) := by decide +kernel
theorem dX6_charOf_19 : decode cX6_charOf 19 = .ok (.iload_n 2, 1) := by decide +kernel
theorem dX6_charOf_20 : decode cX6_charOf 20 = .ok (.iconst 1, 1) := by decide +kernel
theorem dX6_charOf_21 : decode cX6_charOf 21 = .ok (.iadd, 1) := by decide +kernel
theorem dX6_charOf_22 : decode cX6_charOf 22 = .ok (.i2c, 1) := by decide +kernel
theorem dX6_charOf_23 : decode cX6_charOf 23 = .ok (.istore_n 2, 1) := by decide +kernel
theorem dX6_charOf_24 : decode cX6_charOf 24 = .ok (.goto (-21), 3) := by decide +kernel
theorem dX6_charOf_27 : decode cX6_charOf 27 = .ok (.bipush (-4), 2) := by decide +kernel
theorem dX6_charOf_29 : decode cX6_charOf 29 = .ok (.ireturn, 1) := by decide +kernel
set_option maxRecDepth 20000 in
theorem ggX6_show_X6_patternOf : GoodIn wsX6_show wsX6_patternOf := goodIn_r _ [8] (by decide +kernel) (by decide +kernel)
set_option maxRecDepth 20000 in
theorem gX6_show_X6_patternOf : GoodIn wsX6_show (va_wsS RX6 132 yX6_patternOf wsX6_patternOf) := goodIn_app (goodIn_of _ (by decide +kernel)) ggX6_show_X6_patternOf
set_option maxRecDepth 20000 in
theorem ggX6_show_X6_begin : GoodIn wsX6_show wsX6_begin := goodIn_r _ [12, 13, 3, 14, 15, 27, 28, 29, 30, 31, 32, 33, 34, 35, 36, 37, 38, 39] (by decide +kernel) (by decide +kernel)
set_option maxRecDepth 20000 in
theorem gX6_show_X6_begin : GoodIn wsX6_show (wsV RX6 59 RX6 yX6_begin wsX6_begin) := goodIn_app (goodIn_of _ (by decide +kernel)) ggX6_show_X6_begin
set_option maxRecDepth 20000 in
theorem ggX6_show_X6_put : GoodIn wsX6_show wsX6_put := goodIn_r _ [19, 3, 27, 28, 29, 30, 31, 32, 33, 34, 35, 36, 37, 38, 39] (by decide +kernel) (by decide +kernel)
set_option maxRecDepth 20000 in
theorem gX6_show_X6_put : GoodIn wsX6_show (wsV RX6 66 RX6 yX6_put wsX6_put) := goodIn_app (goodIn_of _ (by decide +kernel)) ggX6_show_X6_put
set_option maxRecDepth 20000 in
theorem ggX6_show_X6_done : GoodIn wsX6_show wsX6_done := goodIn_r _ [23, 24, 25, 26, 13, 14, 27, 28, 29, 30, 31, 32, 33, 34, 35, 36, 37, 38, 39] (by decide +kernel) (by decide +kernel)
set_option maxRecDepth 20000 in
theorem gX6_show_X6_done : GoodIn wsX6_show (wsV RX6 62 RX6 yX6_done wsX6_done) := goodIn_app (goodIn_of _ (by decide +kernel)) ggX6_show_X6_done
theorem dX6_show_0 : decode cX6_show 0 = .ok (.iconst 0, 1) := by decide +kernel
theorem dX6_show_1 : decode cX6_show 1 = .ok (.istore_n 1, 1) := by decide +kernel
theorem dX6_show_2 : decode cX6_show 2 = .ok (.iconst 0, 1) := by decide +kernel
theorem dX6_show_3 : decode cX6_show 3 = .ok (.istore_n 2, 1) := by decide +kernel
theorem dX6_show_4 : decode cX6_show 4 = .ok (.iconst 0, 1) := by decide +kernel
theorem dX6_show_5 : decode cX6_show 5 = .ok (.istore_n 3, 1) := by decide +kernel
theorem dX6_show_6 : decode cX6_show 6 = .ok (.iload_n 3, 1) := by decide +kernel
theorem dX6_show_7 : decode cX6_show 7 = .ok (.aload_n 0, 1) := by decide +kernel
theorem dX6_show_8 : decode cX6_show 8 = .ok (.getfield 129, 3) := by decide +kernel
theorem dX6_show_11 : decode cX6_show 11 = .ok (.if_icmp .ge 142, 3) := by decide +kernel
theorem dX6_show_14 : decode cX6_show 14 = .ok (.aload_n 0, 1) := by decide +kernel
theorem dX6_show_15 : decode cX6_show 15 = .ok (.getfield 39, 3) := by decide +kernel
theorem dX6_show_18 : decode cX6_show 18 = .ok (.iload_n 3, 1) := by decide +kernel
theorem dX6_show_19 : decode cX6_show 19 = .ok (.caload, 1) := by decide +kernel
theorem dX6_show_20 : decode cX6_show 20 = .ok (.bipush 46, 2) := by decide +kernel
theorem dX6_show_22 : decode cX6_show 22 = .ok (.if_icmp .ne 7, 3) := by decide +kernel
theorem dX6_show_25 : decode cX6_show 25 = .ok (.iconst 1, 1) := by decide +kernel
theorem dX6_show_26 : decode cX6_show 26 = .ok (.goto 4, 3) := by decide +kernel
theorem dX6_show_29 : decode cX6_show 29 = .ok (.iconst 0, 1) := by decide +kernel
theorem dX6_show_30 : decode cX6_show 30 = .ok (.istore 4, 2) := by decide +kernel
theorem dX6_show_32 : decode cX6_show 32 = .ok (.iload 4, 2) := by decide +kernel
theorem dX6_show_34 : decode cX6_show 34 = .ok (.ifCond .eq 7, 3) := by decide +kernel
theorem dX6_show_37 : decode cX6_show 37 = .ok (.iload_n 2, 1) := by decide +kernel
theorem dX6_show_38 : decode cX6_show 38 = .ok (.ifCond .ne 7, 3) := by decide +kernel
theorem dX6_show_41 : decode cX6_show 41 = .ok (.iconst 1, 1) := by decide +kernel
theorem dX6_show_42 : decode cX6_show 42 = .ok (.goto 4, 3) := by decide +kernel
theorem dX6_show_45 : decode cX6_show 45 = .ok (.iconst 0, 1) := by decide +kernel
theorem dX6_show_46 : decode cX6_show 46 = .ok (.istore 5, 2) := by decide +kernel
theorem dX6_show_48 : decode cX6_show 48 = .ok (.iload 4, 2) := by decide +kernel
theorem dX6_show_50 : decode cX6_show 50 = .ok (.ifCond .ne 15, 3) := by decide +kernel
theorem dX6_show_53 : decode cX6_show 53 = .ok (.aload_n 0, 1) := by decide +kernel
theorem dX6_show_54 : decode cX6_show 54 = .ok (.getfield 39, 3) := by decide +kernel
theorem dX6_show_57 : decode cX6_show 57 = .ok (.iload_n 3, 1) := by decide +kernel
