theorem dX6_lives_90 : decode cX6_lives 90 = .ok (.istore 4, 2) := by decide +kernel
theorem dX6_lives_92 : decode cX6_lives 92 = .ok (.iload 4, 2) := by decide +kernel
theorem dX6_lives_94 : decode cX6_lives 94 = .ok (.aload_n 0, 1) := by decide +kernel
theorem dX6_lives_95 : decode cX6_lives 95 = .ok (.getfield 96, 3) := by decide +kernel
theorem dX6_lives_98 : decode cX6_lives 98 = .ok (.if_icmp .ge 51, 3) := by decide +kernel
theorem dX6_lives_101 : decode cX6_lives 101 = .ok (.iload_n 3, 1) := by decide +kernel
theorem dX6_lives_102 : decode cX6_lives 102 = .ok (.ifCond .ne 35, 3) := by decide +kernel
theorem dX6_lives_105 : decode cX6_lives 105 = .ok (.aload_n 0, 1) := by decide +kernel
theorem dX6_lives_106 : decode cX6_lives 106 = .ok (.getfield 39, 3) := by decide +kernel
theorem dX6_lives_109 : decode cX6_lives 109 = .ok (.iload 4, 2) := by decide +kernel
theorem dX6_lives_111 : decode cX6_lives 111 = .ok (.iaload, 1) := by decide +kernel
theorem dX6_lives_112 : decode cX6_lives 112 = .ok (.aload_n 0, 1) := by decide +kernel
theorem dX6_lives_113 : decode cX6_lives 113 = .ok (.getfield 39, 3) := by decide +kernel
theorem dX6_lives_116 : decode cX6_lives 116 = .ok (.iload_n 1, 1) := by decide +kernel
theorem dX6_lives_117 : decode cX6_lives 117 = .ok (.iaload, 1) := by decide +kernel
theorem dX6_lives_118 : decode cX6_lives 118 = .ok (.if_icmp .ne 23, 3) := by decide +kernel
theorem dX6_lives_121 : decode cX6_lives 121 = .ok (.aload_n 0, 1) := by decide +kernel
theorem dX6_lives_122 : decode cX6_lives 122 = .ok (.getfield 42, 3) := by decide +kernel
theorem dX6_lives_125 : decode cX6_lives 125 = .ok (.iload 4, 2) := by decide +kernel
theorem dX6_lives_127 : decode cX6_lives 127 = .ok (.iaload, 1) := by decide +kernel
theorem dX6_lives_128 : decode cX6_lives 128 = .ok (.aload_n 0, 1) := by decide +kernel
theorem dX6_lives_129 : decode cX6_lives 129 = .ok (.getfield 42, 3) := by decide +kernel
theorem dX6_lives_132 : decode cX6_lives 132 = .ok (.iload_n 1, 1) := by decide +kernel
theorem dX6_lives_133 : decode cX6_lives 133 = .ok (.iaload, 1) := by decide +kernel
theorem dX6_lives_134 : decode cX6_lives 134 = .ok (.if_icmp .ge 7, 3) := by decide +kernel
theorem dX6_lives_137 : decode cX6_lives 137 = .ok (.iconst 1, 1) := by decide +kernel
theorem dX6_lives_138 : decode cX6_lives 138 = .ok (.goto 4, 3) := by decide +kernel
theorem dX6_lives_141 : decode cX6_lives 141 = .ok (.iconst 0, 1) := by decide +kernel
theorem dX6_lives_142 : decode cX6_lives 142 = .ok (.istore_n 3, 1) := by decide +kernel
theorem dX6_lives_143 : decode cX6_lives 143 = .ok (.iinc 4 1, 3) := by decide +kernel
theorem dX6_lives_146 : decode cX6_lives 146 = .ok (.goto (-54), 3) := by decide +kernel
theorem dX6_lives_149 : decode cX6_lives 149 = .ok (.iload_n 2, 1) := by decide +kernel
theorem dX6_lives_150 : decode cX6_lives 150 = .ok (.ifCond .eq 11, 3) := by decide +kernel
theorem dX6_lives_153 : decode cX6_lives 153 = .ok (.iload_n 3, 1) := by decide +kernel
theorem dX6_lives_154 : decode cX6_lives 154 = .ok (.ifCond .eq 7, 3) := by decide +kernel
theorem dX6_lives_157 : decode cX6_lives 157 = .ok (.iconst 1, 1) := by decide +kernel
theorem dX6_lives_158 : decode cX6_lives 158 = .ok (.goto 4, 3) := by decide +kernel
theorem dX6_lives_161 : decode cX6_lives 161 = .ok (.iconst 0, 1) := by decide +kernel
theorem dX6_lives_162 : decode cX6_lives 162 = .ok (.ireturn, 1) := by decide +kernel
theorem dX6_isFree_0 : decode cX6_isFree 0 = .ok (.aload_n 0, 1) := by decide +kernel
theorem dX6_isFree_1 : decode cX6_isFree 1 = .ok (.getfield 7, 3) := by decide +kernel
theorem dX6_isFree_4 : decode cX6_isFree 4 = .ok (.sipush 200, 3) := by decide +kernel
theorem dX6_isFree_7 : decode cX6_isFree 7 = .ok (.iload_n 1, 1) := by decide +kernel
theorem dX6_isFree_8 : decode cX6_isFree 8 = .ok (.imul, 1) := by decide +kernel
theorem dX6_isFree_9 : decode cX6_isFree 9 = .ok (.iaload, 1) := by decide +kernel
theorem dX6_isFree_10 : decode cX6_isFree 10 = .ok (.ifCond .ne 7, 3) := by decide +kernel
theorem dX6_isFree_13 : decode cX6_isFree 13 = .ok (.iconst 1, 1) := by decide +kernel
theorem dX6_isFree_14 : decode cX6_isFree 14 = .ok (.goto 4, 3) := by decide +kernel
theorem dX6_isFree_17 : decode cX6_isFree 17 = .ok (.iconst 0, 1) := by decide +kernel
theorem dX6_isFree_18 : decode cX6_isFree 18 = .ok (.ireturn, 1) := by decide +kernel
set_option maxRecDepth 20000 in
theorem ggX6_leastFree_X6_isFree : GoodIn wsX6_leastFree wsX6_isFree := goodIn_r _ [6, 7, 8, 9, 10, 11, 12, 13, 14, 15, 16, 17, 18, 19, 20, 21, 22, 23, 24, 25, 26, 27, 28, 29, 30, 31, 32, 33, 34, 35, 36] (by decide +kernel) (by decide +kernel)
set_option maxRecDepth 20000 in
theorem gX6_leastFree_X6_isFree : GoodIn wsX6_leastFree (wsV RX6 112 RX6 yX6_isFree wsX6_isFree) := goodIn_app (goodIn_of _ (by decide +kernel)) ggX6_leastFree_X6_isFree
theorem dX6_leastFree_0 : decode cX6_leastFree 0 = .ok (.iconst 0, 1) := by decide +kernel
theorem dX6_leastFree_1 : decode cX6_leastFree 1 = .ok (.istore_n 1, 1) := by decide +kernel
theorem dX6_leastFree_2 : decode cX6_leastFree 2 = .ok (.iload_n 1, 1) := by decide +kernel
theorem dX6_leastFree_3 : decode cX6_leastFree 3 = .ok (.aload_n 0, 1) := by decide +kernel
theorem dX6_leastFree_4 : decode cX6_leastFree 4 = .ok (.getfield 64, 3) := by decide +kernel
theorem dX6_leastFree_7 : decode cX6_leastFree 7 = .ok (.if_icmp .ge 19, 3) := by decide +kernel
theorem dX6_leastFree_10 : decode cX6_leastFree 10 = .ok (.aload_n 0, 1) := by decide +kernel
theorem dX6_leastFree_11 : decode cX6_leastFree 11 = .ok (.iload_n 1, 1) := by decide +kernel
theorem dX6_leastFree_12 : decode cX6_leastFree 12 = .ok (.invokevirtual 112, 3) := by decide +kernel
theorem dX6_leastFree_15 : decode cX6_leastFree 15 = .ok (.ifCond .eq 5, 3) := by decide +kernel
theorem dX6_leastFree_18 : decode cX6_leastFree 18 = .ok (.iload_n 1, 1) := by decide +kernel
theorem dX6_leastFree_19 : decode cX6_leastFree 19 = .ok (.ireturn, 1) := by decide +kernel
theorem dX6_leastFree_20 : decode cX6_leastFree 20 = .ok (.iinc 1 1, 3) := by decide +kernel
theorem dX6_leastFree_23 : decode cX6_leastFree 23 = .ok (.goto (-21), 3) := by decide +kernel
theorem dX6_leastFree_26 : decode cX6_leastFree 26 = .ok (.iconst (-1), 1) := by decide +kernel
theorem dX6_leastFree_27 : decode cX6_leastFree 27 = .ok (.ireturn, 1) := by decide +kernel
set_option maxRecDepth 20000 in
theorem ggX6_makeRoom_X6_leastFree : GoodIn wsX6_makeRoom wsX6_leastFree := goodIn_r _ [7, 8, 9, 10, 11, 6, 12, 13, 14, 15, 16, 17, 18, 19, 20, 21, 22, 23, 24, 25, 26, 27, 28, 29, 30, 31, 32, 33, 34, 35, 36, 37, 38, 39, 40, 41, 42] (by decide +kernel) (by decide +kernel)
set_option maxRecDepth 20000 in
theorem gX6_makeRoom_X6_leastFree : GoodIn wsX6_makeRoom (wsV RX6 116 RX6 yX6_leastFree wsX6_leastFree) := goodIn_app (goodIn_of _ (by decide +kernel)) ggX6_makeRoom_X6_leastFree
theorem dX6_makeRoom_0 : decode cX6_makeRoom 0 = .ok (.aload_n 0, 1) := by decide +kernel
theorem dX6_makeRoom_1 : decode cX6_makeRoom 1 = .ok (.getfield 16, 3) := by decide +kernel
theorem dX6_makeRoom_4 : decode cX6_makeRoom 4 = .ok (.ifCond .lt 22, 3) := by decide +kernel
theorem dX6_makeRoom_7 : decode cX6_makeRoom 7 = .ok (.aload_n 0, 1) := by decide +kernel
theorem dX6_makeRoom_8 : decode cX6_makeRoom 8 = .ok (.getfield 13, 3) := by decide +kernel
theorem dX6_makeRoom_11 : decode cX6_makeRoom 11 = .ok (.aload_n 0, 1) := by decide +kernel
theorem dX6_makeRoom_12 : decode cX6_makeRoom 12 = .ok (.getfield 16, 3) := by decide +kernel
theorem dX6_makeRoom_15 : decode cX6_makeRoom 15 = .ok (.iaload, 1) := by decide +kernel
theorem dX6_makeRoom_16 : decode cX6_makeRoom 16 = .ok (.iload_n 1, 1) := by decide +kernel
theorem dX6_makeRoom_17 : decode cX6_makeRoom 17 = .ok (.iadd, 1) := by decide +kernel
theorem dX6_makeRoom_18 : decode cX6_makeRoom 18 = .ok (.sipush 200, 3) := by decide +kernel
theorem dX6_makeRoom_21 : decode cX6_makeRoom 21 = .ok (.if_icmp .gt 5, 3) := by decide +kernel
theorem dX6_makeRoom_24 : decode cX6_makeRoom 24 = .ok (.iconst 1, 1) := by decide +kernel
theorem dX6_makeRoom_25 : decode cX6_makeRoom 25 = .ok (.ireturn, 1) := by decide +kernel
theorem dX6_makeRoom_26 : decode cX6_makeRoom 26 = .ok (.aload_n 0, 1) := by decide +kernel
theorem dX6_makeRoom_27 : decode cX6_makeRoom 27 = .ok (.invokevirtual 116, 3) := by decide +kernel
theorem dX6_makeRoom_30 : decode cX6_makeRoom 30 = .ok (.istore_n 2, 1) := by decide +kernel
theorem dX6_makeRoom_31 : decode cX6_makeRoom 31 = .ok (.iload_n 2, 1) := by decide +kernel
theorem dX6_makeRoom_32 : decode cX6_makeRoom 32 = .ok (.ifCond .ge 5, 3) := by decide +kernel
theorem dX6_makeRoom_35 : decode cX6_makeRoom 35 = .ok (.iconst 0, 1) := by decide +kernel
theorem dX6_makeRoom_36 : decode cX6_makeRoom 36 = .ok (.ireturn, 1) := by decide +kernel
theorem dX6_makeRoom_37 : decode cX6_makeRoom 37 = .ok (.aload_n 0, 1) := by decide +kernel
theorem dX6_makeRoom_38 : decode cX6_makeRoom 38 = .ok (.iload_n 2, 1) := by decide +kernel
theorem dX6_makeRoom_39 : decode cX6_makeRoom 39 = .ok (.putfield 16, 3) := by decide +kernel
theorem dX6_makeRoom_42 : decode cX6_makeRoom 42 = .ok (.aload_n 0, 1) := by decide +kernel
theorem dX6_makeRoom_43 : decode cX6_makeRoom 43 = .ok (.getfield 13, 3) := by decide +kernel
theorem dX6_makeRoom_46 : decode cX6_makeRoom 46 = .ok (.iload_n 2, 1) := by decide +kernel
theorem dX6_makeRoom_47 : decode cX6_makeRoom 47 = .ok (.iconst 0, 1) := by decide +kernel
theorem dX6_makeRoom_48 : decode cX6_makeRoom 48 = .ok (.iastore, 1) := by decide +kernel
theorem dX6_makeRoom_49 : decode cX6_makeRoom 49 = .ok (.iconst 1, 1) := by decide +kernel
theorem dX6_makeRoom_50 : decode cX6_makeRoom 50 = .ok (.ireturn, 1) := by decide +kernel
theorem dX6_writeRow_0 : decode cX6_writeRow 0 = .ok (.sipush 200, 3) := by decide +kernel
theorem dX6_writeRow_3 : decode cX6_writeRow 3 = .ok (.aload_n 0, 1) := by decide +kernel
theorem dX6_writeRow_4 : decode cX6_writeRow 4 = .ok (.getfield 16, 3) := by decide +kernel
theorem dX6_writeRow_7 : decode cX6_writeRow 7 = .ok (.imul, 1) := by decide +kernel
theorem dX6_writeRow_8 : decode cX6_writeRow 8 = .ok (.aload_n 0, 1) := by decide +kernel
theorem dX6_writeRow_9 : decode cX6_writeRow 9 = .ok (.getfield 13, 3) := by decide +kernel
theorem dX6_writeRow_12 : decode cX6_writeRow 12 = .ok (.aload_n 0, 1) := by decide +kernel
theorem dX6_writeRow_13 : decode cX6_writeRow 13 = .ok (.getfield 16, 3) := by decide +kernel
theorem dX6_writeRow_16 : decode cX6_writeRow 16 = .ok (.iaload, 1) := by decide +kernel
theorem dX6_writeRow_17 : decode cX6_writeRow 17 = .ok (.iadd, 1) := by decide +kernel
theorem dX6_writeRow_18 : decode cX6_writeRow 18 = .ok (.istore_n 2, 1) := by decide +kernel
theorem dX6_writeRow_19 : decode cX6_writeRow 19 = .ok (.iconst 0, 1) := by decide +kernel
theorem dX6_writeRow_20 : decode cX6_writeRow 20 = .ok (.istore_n 3, 1) := by decide +kernel
theorem dX6_writeRow_21 : decode cX6_writeRow 21 = .ok (.iload_n 3, 1) := by decide +kernel
theorem dX6_writeRow_22 : decode cX6_writeRow 22 = .ok (.iload_n 1, 1) := by decide +kernel
theorem dX6_writeRow_23 : decode cX6_writeRow 23 = .ok (.if_icmp .ge 99, 3) := by decide +kernel
theorem dX6_writeRow_26 : decode cX6_writeRow 26 = .ok (.aload_n 0, 1) := by decide +kernel
theorem dX6_writeRow_27 : decode cX6_writeRow 27 = .ok (.getfield 120, 3) := by decide +kernel
theorem dX6_writeRow_30 : decode cX6_writeRow 30 = .ok (.ifCond .ne 21, 3) := by decide +kernel
theorem dX6_writeRow_33 : decode cX6_writeRow 33 = .ok (.aload_n 0, 1) := by decide +kernel
theorem dX6_writeRow_34 : decode cX6_writeRow 34 = .ok (.getfield 123, 3) := by decide +kernel
theorem dX6_writeRow_37 : decode cX6_writeRow 37 = .ok (.ifCond .lt 20, 3) := by decide +kernel
theorem dX6_writeRow_40 : decode cX6_writeRow 40 = .ok (.aload_n 0, 1) := by decide +kernel
theorem dX6_writeRow_41 : decode cX6_writeRow 41 = .ok (.getfield 126, 3) := by decide +kernel
theorem dX6_writeRow_44 : decode cX6_writeRow 44 = .ok (.aload_n 0, 1) := by decide +kernel
theorem dX6_writeRow_45 : decode cX6_writeRow 45 = .ok (.getfield 123, 3) := by decide +kernel
theorem dX6_writeRow_48 : decode cX6_writeRow 48 = .ok (.if_icmp .ne 9, 3) := by decide +kernel
theorem dX6_writeRow_51 : decode cX6_writeRow 51 = .ok (.aload_n 0, 1) := by decide +kernel
theorem dX6_writeRow_52 : decode cX6_writeRow 52 = .ok (.iconst 1, 1) := by decide +kernel
theorem dX6_writeRow_53 : decode cX6_writeRow 53 = .ok (.putfield 120, 3) := by decide +kernel
theorem dX6_writeRow_56 : decode cX6_writeRow 56 = .ok (.return_, 1) := by decide +kernel
theorem dX6_writeRow_57 : decode cX6_writeRow 57 = .ok (.aload_n 0, 1) := by decide +kernel
theorem dX6_writeRow_58 : decode cX6_writeRow 58 = .ok (.dup, 1) := by decide +kernel
theorem dX6_writeRow_59 : decode cX6_writeRow 59 = .ok (.getfield 126, 3) := by decide +kernel
theorem dX6_writeRow_62 : decode cX6_writeRow 62 = .ok (.iconst 1, 1) := by decide +kernel
theorem dX6_writeRow_63 : decode cX6_writeRow 63 = .ok (.iadd, 1) := by decide +kernel
theorem dX6_writeRow_64 : decode cX6_writeRow 64 = .ok (.putfield 126, 3) := by decide +kernel
theorem dX6_writeRow_67 : decode cX6_writeRow 67 = .ok (.aload_n 0, 1) := by decide +kernel
theorem dX6_writeRow_68 : decode cX6_writeRow 68 = .ok (.getfield 13, 3) := by decide +kernel
theorem dX6_writeRow_71 : decode cX6_writeRow 71 = .ok (.aload_n 0, 1) := by decide +kernel
theorem dX6_writeRow_72 : decode cX6_writeRow 72 = .ok (.getfield 16, 3) := by decide +kernel
theorem dX6_writeRow_75 : decode cX6_writeRow 75 = .ok (.dup2, 1) := by decide +kernel
theorem dX6_writeRow_76 : decode cX6_writeRow 76 = .ok (.iaload, 1) := by decide +kernel
theorem dX6_writeRow_77 : decode cX6_writeRow 77 = .ok (.iconst 1, 1) := by decide +kernel
theorem dX6_writeRow_78 : decode cX6_writeRow 78 = .ok (.iadd, 1) := by decide +kernel
theorem dX6_writeRow_79 : decode cX6_writeRow 79 = .ok (.iastore, 1) := by decide +kernel
theorem dX6_writeRow_80 : decode cX6_writeRow 80 = .ok (.aload_n 0, 1) := by decide +kernel
theorem dX6_writeRow_81 : decode cX6_writeRow 81 = .ok (.getfield 7, 3) := by decide +kernel
theorem dX6_writeRow_84 : decode cX6_writeRow 84 = .ok (.iload_n 2, 1) := by decide +kernel
theorem dX6_writeRow_85 : decode cX6_writeRow 85 = .ok (.iload_n 3, 1) := by decide +kernel
theorem dX6_writeRow_86 : decode cX6_writeRow 86 = .ok (.iadd, 1) := by decide +kernel
theorem dX6_writeRow_87 : decode cX6_writeRow 87 = .ok (.aload_n 0, 1) := by decide +kernel
theorem dX6_writeRow_88 : decode cX6_writeRow 88 = .ok (.getfield 51, 3) := by decide +kernel
theorem dX6_writeRow_91 : decode cX6_writeRow 91 = .ok (.iload_n 3, 1) := by decide +kernel
theorem dX6_writeRow_92 : decode cX6_writeRow 92 = .ok (.iaload, 1) := by decide +kernel
theorem dX6_writeRow_93 : decode cX6_writeRow 93 = .ok (.iastore, 1) := by decide +kernel
theorem dX6_writeRow_94 : decode cX6_writeRow 94 = .ok (.aload_n 0, 1) := by decide +kernel
theorem dX6_writeRow_95 : decode cX6_writeRow 95 = .ok (.getfield 23, 3) := by decide +kernel
theorem dX6_writeRow_98 : decode cX6_writeRow 98 = .ok (.aload_n 0, 1) := by decide +kernel
theorem dX6_writeRow_99 : decode cX6_writeRow 99 = .ok (.getfield 129, 3) := by decide +kernel
theorem dX6_writeRow_102 : decode cX6_writeRow 102 = .ok (.iload_n 2, 1) := by decide +kernel
theorem dX6_writeRow_103 : decode cX6_writeRow 103 = .ok (.iload_n 3, 1) := by decide +kernel
theorem dX6_writeRow_104 : decode cX6_writeRow 104 = .ok (.iadd, 1) := by decide +kernel
theorem dX6_writeRow_105 : decode cX6_writeRow 105 = .ok (.iastore, 1) := by decide +kernel
theorem dX6_writeRow_106 : decode cX6_writeRow 106 = .ok (.aload_n 0, 1) := by decide +kernel
theorem dX6_writeRow_107 : decode cX6_writeRow 107 = .ok (.dup, 1) := by decide +kernel
theorem dX6_writeRow_108 : decode cX6_writeRow 108 = .ok (.getfield 129, 3) := by decide +kernel
theorem dX6_writeRow_111 : decode cX6_writeRow 111 = .ok (.iconst 1, 1) := by decide +kernel
theorem dX6_writeRow_112 : decode cX6_writeRow 112 = .ok (.iadd, 1) := by decide +kernel
theorem dX6_writeRow_113 : decode cX6_writeRow 113 = .ok (.putfield 129, 3) := by decide +kernel
theorem dX6_writeRow_116 : decode cX6_writeRow 116 = .ok (.iinc 3 1, 3) := by decide +kernel
theorem dX6_writeRow_119 : decode cX6_writeRow 119 = .ok (.goto (-98), 3) := by decide +kernel
theorem dX6_writeRow_122 : decode cX6_writeRow 122 = .ok (.return_, 1) := by decide +kernel
set_option maxRecDepth 20000 in
theorem ggX6_makeRow_X6_step : GoodIn wsX6_makeRow wsX6_step := goodIn_r _ [8, 9] (by decide +kernel) (by decide +kernel)
set_option maxRecDepth 20000 in
theorem gX6_makeRow_X6_step : GoodIn wsX6_makeRow (va_wsS RX6 72 yX6_step wsX6_step) := goodIn_app (goodIn_of _ (by decide +kernel)) ggX6_makeRow_X6_step
theorem dX6_makeRow_0 : decode cX6_makeRow 0 = .ok (.aload_n 0, 1) := by decide +kernel
theorem dX6_makeRow_1 : decode cX6_makeRow 1 = .ok (.getfield 51, 3) := by decide +kernel
theorem dX6_makeRow_4 : decode cX6_makeRow 4 = .ok (.iconst 0, 1) := by decide +kernel
theorem dX6_makeRow_5 : decode cX6_makeRow 5 = .ok (.iload_n 1, 1) := by decide +kernel
theorem dX6_makeRow_6 : decode cX6_makeRow 6 = .ok (.iastore, 1) := by decide +kernel
theorem dX6_makeRow_7 : decode cX6_makeRow 7 = .ok (.aload_n 0, 1) := by decide +kernel
theorem dX6_makeRow_8 : decode cX6_makeRow 8 = .ok (.getfield 51, 3) := by decide +kernel
theorem dX6_makeRow_11 : decode cX6_makeRow 11 = .ok (.iconst 1, 1) := by decide +kernel
theorem dX6_makeRow_12 : decode cX6_makeRow 12 = .ok (.iload_n 2, 1) := by decide +kernel
theorem dX6_makeRow_13 : decode cX6_makeRow 13 = .ok (.bipush 8, 2) := by decide +kernel
theorem dX6_makeRow_15 : decode cX6_makeRow 15 = .ok (.ishr, 1) := by decide +kernel
theorem dX6_makeRow_16 : decode cX6_makeRow 16 = .ok (.iastore, 1) := by decide +kernel
theorem dX6_makeRow_17 : decode cX6_makeRow 17 = .ok (.aload_n 0, 1) := by decide +kernel
theorem dX6_makeRow_18 : decode cX6_makeRow 18 = .ok (.getfield 51, 3) := by decide +kernel
theorem dX6_makeRow_21 : decode cX6_makeRow 21 = .ok (.iconst 2, 1) := by decide +kernel
theorem dX6_makeRow_22 : decode cX6_makeRow 22 = .ok (.iload_n 2, 1) := by decide +kernel
theorem dX6_makeRow_23 : decode cX6_makeRow 23 = .ok (.sipush 255, 3) := by decide +kernel
theorem dX6_makeRow_26 : decode cX6_makeRow 26 = .ok (.iand, 1) := by decide +kernel
theorem dX6_makeRow_27 : decode cX6_makeRow 27 = .ok (.iastore, 1) := by decide +kernel
theorem dX6_makeRow_28 : decode cX6_makeRow 28 = .ok (.iconst 0, 1) := by decide +kernel
theorem dX6_makeRow_29 : decode cX6_makeRow 29 = .ok (.istore 4, 2) := by decide +kernel
theorem dX6_makeRow_31 : decode cX6_makeRow 31 = .ok (.iload 4, 2) := by decide +kernel
theorem dX6_makeRow_33 : decode cX6_makeRow 33 = .ok (.iconst 4, 1) := by decide +kernel
theorem dX6_makeRow_34 : decode cX6_makeRow 34 = .ok (.if_icmp .ge 37, 3) := by decide +kernel
theorem dX6_makeRow_37 : decode cX6_makeRow 37 = .ok (.aload_n 0, 1) := by decide +kernel
theorem dX6_makeRow_38 : decode cX6_makeRow 38 = .ok (.getfield 51, 3) := by decide +kernel
theorem dX6_makeRow_41 : decode cX6_makeRow 41 = .ok (.iconst 3, 1) := by decide +kernel
theorem dX6_makeRow_42 : decode cX6_makeRow 42 = .ok (.iload 4, 2) := by decide +kernel
theorem dX6_makeRow_44 : decode cX6_makeRow 44 = .ok (.iadd, 1) := by decide +kernel
theorem dX6_makeRow_45 : decode cX6_makeRow 45 = .ok (.aload_n 0, 1) := by decide +kernel
theorem dX6_makeRow_46 : decode cX6_makeRow 46 = .ok (.getfield 132, 3) := by decide +kernel
theorem dX6_makeRow_49 : decode cX6_makeRow 49 = .ok (.iconst 1, 1) := by decide +kernel
theorem dX6_makeRow_50 : decode cX6_makeRow 50 = .ok (.iadd, 1) := by decide +kernel
theorem dX6_makeRow_51 : decode cX6_makeRow 51 = .ok (.bipush 24, 2) := by decide +kernel
theorem dX6_makeRow_53 : decode cX6_makeRow 53 = .ok (.bipush 8, 2) := by decide +kernel
theorem dX6_makeRow_55 : decode cX6_makeRow 55 = .ok (.iload 4, 2) := by decide +kernel
theorem dX6_makeRow_57 : decode cX6_makeRow 57 = .ok (.imul, 1) := by decide +kernel
theorem dX6_makeRow_58 : decode cX6_makeRow 58 = .ok (.isub, 1) := by decide +kernel
theorem dX6_makeRow_59 : decode cX6_makeRow 59 = .ok (.iushr, 1) := by decide +kernel
theorem dX6_makeRow_60 : decode cX6_makeRow 60 = .ok (.sipush 255, 3) := by decide +kernel
theorem dX6_makeRow_63 : decode cX6_makeRow 63 = .ok (.iand, 1) := by decide +kernel
theorem dX6_makeRow_64 : decode cX6_makeRow 64 = .ok (.iastore, 1) := by decide +kernel
theorem dX6_makeRow_65 : decode cX6_makeRow 65 = .ok (.iinc 4 1, 3) := by decide +kernel
theorem dX6_makeRow_68 : decode cX6_makeRow 68 = .ok (.goto (-37), 3) := by decide +kernel
theorem dX6_makeRow_71 : decode cX6_makeRow 71 = .ok (.aload_n 0, 1) := by decide +kernel
theorem dX6_makeRow_72 : decode cX6_makeRow 72 = .ok (.getfield 51, 3) := by decide +kernel
theorem dX6_makeRow_75 : decode cX6_makeRow 75 = .ok (.bipush 7, 2) := by decide +kernel
theorem dX6_makeRow_77 : decode cX6_makeRow 77 = .ok (.iload_n 3, 1) := by decide +kernel
theorem dX6_makeRow_78 : decode cX6_makeRow 78 = .ok (.iastore, 1) := by decide +kernel
theorem dX6_makeRow_79 : decode cX6_makeRow 79 = .ok (.iconst 0, 1) := by decide +kernel
theorem dX6_makeRow_80 : decode cX6_makeRow 80 = .ok (.istore 4, 2) := by decide +kernel
theorem dX6_makeRow_82 : decode cX6_makeRow 82 = .ok (.iload 4, 2) := by decide +kernel
theorem dX6_makeRow_84 : decode cX6_makeRow 84 = .ok (.iload_n 3, 1) := by decide +kernel
theorem dX6_makeRow_85 : decode cX6_makeRow 85 = .ok (.if_icmp .ge 26, 3) := by decide +kernel
theorem dX6_makeRow_88 : decode cX6_makeRow 88 = .ok (.aload_n 0, 1) := by decide +kernel
theorem dX6_makeRow_89 : decode cX6_makeRow 89 = .ok (.getfield 51, 3) := by decide +kernel
theorem dX6_makeRow_92 : decode cX6_makeRow 92 = .ok (.bipush 8, 2) := by decide +kernel
theorem dX6_makeRow_94 : decode cX6_makeRow 94 = .ok (.iload 4, 2) := by decide +kernel
theorem dX6_makeRow_96 : decode cX6_makeRow 96 = .ok (.iadd, 1) := by decide +kernel
theorem dX6_makeRow_97 : decode cX6_makeRow 97 = .ok (.aload_n 0, 1) := by decide +kernel
theorem dX6_makeRow_98 : decode cX6_makeRow 98 = .ok (.getfield 20, 3) := by decide +kernel
theorem dX6_makeRow_101 : decode cX6_makeRow 101 = .ok (.iload 4, 2) := by decide +kernel
theorem dX6_makeRow_103 : decode cX6_makeRow 103 = .ok (.iaload, 1) := by decide +kernel
theorem dX6_makeRow_104 : decode cX6_makeRow 104 = .ok (.iastore, 1) := by decide +kernel
theorem dX6_makeRow_105 : decode cX6_makeRow 105 = .ok (.iinc 4 1, 3) := by decide +kernel
theorem dX6_makeRow_108 : decode cX6_makeRow 108 = .ok (.goto (-26), 3) := by decide +kernel
theorem dX6_makeRow_111 : decode cX6_makeRow 111 = .ok (.lconst 0, 1) := by decide +kernel
theorem dX6_makeRow_112 : decode cX6_makeRow 112 = .ok (.lstore 4, 2) := by decide +kernel
theorem dX6_makeRow_114 : decode cX6_makeRow 114 = .ok (.iconst 0, 1) := by decide +kernel
theorem dX6_makeRow_115 : decode cX6_makeRow 115 = .ok (.istore 6, 2) := by decide +kernel
theorem dX6_makeRow_117 : decode cX6_makeRow 117 = .ok (.iload 6, 2) := by decide +kernel
theorem dX6_makeRow_119 : decode cX6_makeRow 119 = .ok (.bipush 8, 2) := by decide +kernel
theorem dX6_makeRow_121 : decode cX6_makeRow 121 = .ok (.iload_n 3, 1) := by decide +kernel
theorem dX6_makeRow_122 : decode cX6_makeRow 122 = .ok (.iadd, 1) := by decide +kernel
theorem dX6_makeRow_123 : decode cX6_makeRow 123 = .ok (.if_icmp .ge 23, 3) := by decide +kernel
theorem dX6_makeRow_126 : decode cX6_makeRow 126 = .ok (.lload 4, 2) := by decide +kernel
theorem dX6_makeRow_128 : decode cX6_makeRow 128 = .ok (.aload_n 0, 1) := by decide +kernel
theorem dX6_makeRow_129 : decode cX6_makeRow 129 = .ok (.getfield 51, 3) := by decide +kernel
theorem dX6_makeRow_132 : decode cX6_makeRow 132 = .ok (.iload 6, 2) := by decide +kernel
theorem dX6_makeRow_134 : decode cX6_makeRow 134 = .ok (.iaload, 1) := by decide +kernel
theorem dX6_makeRow_135 : decode cX6_makeRow 135 = .ok (.invokestatic 72, 3) := by decide +kernel
theorem dX6_makeRow_138 : decode cX6_makeRow 138 = .ok (.lstore 4, 2) := by decide +kernel
theorem dX6_makeRow_140 : decode cX6_makeRow 140 = .ok (.iinc 6 1, 3) := by decide +kernel
theorem dX6_makeRow_143 : decode cX6_makeRow 143 = .ok (.goto (-26), 3) := by decide +kernel
theorem dX6_makeRow_146 : decode cX6_makeRow 146 = .ok (.iconst 0, 1) := by decide +kernel
theorem dX6_makeRow_147 : decode cX6_makeRow 147 = .ok (.istore 6, 2) := by decide +kernel
theorem dX6_makeRow_149 : decode cX6_makeRow 149 = .ok (.iload 6, 2) := by decide +kernel
theorem dX6_makeRow_151 : decode cX6_makeRow 151 = .ok (.bipush 8, 2) := by decide +kernel
theorem dX6_makeRow_153 : decode cX6_makeRow 153 = .ok (.if_icmp .ge 37, 3) := by decide +kernel
theorem dX6_makeRow_156 : decode cX6_makeRow 156 = .ok (.aload_n 0, 1) := by decide +kernel
theorem dX6_makeRow_157 : decode cX6_makeRow 157 = .ok (.getfield 51, 3) := by decide +kernel
theorem dX6_makeRow_160 : decode cX6_makeRow 160 = .ok (.bipush 8, 2) := by decide +kernel
theorem dX6_makeRow_162 : decode cX6_makeRow 162 = .ok (.iload_n 3, 1) := by decide +kernel
theorem dX6_makeRow_163 : decode cX6_makeRow 163 = .ok (.iadd, 1) := by decide +kernel
theorem dX6_makeRow_164 : decode cX6_makeRow 164 = .ok (.iload 6, 2) := by decide +kernel
theorem dX6_makeRow_166 : decode cX6_makeRow 166 = .ok (.iadd, 1) := by decide +kernel
theorem dX6_makeRow_167 : decode cX6_makeRow 167 = .ok (.lload 4, 2) := by decide +kernel
theorem dX6_makeRow_169 : decode cX6_makeRow 169 = .ok (.bipush 56, 2) := by decide +kernel
theorem dX6_makeRow_171 : decode cX6_makeRow 171 = .ok (.bipush 8, 2) := by decide +kernel
theorem dX6_makeRow_173 : decode cX6_makeRow 173 = .ok (.iload 6, 2) := by decide +kernel
theorem dX6_makeRow_175 : decode cX6_makeRow 175 = .ok (.imul, 1) := by decide +kernel
theorem dX6_makeRow_176 : decode cX6_makeRow 176 = .ok (.isub, 1) := by decide +kernel
theorem dX6_makeRow_177 : decode cX6_makeRow 177 = .ok (.lushr, 1) := by decide +kernel
theorem dX6_makeRow_178 : decode cX6_makeRow 178 = .ok (.ldc2_w 76, 3) := by decide +kernel
theorem dX6_makeRow_181 : decode cX6_makeRow 181 = .ok (.land, 1) := by decide +kernel
theorem dX6_makeRow_182 : decode cX6_makeRow 182 = .ok (.l2i, 1) := by decide +kernel
theorem dX6_makeRow_183 : decode cX6_makeRow 183 = .ok (.iastore, 1) := by decide +kernel
theorem dX6_makeRow_184 : decode cX6_makeRow 184 = .ok (.iinc 6 1, 3) := by decide +kernel
theorem dX6_makeRow_187 : decode cX6_makeRow 187 = .ok (.goto (-38), 3) := by decide +kernel
theorem dX6_makeRow_190 : decode cX6_makeRow 190 = .ok (.return_, 1) := by decide +kernel
set_option maxRecDepth 20000 in
theorem ggX6_add_X6_makeRoom : GoodIn wsX6_add wsX6_makeRoom := goodIn_r _ [9, 10, 11, 12, 13, 14, 8, 15, 16, 17, 18, 19, 20, 21, 41, 42, 43, 44, 45, 46, 47, 48, 49, 50, 51, 52, 53, 54, 55, 56, 57, 58, 59, 60, 61, 62, 63, 64, 65, 66, 67, 68, 69] (by decide +kernel) (by decide +kernel)
set_option maxRecDepth 20000 in
theorem gX6_add_X6_makeRoom : GoodIn wsX6_add (wsV RX6 135 RX6 yX6_makeRoom wsX6_makeRoom) := goodIn_app (goodIn_of _ (by decide +kernel)) ggX6_add_X6_makeRoom
set_option maxRecDepth 20000 in
theorem ggX6_add_X6_makeRow : GoodIn wsX6_add wsX6_makeRow := goodIn_r _ [25, 26, 1, 27, 28, 29, 30, 8, 31, 32, 41, 42, 43, 44, 45, 46, 47, 48, 49, 50, 51, 52, 53, 54, 55, 56, 57, 58, 59, 60, 61, 62, 63, 64, 65, 66, 67, 68, 69] (by decide +kernel) (by decide +kernel)
set_option maxRecDepth 20000 in
theorem gX6_add_X6_makeRow : GoodIn wsX6_add (wsV RX6 138 RX6 yX6_makeRow wsX6_makeRow) := goodIn_app (goodIn_of _ (by decide +kernel)) ggX6_add_X6_makeRow
set_option maxRecDepth 20000 in
theorem ggX6_add_X6_writeRow : GoodIn wsX6_add wsX6_writeRow := goodIn_r _ [36, 10, 11, 37, 3, 38, 21, 26, 39, 40, 41, 42, 43, 44, 45, 46, 47, 48, 49, 50, 51, 52, 53, 54, 55, 56, 57, 58, 59, 60, 61, 62, 63, 64, 65, 66, 67, 68, 69] (by decide +kernel) (by decide +kernel)
set_option maxRecDepth 20000 in
theorem gX6_add_X6_writeRow : GoodIn wsX6_add (wsV RX6 142 RX6 yX6_writeRow wsX6_writeRow) := goodIn_app (goodIn_of _ (by decide +kernel)) ggX6_add_X6_writeRow
theorem dX6_add_0 : decode cX6_add 0 = .ok (.aload_n 0, 1) := by decide +kernel
theorem dX6_add_1 : decode cX6_add 1 = .ok (.getfield 132, 3) := by decide +kernel
theorem dX6_add_4 : decode cX6_add 4 = .ok (.ldc 111, 2) := by decide +kernel
theorem dX6_add_6 : decode cX6_add 6 = .ok (.if_icmp .eq 17, 3) := by decide +kernel
theorem dX6_add_9 : decode cX6_add 9 = .ok (.aload_n 0, 1) := by decide +kernel
theorem dX6_add_10 : decode cX6_add 10 = .ok (.bipush 8, 2) := by decide +kernel
theorem dX6_add_12 : decode cX6_add 12 = .ok (.iload_n 3, 1) := by decide +kernel
theorem dX6_add_13 : decode cX6_add 13 = .ok (.iadd, 1) := by decide +kernel
theorem dX6_add_14 : decode cX6_add 14 = .ok (.bipush 8, 2) := by decide +kernel
theorem dX6_add_16 : decode cX6_add 16 = .ok (.iadd, 1) := by decide +kernel
theorem dX6_add_17 : decode cX6_add 17 = .ok (.invokevirtual 135, 3) := by decide +kernel
theorem dX6_add_20 : decode cX6_add 20 = .ok (.ifCond .ne 6, 3) := by decide +kernel
theorem dX6_add_23 : decode cX6_add 23 = .ok (.bipush (-4), 2) := by decide +kernel
theorem dX6_add_25 : decode cX6_add 25 = .ok (.ireturn, 1) := by decide +kernel
theorem dX6_add_26 : decode cX6_add 26 = .ok (.aload_n 0, 1) := by decide +kernel
theorem dX6_add_27 : decode cX6_add 27 = .ok (.iload_n 1, 1) := by decide +kernel
theorem dX6_add_28 : decode cX6_add 28 = .ok (.iload_n 2, 1) := by decide +kernel
theorem dX6_add_29 : decode cX6_add 29 = .ok (.iload_n 3, 1) := by decide +kernel
theorem dX6_add_30 : decode cX6_add 30 = .ok (.invokevirtual 138, 3) := by decide +kernel
theorem dX6_add_33 : decode cX6_add 33 = .ok (.aload_n 0, 1) := by decide +kernel
theorem dX6_add_34 : decode cX6_add 34 = .ok (.iconst (-1), 1) := by decide +kernel
theorem dX6_add_35 : decode cX6_add 35 = .ok (.putfield 123, 3) := by decide +kernel
theorem dX6_add_38 : decode cX6_add 38 = .ok (.aload_n 0, 1) := by decide +kernel
theorem dX6_add_39 : decode cX6_add 39 = .ok (.bipush 8, 2) := by decide +kernel
theorem dX6_add_41 : decode cX6_add 41 = .ok (.iload_n 3, 1) := by decide +kernel
theorem dX6_add_42 : decode cX6_add 42 = .ok (.iadd, 1) := by decide +kernel
theorem dX6_add_43 : decode cX6_add 43 = .ok (.bipush 8, 2) := by decide +kernel
theorem dX6_add_45 : decode cX6_add 45 = .ok (.iadd, 1) := by decide +kernel
theorem dX6_add_46 : decode cX6_add 46 = .ok (.invokevirtual 142, 3) := by decide +kernel
theorem dX6_add_49 : decode cX6_add 49 = .ok (.aload_n 0, 1) := by decide +kernel
theorem dX6_add_50 : decode cX6_add 50 = .ok (.dup, 1) := by decide +kernel
theorem dX6_add_51 : decode cX6_add 51 = .ok (.getfield 132, 3) := by decide +kernel
theorem dX6_add_54 : decode cX6_add 54 = .ok (.iconst 1, 1) := by decide +kernel
theorem dX6_add_55 : decode cX6_add 55 = .ok (.iadd, 1) := by decide +kernel
theorem dX6_add_56 : decode cX6_add 56 = .ok (.putfield 132, 3) := by decide +kernel
theorem dX6_add_59 : decode cX6_add 59 = .ok (.aload_n 0, 1) := by decide +kernel
theorem dX6_add_60 : decode cX6_add 60 = .ok (.iconst 0, 1) := by decide +kernel
theorem dX6_add_61 : decode cX6_add 61 = .ok (.putfield 99, 3) := by decide +kernel
theorem dX6_add_64 : decode cX6_add 64 = .ok (.aload_n 0, 1) := by decide +kernel
theorem dX6_add_65 : decode cX6_add 65 = .ok (.getfield 132, 3) := by decide +kernel
theorem dX6_add_68 : decode cX6_add 68 = .ok (.ireturn, 1) := by decide +kernel
set_option maxRecDepth 20000 in
theorem ggX6_feed_X6_in : GoodIn wsX6_feed wsX6_in := goodIn_r _ [7] (by decide +kernel) (by decide +kernel)
set_option maxRecDepth 20000 in
theorem gX6_feed_X6_in : GoodIn wsX6_feed (va_wsS RX6 78 yX6_in wsX6_in) := goodIn_app (goodIn_of _ (by decide +kernel)) ggX6_feed_X6_in
theorem dX6_feed_0 : decode cX6_feed 0 = .ok (.aload_n 0, 1) := by decide +kernel
theorem dX6_feed_1 : decode cX6_feed 1 = .ok (.iconst 0, 1) := by decide +kernel
theorem dX6_feed_2 : decode cX6_feed 2 = .ok (.putfield 67, 3) := by decide +kernel
theorem dX6_feed_5 : decode cX6_feed 5 = .ok (.iload_n 2, 1) := by decide +kernel
theorem dX6_feed_6 : decode cX6_feed 6 = .ok (.iconst 0, 1) := by decide +kernel
theorem dX6_feed_7 : decode cX6_feed 7 = .ok (.iconst 4, 1) := by decide +kernel
theorem dX6_feed_8 : decode cX6_feed 8 = .ok (.invokestatic 78, 3) := by decide +kernel
theorem dX6_feed_11 : decode cX6_feed 11 = .ok (.ifCond .ne 6, 3) := by decide +kernel
theorem dX6_feed_14 : decode cX6_feed 14 = .ok (.bipush (-2), 2) := by decide +kernel
theorem dX6_feed_16 : decode cX6_feed 16 = .ok (.ireturn, 1) := by decide +kernel
theorem dX6_feed_17 : decode cX6_feed 17 = .ok (.aload_n 0, 1) := by decide +kernel
theorem dX6_feed_18 : decode cX6_feed 18 = .ok (.getfield 146, 3) := by decide +kernel
theorem dX6_feed_21 : decode cX6_feed 21 = .ok (.iload_n 2, 1) := by decide +kernel
theorem dX6_feed_22 : decode cX6_feed 22 = .ok (.iadd, 1) := by decide +kernel
theorem dX6_feed_23 : decode cX6_feed 23 = .ok (.bipush 20, 2) := by decide +kernel
theorem dX6_feed_25 : decode cX6_feed 25 = .ok (.if_icmp .le 6, 3) := by decide +kernel
theorem dX6_feed_28 : decode cX6_feed 28 = .ok (.bipush (-4), 2) := by decide +kernel
theorem dX6_feed_30 : decode cX6_feed 30 = .ok (.ireturn, 1) := by decide +kernel
theorem dX6_feed_31 : decode cX6_feed 31 = .ok (.iload_n 2, 1) := by decide +kernel
theorem dX6_feed_32 : decode cX6_feed 32 = .ok (.iconst 1, 1) := by decide +kernel
theorem dX6_feed_33 : decode cX6_feed 33 = .ok (.isub, 1) := by decide +kernel
theorem dX6_feed_34 : decode cX6_feed 34 = .ok (.istore_n 3, 1) := by decide +kernel
theorem dX6_feed_35 : decode cX6_feed 35 = .ok (.iload_n 3, 1) := by decide +kernel
theorem dX6_feed_36 : decode cX6_feed 36 = .ok (.ifCond .lt 38, 3) := by decide +kernel
theorem dX6_feed_39 : decode cX6_feed 39 = .ok (.aload_n 0, 1) := by decide +kernel
theorem dX6_feed_40 : decode cX6_feed 40 = .ok (.getfield 20, 3) := by decide +kernel
theorem dX6_feed_43 : decode cX6_feed 43 = .ok (.aload_n 0, 1) := by decide +kernel
theorem dX6_feed_44 : decode cX6_feed 44 = .ok (.getfield 146, 3) := by decide +kernel
theorem dX6_feed_47 : decode cX6_feed 47 = .ok (.iload_n 1, 1) := by decide +kernel
theorem dX6_feed_48 : decode cX6_feed 48 = .ok (.bipush 8, 2) := by decide +kernel
theorem dX6_feed_50 : decode cX6_feed 50 = .ok (.iload_n 3, 1) := by decide +kernel
theorem dX6_feed_51 : decode cX6_feed 51 = .ok (.imul, 1) := by decide +kernel
theorem dX6_feed_52 : decode cX6_feed 52 = .ok (.ishr, 1) := by decide +kernel
theorem dX6_feed_53 : decode cX6_feed 53 = .ok (.sipush 255, 3) := by decide +kernel
theorem dX6_feed_56 : decode cX6_feed 56 = .ok (.iand, 1) := by decide +kernel
theorem dX6_feed_57 : decode cX6_feed 57 = .ok (.iastore, 1) := by decide +kernel
theorem dX6_feed_58 : decode cX6_feed 58 = .ok (.aload_n 0, 1) := by decide +kernel
theorem dX6_feed_59 : decode cX6_feed 59 = .ok (.dup, 1) := by decide +kernel
theorem dX6_feed_60 : decode cX6_feed 60 = .ok (.getfield 146, 3) := by decide +kernel
theorem dX6_feed_63 : decode cX6_feed 63 = .ok (.iconst 1, 1) := by decide +kernel
theorem dX6_feed_64 : decode cX6_feed 64 = .ok (.iadd, 1) := by decide +kernel
theorem dX6_feed_65 : decode cX6_feed 65 = .ok (.putfield 146, 3) := by decide +kernel
theorem dX6_feed_68 : decode cX6_feed 68 = .ok (.iinc 3 (-1), 3) := by decide +kernel
theorem dX6_feed_71 : decode cX6_feed 71 = .ok (.goto (-36), 3) := by decide +kernel
theorem dX6_feed_74 : decode cX6_feed 74 = .ok (.aload_n 0, 1) := by decide +kernel
theorem dX6_feed_75 : decode cX6_feed 75 = .ok (.getfield 146, 3) := by decide +kernel
theorem dX6_feed_78 : decode cX6_feed 78 = .ok (.ireturn, 1) := by decide +kernel
set_option maxRecDepth 20000 in
theorem ggX6_put_X6_in : GoodIn wsX6_put wsX6_in := goodIn_r _ [7] (by decide +kernel) (by decide +kernel)
set_option maxRecDepth 20000 in
theorem gX6_put_X6_in : GoodIn wsX6_put (va_wsS RX6 78 yX6_in wsX6_in) := goodIn_app (goodIn_of _ (by decide +kernel)) ggX6_put_X6_in
set_option maxRecDepth 20000 in
theorem ggX6_put_X6_add : GoodIn wsX6_put wsX6_add := goodIn_r _ [11, 12, 13, 14, 15, 16, 17, 18, 6, 19, 20, 21, 22, 23, 24, 25, 26, 27, 28, 29, 30, 31, 32, 33, 34, 35, 36, 37, 38, 39, 40, 41, 42, 43, 44, 45, 46, 47, 48, 49, 50, 51, 52, 53, 54, 55, 56, 57, 58, 59, 60, 61, 62, 63, 64, 65, 66, 67, 68, 69, 70, 71, 72, 73, 74, 75, 76, 77, 78, 79] (by decide +kernel) (by decide +kernel)
set_option maxRecDepth 20000 in
theorem gX6_put_X6_add : GoodIn wsX6_put (wsV RX6 152 RX6 yX6_add wsX6_add) := goodIn_app (goodIn_of _ (by decide +kernel)) ggX6_put_X6_add
theorem dX6_put_0 : decode cX6_put 0 = .ok (.aload_n 0, 1) := by decide +kernel
theorem dX6_put_1 : decode cX6_put 1 = .ok (.iconst 0, 1) := by decide +kernel
theorem dX6_put_2 : decode cX6_put 2 = .ok (.putfield 67, 3) := by decide +kernel
theorem dX6_put_5 : decode cX6_put 5 = .ok (.aload_n 0, 1) := by decide +kernel
theorem dX6_put_6 : decode cX6_put 6 = .ok (.getfield 149, 3) := by decide +kernel
theorem dX6_put_9 : decode cX6_put 9 = .ok (.ifCond .eq 6, 3) := by decide +kernel
theorem dX6_put_12 : decode cX6_put 12 = .ok (.bipush (-3), 2) := by decide +kernel
theorem dX6_put_14 : decode cX6_put 14 = .ok (.ireturn, 1) := by decide +kernel
theorem dX6_put_15 : decode cX6_put 15 = .ok (.iload_n 1, 1) := by decide +kernel
theorem dX6_put_16 : decode cX6_put 16 = .ok (.iconst 0, 1) := by decide +kernel
theorem dX6_put_17 : decode cX6_put 17 = .ok (.sipush 999, 3) := by decide +kernel
theorem dX6_put_20 : decode cX6_put 20 = .ok (.invokestatic 78, 3) := by decide +kernel
theorem dX6_put_23 : decode cX6_put 23 = .ok (.ifCond .ne 6, 3) := by decide +kernel
theorem dX6_put_26 : decode cX6_put 26 = .ok (.bipush (-2), 2) := by decide +kernel
theorem dX6_put_28 : decode cX6_put 28 = .ok (.ireturn, 1) := by decide +kernel
theorem dX6_put_29 : decode cX6_put 29 = .ok (.aload_n 0, 1) := by decide +kernel
theorem dX6_put_30 : decode cX6_put 30 = .ok (.iconst 1, 1) := by decide +kernel
theorem dX6_put_31 : decode cX6_put 31 = .ok (.iload_n 1, 1) := by decide +kernel
theorem dX6_put_32 : decode cX6_put 32 = .ok (.aload_n 0, 1) := by decide +kernel
theorem dX6_put_33 : decode cX6_put 33 = .ok (.getfield 146, 3) := by decide +kernel
theorem dX6_put_36 : decode cX6_put 36 = .ok (.invokevirtual 152, 3) := by decide +kernel
theorem dX6_put_39 : decode cX6_put 39 = .ok (.istore_n 2, 1) := by decide +kernel
theorem dX6_put_40 : decode cX6_put 40 = .ok (.aload_n 0, 1) := by decide +kernel
theorem dX6_put_41 : decode cX6_put 41 = .ok (.iload_n 2, 1) := by decide +kernel
theorem dX6_put_42 : decode cX6_put 42 = .ok (.ifCond .le 7, 3) := by decide +kernel
theorem dX6_put_45 : decode cX6_put 45 = .ok (.iconst 0, 1) := by decide +kernel
theorem dX6_put_46 : decode cX6_put 46 = .ok (.goto 7, 3) := by decide +kernel
theorem dX6_put_49 : decode cX6_put 49 = .ok (.aload_n 0, 1) := by decide +kernel
theorem dX6_put_50 : decode cX6_put 50 = .ok (.getfield 146, 3) := by decide +kernel
theorem dX6_put_53 : decode cX6_put 53 = .ok (.putfield 146, 3) := by decide +kernel
theorem dX6_put_56 : decode cX6_put 56 = .ok (.iload_n 2, 1) := by decide +kernel
theorem dX6_put_57 : decode cX6_put 57 = .ok (.ireturn, 1) := by decide +kernel
set_option maxRecDepth 20000 in
theorem ggX6_drop_X6_has : GoodIn wsX6_drop wsX6_has := goodIn_r _ [8, 9, 10, 11, 12, 7, 13, 14, 15, 16, 17, 18, 19, 20, 21, 22, 23, 24, 25, 26, 27, 28, 29, 30, 31, 32, 33, 34, 35, 36, 37, 38, 39, 40, 41, 42, 43, 44, 45, 46, 47, 48, 49, 50, 51, 52, 53, 54, 55, 56, 90, 91, 92, 93, 94, 95, 96, 97, 98, 99, 100, 101, 102, 103, 104, 105, 106, 107, 108, 109, 110, 111, 112, 113, 114, 115, 116, 117, 118] (by decide +kernel) (by decide +kernel)
set_option maxRecDepth 20000 in
theorem gX6_drop_X6_has : GoodIn wsX6_drop (wsV RX6 156 RX6 yX6_has wsX6_has) := goodIn_app (goodIn_of _ (by decide +kernel)) ggX6_drop_X6_has
set_option maxRecDepth 20000 in
theorem ggX6_drop_X6_add : GoodIn wsX6_drop wsX6_add := goodIn_r _ [60, 61, 3, 62, 21, 63, 64, 65, 7, 66, 67, 23, 68, 69, 70, 71, 22, 72, 73, 74, 75, 28, 76, 77, 78, 79, 80, 81, 52, 53, 54, 55, 56, 82, 83, 84, 85, 86, 87, 88, 89, 90, 91, 92, 93, 94, 95, 96, 97, 98, 99, 100, 101, 102, 103, 104, 105, 106, 107, 108, 109, 110, 111, 112, 113, 114, 115, 116, 117, 118] (by decide +kernel) (by decide +kernel)
set_option maxRecDepth 20000 in
theorem gX6_drop_X6_add : GoodIn wsX6_drop (wsV RX6 152 RX6 yX6_add wsX6_add) := goodIn_app (goodIn_of _ (by decide +kernel)) ggX6_drop_X6_add
theorem dX6_drop_0 : decode cX6_drop 0 = .ok (.aload_n 0, 1) := by decide +kernel
theorem dX6_drop_1 : decode cX6_drop 1 = .ok (.iconst 0, 1) := by decide +kernel
theorem dX6_drop_2 : decode cX6_drop 2 = .ok (.putfield 67, 3) := by decide +kernel
theorem dX6_drop_5 : decode cX6_drop 5 = .ok (.aload_n 0, 1) := by decide +kernel
theorem dX6_drop_6 : decode cX6_drop 6 = .ok (.getfield 149, 3) := by decide +kernel
theorem dX6_drop_9 : decode cX6_drop 9 = .ok (.ifCond .eq 6, 3) := by decide +kernel
theorem dX6_drop_12 : decode cX6_drop 12 = .ok (.bipush (-3), 2) := by decide +kernel
theorem dX6_drop_14 : decode cX6_drop 14 = .ok (.ireturn, 1) := by decide +kernel
theorem dX6_drop_15 : decode cX6_drop 15 = .ok (.aload_n 0, 1) := by decide +kernel
theorem dX6_drop_16 : decode cX6_drop 16 = .ok (.iload_n 1, 1) := by decide +kernel
theorem dX6_drop_17 : decode cX6_drop 17 = .ok (.ldc 111, 2) := by decide +kernel
theorem dX6_drop_19 : decode cX6_drop 19 = .ok (.invokevirtual 156, 3) := by decide +kernel
theorem dX6_drop_22 : decode cX6_drop 22 = .ok (.ifCond .ge 7, 3) := by decide +kernel
theorem dX6_drop_25 : decode cX6_drop 25 = .ok (.iconst (-1), 1) := by decide +kernel
theorem dX6_drop_26 : decode cX6_drop 26 = .ok (.goto 10, 3) := by decide +kernel
theorem dX6_drop_29 : decode cX6_drop 29 = .ok (.aload_n 0, 1) := by decide +kernel
theorem dX6_drop_30 : decode cX6_drop 30 = .ok (.iconst 2, 1) := by decide +kernel
theorem dX6_drop_31 : decode cX6_drop 31 = .ok (.iload_n 1, 1) := by decide +kernel
theorem dX6_drop_32 : decode cX6_drop 32 = .ok (.iconst 0, 1) := by decide +kernel
theorem dX6_drop_33 : decode cX6_drop 33 = .ok (.invokevirtual 152, 3) := by decide +kernel
theorem dX6_drop_36 : decode cX6_drop 36 = .ok (.ireturn, 1) := by decide +kernel
set_option maxRecDepth 20000 in
theorem ggX6_momentOf_X6_in : GoodIn wsX6_momentOf wsX6_in := goodIn_r _ [8] (by decide +kernel) (by decide +kernel)
set_option maxRecDepth 20000 in
theorem gX6_momentOf_X6_in : GoodIn wsX6_momentOf (va_wsS RX6 78 yX6_in wsX6_in) := goodIn_app (goodIn_of _ (by decide +kernel)) ggX6_momentOf_X6_in
theorem dX6_momentOf_0 : decode cX6_momentOf 0 = .ok (.aload_n 0, 1) := by decide +kernel
theorem dX6_momentOf_1 : decode cX6_momentOf 1 = .ok (.getfield 149, 3) := by decide +kernel
theorem dX6_momentOf_4 : decode cX6_momentOf 4 = .ok (.ifCond .eq 7, 3) := by decide +kernel
theorem dX6_momentOf_7 : decode cX6_momentOf 7 = .ok (.iconst (-1), 1) := by decide +kernel
theorem dX6_momentOf_8 : decode cX6_momentOf 8 = .ok (.goto 41, 3) := by decide +kernel
theorem dX6_momentOf_11 : decode cX6_momentOf 11 = .ok (.iload_n 1, 1) := by decide +kernel
theorem dX6_momentOf_12 : decode cX6_momentOf 12 = .ok (.iconst (-1), 1) := by decide +kernel
theorem dX6_momentOf_13 : decode cX6_momentOf 13 = .ok (.if_icmp .ne 8, 3) := by decide +kernel
theorem dX6_momentOf_16 : decode cX6_momentOf 16 = .ok (.ldc 111, 2) := by decide +kernel
theorem dX6_momentOf_18 : decode cX6_momentOf 18 = .ok (.goto 31, 3) := by decide +kernel
theorem dX6_momentOf_21 : decode cX6_momentOf 21 = .ok (.iload_n 1, 1) := by decide +kernel
theorem dX6_momentOf_22 : decode cX6_momentOf 22 = .ok (.iconst 0, 1) := by decide +kernel
theorem dX6_momentOf_23 : decode cX6_momentOf 23 = .ok (.iconst 3, 1) := by decide +kernel
theorem dX6_momentOf_24 : decode cX6_momentOf 24 = .ok (.invokestatic 78, 3) := by decide +kernel
theorem dX6_momentOf_27 : decode cX6_momentOf 27 = .ok (.ifCond .eq 21, 3) := by decide +kernel
theorem dX6_momentOf_30 : decode cX6_momentOf 30 = .ok (.aload_n 0, 1) := by decide +kernel
theorem dX6_momentOf_31 : decode cX6_momentOf 31 = .ok (.getfield 26, 3) := by decide +kernel
theorem dX6_momentOf_34 : decode cX6_momentOf 34 = .ok (.iload_n 1, 1) := by decide +kernel
theorem dX6_momentOf_35 : decode cX6_momentOf 35 = .ok (.baload, 1) := by decide +kernel
theorem dX6_momentOf_36 : decode cX6_momentOf 36 = .ok (.ifCond .eq 12, 3) := by decide +kernel
theorem dX6_momentOf_39 : decode cX6_momentOf 39 = .ok (.aload_n 0, 1) := by decide +kernel
theorem dX6_momentOf_40 : decode cX6_momentOf 40 = .ok (.getfield 30, 3) := by decide +kernel
theorem dX6_momentOf_43 : decode cX6_momentOf 43 = .ok (.iload_n 1, 1) := by decide +kernel
theorem dX6_momentOf_44 : decode cX6_momentOf 44 = .ok (.iaload, 1) := by decide +kernel
theorem dX6_momentOf_45 : decode cX6_momentOf 45 = .ok (.goto 4, 3) := by decide +kernel
theorem dX6_momentOf_48 : decode cX6_momentOf 48 = .ok (.iconst (-1), 1) := by decide +kernel
theorem dX6_momentOf_49 : decode cX6_momentOf 49 = .ok (.ireturn, 1) := by decide +kernel
set_option maxRecDepth 20000 in
theorem ggX6_rowFor_X6_momentOf : GoodIn wsX6_rowFor wsX6_momentOf := goodIn_r _ [5, 6, 7, 8, 9, 10, 11, 4, 12, 62, 63, 64, 65, 66, 67, 68, 69, 70, 71, 72, 73, 74, 75, 76, 77, 78, 79, 80, 81, 82, 83, 84, 85, 86, 87, 88, 89, 90] (by decide +kernel) (by decide +kernel)
set_option maxRecDepth 20000 in
theorem gX6_rowFor_X6_momentOf : GoodIn wsX6_rowFor (wsV RX6 159 RX6 yX6_momentOf wsX6_momentOf) := goodIn_app (goodIn_of _ (by decide +kernel)) ggX6_rowFor_X6_momentOf
set_option maxRecDepth 20000 in
theorem ggX6_rowFor_X6_has : GoodIn wsX6_rowFor wsX6_has := goodIn_r _ [16, 17, 18, 19, 20, 4, 21, 22, 23, 24, 25, 26, 27, 28, 29, 30, 31, 32, 33, 34, 35, 36, 37, 38, 39, 40, 41, 42, 43, 44, 10, 11, 12, 45, 46, 47, 48, 49, 50, 51, 52, 53, 54, 55, 56, 57, 58, 59, 60, 61, 62, 63, 64, 65, 66, 67, 68, 69, 70, 71, 72, 73, 74, 75, 76, 77, 78, 79, 80, 81, 82, 83, 84, 85, 86, 87, 88, 89, 90] (by decide +kernel) (by decide +kernel)
set_option maxRecDepth 20000 in
theorem gX6_rowFor_X6_has : GoodIn wsX6_rowFor (wsV RX6 156 RX6 yX6_has wsX6_has) := goodIn_app (goodIn_of _ (by decide +kernel)) ggX6_rowFor_X6_has
theorem dX6_rowFor_0 : decode cX6_rowFor 0 = .ok (.aload_n 0, 1) := by decide +kernel
theorem dX6_rowFor_1 : decode cX6_rowFor 1 = .ok (.iload_n 1, 1) := by decide +kernel
theorem dX6_rowFor_2 : decode cX6_rowFor 2 = .ok (.invokevirtual 159, 3) := by decide +kernel
theorem dX6_rowFor_5 : decode cX6_rowFor 5 = .ok (.istore_n 3, 1) := by decide +kernel
theorem dX6_rowFor_6 : decode cX6_rowFor 6 = .ok (.iload_n 3, 1) := by decide +kernel
theorem dX6_rowFor_7 : decode cX6_rowFor 7 = .ok (.ifCond .ge 7, 3) := by decide +kernel
theorem dX6_rowFor_10 : decode cX6_rowFor 10 = .ok (.iconst (-1), 1) := by decide +kernel
theorem dX6_rowFor_11 : decode cX6_rowFor 11 = .ok (.goto 9, 3) := by decide +kernel
theorem dX6_rowFor_14 : decode cX6_rowFor 14 = .ok (.aload_n 0, 1) := by decide +kernel
theorem dX6_rowFor_15 : decode cX6_rowFor 15 = .ok (.iload_n 2, 1) := by decide +kernel
theorem dX6_rowFor_16 : decode cX6_rowFor 16 = .ok (.iload_n 3, 1) := by decide +kernel
theorem dX6_rowFor_17 : decode cX6_rowFor 17 = .ok (.invokevirtual 156, 3) := by decide +kernel
theorem dX6_rowFor_20 : decode cX6_rowFor 20 = .ok (.ireturn, 1) := by decide +kernel
set_option maxRecDepth 20000 in
theorem ggX6_length_X6_rowFor : GoodIn wsX6_length wsX6_rowFor := goodIn_r _ [8, 9, 10, 11, 7, 12, 13, 14, 15, 16, 17, 18, 19, 20, 21, 22, 23, 24, 25, 26, 27, 28, 29, 30, 31, 32, 33, 34, 35, 36, 37, 38, 39, 40, 41, 42, 2, 3, 43, 44, 45, 46, 47, 48, 49, 50, 51, 52, 53, 54, 55, 56, 57, 58, 59, 60, 61, 62, 63, 64, 65, 66, 67, 68, 69, 70, 71, 72, 73, 74, 75, 76, 77, 78, 79, 80, 81, 82, 83, 84, 85, 86, 87, 88, 89, 90, 91, 92, 93, 94, 95] (by decide +kernel) (by decide +kernel)
set_option maxRecDepth 20000 in
theorem gX6_length_X6_rowFor : GoodIn wsX6_length (wsV RX6 163 RX6 yX6_rowFor wsX6_rowFor) := goodIn_app (goodIn_of _ (by decide +kernel)) ggX6_length_X6_rowFor
theorem dX6_length_0 : decode cX6_length 0 = .ok (.aload_n 0, 1) := by decide +kernel
theorem dX6_length_1 : decode cX6_length 1 = .ok (.iconst 0, 1) := by decide +kernel
theorem dX6_length_2 : decode cX6_length 2 = .ok (.putfield 67, 3) := by decide +kernel
theorem dX6_length_5 : decode cX6_length 5 = .ok (.aload_n 0, 1) := by decide +kernel
theorem dX6_length_6 : decode cX6_length 6 = .ok (.iload_n 1, 1) := by decide +kernel
theorem dX6_length_7 : decode cX6_length 7 = .ok (.iload_n 2, 1) := by decide +kernel
theorem dX6_length_8 : decode cX6_length 8 = .ok (.invokevirtual 163, 3) := by decide +kernel
theorem dX6_length_11 : decode cX6_length 11 = .ok (.istore_n 3, 1) := by decide +kernel
theorem dX6_length_12 : decode cX6_length 12 = .ok (.iload_n 3, 1) := by decide +kernel
theorem dX6_length_13 : decode cX6_length 13 = .ok (.ifCond .ge 7, 3) := by decide +kernel
theorem dX6_length_16 : decode cX6_length 16 = .ok (.iconst (-1), 1) := by decide +kernel
theorem dX6_length_17 : decode cX6_length 17 = .ok (.goto 17, 3) := by decide +kernel
theorem dX6_length_20 : decode cX6_length 20 = .ok (.aload_n 0, 1) := by decide +kernel
theorem dX6_length_21 : decode cX6_length 21 = .ok (.getfield 7, 3) := by decide +kernel
theorem dX6_length_24 : decode cX6_length 24 = .ok (.aload_n 0, 1) := by decide +kernel
theorem dX6_length_25 : decode cX6_length 25 = .ok (.getfield 36, 3) := by decide +kernel
theorem dX6_length_28 : decode cX6_length 28 = .ok (.iload_n 3, 1) := by decide +kernel
theorem dX6_length_29 : decode cX6_length 29 = .ok (.iaload, 1) := by decide +kernel
theorem dX6_length_30 : decode cX6_length 30 = .ok (.bipush 7, 2) := by decide +kernel
theorem dX6_length_32 : decode cX6_length 32 = .ok (.iadd, 1) := by decide +kernel
theorem dX6_length_33 : decode cX6_length 33 = .ok (.iaload, 1) := by decide +kernel
theorem dX6_length_34 : decode cX6_length 34 = .ok (.ireturn, 1) := by decide +kernel
set_option maxRecDepth 20000 in
theorem ggX6_find_X6_rowFor : GoodIn wsX6_find wsX6_rowFor := goodIn_r _ [8, 9, 10, 11, 7, 12, 13, 14, 15, 16, 17, 18, 19, 20, 21, 22, 23, 24, 25, 26, 27, 28, 29, 30, 31, 32, 33, 34, 35, 36, 37, 38, 39, 40, 41, 42, 2, 3, 43, 44, 45, 46, 47, 48, 49, 50, 51, 52, 53, 54, 55, 56, 57, 58, 59, 60, 61, 62, 63, 64, 65, 66, 67, 68, 69, 70, 71, 72, 73, 74, 75, 76, 77, 78, 79, 80, 81, 82, 83, 84, 85, 86, 87, 88, 89, 90, 91, 92, 93, 94, 95] (by decide +kernel) (by decide +kernel)
set_option maxRecDepth 20000 in
theorem gX6_find_X6_rowFor : GoodIn wsX6_find (wsV RX6 163 RX6 yX6_rowFor wsX6_rowFor) := goodIn_app (goodIn_of _ (by decide +kernel)) ggX6_find_X6_rowFor
theorem dX6_find_0 : decode cX6_find 0 = .ok (.aload_n 0, 1) := by decide +kernel
theorem dX6_find_1 : decode cX6_find 1 = .ok (.iconst 0, 1) := by decide +kernel
theorem dX6_find_2 : decode cX6_find 2 = .ok (.putfield 67, 3) := by decide +kernel
theorem dX6_find_5 : decode cX6_find 5 = .ok (.aload_n 0, 1) := by decide +kernel
theorem dX6_find_6 : decode cX6_find 6 = .ok (.iload_n 1, 1) := by decide +kernel
theorem dX6_find_7 : decode cX6_find 7 = .ok (.iload_n 2, 1) := by decide +kernel
theorem dX6_find_8 : decode cX6_find 8 = .ok (.invokevirtual 163, 3) := by decide +kernel
theorem dX6_find_11 : decode cX6_find 11 = .ok (.istore 4, 2) := by decide +kernel
theorem dX6_find_13 : decode cX6_find 13 = .ok (.iload 4, 2) := by decide +kernel
theorem dX6_find_15 : decode cX6_find 15 = .ok (.ifCond .lt 26, 3) := by decide +kernel
theorem dX6_find_18 : decode cX6_find 18 = .ok (.iload_n 3, 1) := by decide +kernel
theorem dX6_find_19 : decode cX6_find 19 = .ok (.ifCond .lt 22, 3) := by decide +kernel
theorem dX6_find_22 : decode cX6_find 22 = .ok (.iload_n 3, 1) := by decide +kernel
theorem dX6_find_23 : decode cX6_find 23 = .ok (.aload_n 0, 1) := by decide +kernel
theorem dX6_find_24 : decode cX6_find 24 = .ok (.getfield 7, 3) := by decide +kernel
theorem dX6_find_27 : decode cX6_find 27 = .ok (.aload_n 0, 1) := by decide +kernel
theorem dX6_find_28 : decode cX6_find 28 = .ok (.getfield 36, 3) := by decide +kernel
theorem dX6_find_31 : decode cX6_find 31 = .ok (.iload 4, 2) := by decide +kernel
theorem dX6_find_33 : decode cX6_find 33 = .ok (.iaload, 1) := by decide +kernel
theorem dX6_find_34 : decode cX6_find 34 = .ok (.bipush 7, 2) := by decide +kernel
theorem dX6_find_36 : decode cX6_find 36 = .ok (.iadd, 1) := by decide +kernel
theorem dX6_find_37 : decode cX6_find 37 = .ok (.iaload, 1) := by decide +kernel
theorem dX6_find_38 : decode cX6_find 38 = .ok (.if_icmp .lt 7, 3) := by decide +kernel
theorem dX6_find_41 : decode cX6_find 41 = .ok (.iconst (-1), 1) := by decide +kernel
theorem dX6_find_42 : decode cX6_find 42 = .ok (.goto 20, 3) := by decide +kernel
theorem dX6_find_45 : decode cX6_find 45 = .ok (.aload_n 0, 1) := by decide +kernel
theorem dX6_find_46 : decode cX6_find 46 = .ok (.getfield 7, 3) := by decide +kernel
theorem dX6_find_49 : decode cX6_find 49 = .ok (.aload_n 0, 1) := by decide +kernel
theorem dX6_find_50 : decode cX6_find 50 = .ok (.getfield 36, 3) := by decide +kernel
theorem dX6_find_53 : decode cX6_find 53 = .ok (.iload 4, 2) := by decide +kernel
theorem dX6_find_55 : decode cX6_find 55 = .ok (.iaload, 1) := by decide +kernel
theorem dX6_find_56 : decode cX6_find 56 = .ok (.bipush 8, 2) := by decide +kernel
theorem dX6_find_58 : decode cX6_find 58 = .ok (.iadd, 1) := by decide +kernel
theorem dX6_find_59 : decode cX6_find 59 = .ok (.iload_n 3, 1) := by decide +kernel
theorem dX6_find_60 : decode cX6_find 60 = .ok (.iadd, 1) := by decide +kernel
theorem dX6_find_61 : decode cX6_find 61 = .ok (.iaload, 1) := by decide +kernel
theorem dX6_find_62 : decode cX6_find 62 = .ok (.ireturn, 1) := by decide +kernel
theorem dX6_snapshot_0 : decode cX6_snapshot 0 = .ok (.aload_n 0, 1) := by decide +kernel
theorem dX6_snapshot_1 : decode cX6_snapshot 1 = .ok (.iconst 0, 1) := by decide +kernel
theorem dX6_snapshot_2 : decode cX6_snapshot 2 = .ok (.putfield 67, 3) := by decide +kernel
theorem dX6_snapshot_5 : decode cX6_snapshot 5 = .ok (.aload_n 0, 1) := by decide +kernel
theorem dX6_snapshot_6 : decode cX6_snapshot 6 = .ok (.getfield 149, 3) := by decide +kernel
theorem dX6_snapshot_9 : decode cX6_snapshot 9 = .ok (.ifCond .eq 6, 3) := by decide +kernel
theorem dX6_snapshot_12 : decode cX6_snapshot 12 = .ok (.bipush (-3), 2) := by decide +kernel
theorem dX6_snapshot_14 : decode cX6_snapshot 14 = .ok (.ireturn, 1) := by decide +kernel
theorem dX6_snapshot_15 : decode cX6_snapshot 15 = .ok (.iconst 0, 1) := by decide +kernel
theorem dX6_snapshot_16 : decode cX6_snapshot 16 = .ok (.istore_n 1, 1) := by decide +kernel
theorem dX6_snapshot_17 : decode cX6_snapshot 17 = .ok (.iload_n 1, 1) := by decide +kernel
theorem dX6_snapshot_18 : decode cX6_snapshot 18 = .ok (.iconst 4, 1) := by decide +kernel
theorem dX6_snapshot_19 : decode cX6_snapshot 19 = .ok (.if_icmp .ge 37, 3) := by decide +kernel
theorem dX6_snapshot_22 : decode cX6_snapshot 22 = .ok (.aload_n 0, 1) := by decide +kernel
theorem dX6_snapshot_23 : decode cX6_snapshot 23 = .ok (.getfield 26, 3) := by decide +kernel
theorem dX6_snapshot_26 : decode cX6_snapshot 26 = .ok (.iload_n 1, 1) := by decide +kernel
theorem dX6_snapshot_27 : decode cX6_snapshot 27 = .ok (.baload, 1) := by decide +kernel
theorem dX6_snapshot_28 : decode cX6_snapshot 28 = .ok (.ifCond .ne 22, 3) := by decide +kernel
theorem dX6_snapshot_31 : decode cX6_snapshot 31 = .ok (.aload_n 0, 1) := by decide +kernel
theorem dX6_snapshot_32 : decode cX6_snapshot 32 = .ok (.getfield 26, 3) := by decide +kernel
theorem dX6_snapshot_35 : decode cX6_snapshot 35 = .ok (.iload_n 1, 1) := by decide +kernel
theorem dX6_snapshot_36 : decode cX6_snapshot 36 = .ok (.iconst 1, 1) := by decide +kernel
theorem dX6_snapshot_37 : decode cX6_snapshot 37 = .ok (.bastore, 1) := by decide +kernel
theorem dX6_snapshot_38 : decode cX6_snapshot 38 = .ok (.aload_n 0, 1) := by decide +kernel
theorem dX6_snapshot_39 : decode cX6_snapshot 39 = .ok (.getfield 30, 3) := by decide +kernel
theorem dX6_snapshot_42 : decode cX6_snapshot 42 = .ok (.iload_n 1, 1) := by decide +kernel
theorem dX6_snapshot_43 : decode cX6_snapshot 43 = .ok (.aload_n 0, 1) := by decide +kernel
theorem dX6_snapshot_44 : decode cX6_snapshot 44 = .ok (.getfield 132, 3) := by decide +kernel
theorem dX6_snapshot_47 : decode cX6_snapshot 47 = .ok (.iastore, 1) := by decide +kernel
theorem dX6_snapshot_48 : decode cX6_snapshot 48 = .ok (.iload_n 1, 1) := by decide +kernel
theorem dX6_snapshot_49 : decode cX6_snapshot 49 = .ok (.ireturn, 1) := by decide +kernel
theorem dX6_snapshot_50 : decode cX6_snapshot 50 = .ok (.iinc 1 1, 3) := by decide +kernel
theorem dX6_snapshot_53 : decode cX6_snapshot 53 = .ok (.goto (-36), 3) := by decide +kernel
theorem dX6_snapshot_56 : decode cX6_snapshot 56 = .ok (.bipush (-4), 2) := by decide +kernel
theorem dX6_snapshot_58 : decode cX6_snapshot 58 = .ok (.ireturn, 1) := by decide +kernel
set_option maxRecDepth 20000 in
theorem ggX6_release_X6_in : GoodIn wsX6_release wsX6_in := goodIn_r _ [7] (by decide +kernel) (by decide +kernel)
set_option maxRecDepth 20000 in
theorem gX6_release_X6_in : GoodIn wsX6_release (va_wsS RX6 78 yX6_in wsX6_in) := goodIn_app (goodIn_of _ (by decide +kernel)) ggX6_release_X6_in
theorem dX6_release_0 : decode cX6_release 0 = .ok (.aload_n 0, 1) := by decide +kernel
theorem dX6_release_1 : decode cX6_release 1 = .ok (.iconst 0, 1) := by decide +kernel
theorem dX6_release_2 : decode cX6_release 2 = .ok (.putfield 67, 3) := by decide +kernel
theorem dX6_release_5 : decode cX6_release 5 = .ok (.aload_n 0, 1) := by decide +kernel
theorem dX6_release_6 : decode cX6_release 6 = .ok (.getfield 149, 3) := by decide +kernel
theorem dX6_release_9 : decode cX6_release 9 = .ok (.ifCond .eq 6, 3) := by decide +kernel
theorem dX6_release_12 : decode cX6_release 12 = .ok (.bipush (-3), 2) := by decide +kernel
theorem dX6_release_14 : decode cX6_release 14 = .ok (.ireturn, 1) := by decide +kernel
theorem dX6_release_15 : decode cX6_release 15 = .ok (.iload_n 1, 1) := by decide +kernel
theorem dX6_release_16 : decode cX6_release 16 = .ok (.iconst 0, 1) := by decide +kernel
theorem dX6_release_17 : decode cX6_release 17 = .ok (.iconst 3, 1) := by decide +kernel
theorem dX6_release_18 : decode cX6_release 18 = .ok (.invokestatic 78, 3) := by decide +kernel
theorem dX6_release_21 : decode cX6_release 21 = .ok (.ifCond .eq 12, 3) := by decide +kernel
theorem dX6_release_24 : decode cX6_release 24 = .ok (.aload_n 0, 1) := by decide +kernel
theorem dX6_release_25 : decode cX6_release 25 = .ok (.getfield 26, 3) := by decide +kernel
theorem dX6_release_28 : decode cX6_release 28 = .ok (.iload_n 1, 1) := by decide +kernel
theorem dX6_release_29 : decode cX6_release 29 = .ok (.baload, 1) := by decide +kernel
theorem dX6_release_30 : decode cX6_release 30 = .ok (.ifCond .ne 5, 3) := by decide +kernel
theorem dX6_release_33 : decode cX6_release 33 = .ok (.iconst (-1), 1) := by decide +kernel
theorem dX6_release_34 : decode cX6_release 34 = .ok (.ireturn, 1) := by decide +kernel
theorem dX6_release_35 : decode cX6_release 35 = .ok (.aload_n 0, 1) := by decide +kernel
theorem dX6_release_36 : decode cX6_release 36 = .ok (.getfield 26, 3) := by decide +kernel
theorem dX6_release_39 : decode cX6_release 39 = .ok (.iload_n 1, 1) := by decide +kernel
theorem dX6_release_40 : decode cX6_release 40 = .ok (.iconst 0, 1) := by decide +kernel
theorem dX6_release_41 : decode cX6_release 41 = .ok (.bastore, 1) := by decide +kernel
theorem dX6_release_42 : decode cX6_release 42 = .ok (.iconst 1, 1) := by decide +kernel
theorem dX6_release_43 : decode cX6_release 43 = .ok (.ireturn, 1) := by decide +kernel
theorem dX6_sync_0 : decode cX6_sync 0 = .ok (.aload_n 0, 1) := by decide +kernel
theorem dX6_sync_1 : decode cX6_sync 1 = .ok (.iconst 0, 1) := by decide +kernel
theorem dX6_sync_2 : decode cX6_sync 2 = .ok (.putfield 67, 3) := by decide +kernel
theorem dX6_sync_5 : decode cX6_sync 5 = .ok (.aload_n 0, 1) := by decide +kernel
theorem dX6_sync_6 : decode cX6_sync 6 = .ok (.getfield 149, 3) := by decide +kernel
theorem dX6_sync_9 : decode cX6_sync 9 = .ok (.ifCond .eq 6, 3) := by decide +kernel
theorem dX6_sync_12 : decode cX6_sync 12 = .ok (.bipush (-3), 2) := by decide +kernel
theorem dX6_sync_14 : decode cX6_sync 14 = .ok (.ireturn, 1) := by decide +kernel
theorem dX6_sync_15 : decode cX6_sync 15 = .ok (.aload_n 0, 1) := by decide +kernel
theorem dX6_sync_16 : decode cX6_sync 16 = .ok (.getfield 129, 3) := by decide +kernel
theorem dX6_sync_19 : decode cX6_sync 19 = .ok (.istore_n 1, 1) := by decide +kernel
theorem dX6_sync_20 : decode cX6_sync 20 = .ok (.aload_n 0, 1) := by decide +kernel
theorem dX6_sync_21 : decode cX6_sync 21 = .ok (.iconst 0, 1) := by decide +kernel
theorem dX6_sync_22 : decode cX6_sync 22 = .ok (.putfield 129, 3) := by decide +kernel
theorem dX6_sync_25 : decode cX6_sync 25 = .ok (.iload_n 1, 1) := by decide +kernel
theorem dX6_sync_26 : decode cX6_sync 26 = .ok (.ireturn, 1) := by decide +kernel
theorem dX6_close_0 : decode cX6_close 0 = .ok (.aload_n 0, 1) := by decide +kernel
theorem dX6_close_1 : decode cX6_close 1 = .ok (.iconst 1, 1) := by decide +kernel
theorem dX6_close_2 : decode cX6_close 2 = .ok (.putfield 149, 3) := by decide +kernel
theorem dX6_close_5 : decode cX6_close 5 = .ok (.aload_n 0, 1) := by decide +kernel
theorem dX6_close_6 : decode cX6_close 6 = .ok (.iconst 0, 1) := by decide +kernel
theorem dX6_close_7 : decode cX6_close 7 = .ok (.putfield 129, 3) := by decide +kernel
theorem dX6_close_10 : decode cX6_close 10 = .ok (.aload_n 0, 1) := by decide +kernel
theorem dX6_close_11 : decode cX6_close 11 = .ok (.iconst (-1), 1) := by decide +kernel
theorem dX6_close_12 : decode cX6_close 12 = .ok (.putfield 16, 3) := by decide +kernel
theorem dX6_close_15 : decode cX6_close 15 = .ok (.aload_n 0, 1) := by decide +kernel
theorem dX6_close_16 : decode cX6_close 16 = .ok (.iconst 0, 1) := by decide +kernel
theorem dX6_close_17 : decode cX6_close 17 = .ok (.putfield 99, 3) := by decide +kernel
theorem dX6_close_20 : decode cX6_close 20 = .ok (.iconst 0, 1) := by decide +kernel
theorem dX6_close_21 : decode cX6_close 21 = .ok (.istore_n 1, 1) := by decide +kernel
theorem dX6_close_22 : decode cX6_close 22 = .ok (.iload_n 1, 1) := by decide +kernel
theorem dX6_close_23 : decode cX6_close 23 = .ok (.iconst 4, 1) := by decide +kernel
theorem dX6_close_24 : decode cX6_close 24 = .ok (.if_icmp .ge 16, 3) := by decide +kernel
theorem dX6_close_27 : decode cX6_close 27 = .ok (.aload_n 0, 1) := by decide +kernel
theorem dX6_close_28 : decode cX6_close 28 = .ok (.getfield 26, 3) := by decide +kernel
theorem dX6_close_31 : decode cX6_close 31 = .ok (.iload_n 1, 1) := by decide +kernel
theorem dX6_close_32 : decode cX6_close 32 = .ok (.iconst 0, 1) := by decide +kernel
theorem dX6_close_33 : decode cX6_close 33 = .ok (.bastore, 1) := by decide +kernel
theorem dX6_close_34 : decode cX6_close 34 = .ok (.iinc 1 1, 3) := by decide +kernel
theorem dX6_close_37 : decode cX6_close 37 = .ok (.goto (-15), 3) := by decide +kernel
theorem dX6_close_40 : decode cX6_close 40 = .ok (.return_, 1) := by decide +kernel
set_option maxRecDepth 20000 in
theorem ggX6_crash_X6_close : GoodIn wsX6_crash wsX6_close := goodIn_r _ [10, 2, 3, 11, 12, 13, 14, 15, 16, 17, 18, 19, 20, 21, 22, 23, 24, 25, 26, 27, 28, 29, 30, 31, 32, 33, 34, 35, 36, 37, 38, 39, 40, 41, 42] (by decide +kernel) (by decide +kernel)
set_option maxRecDepth 20000 in
theorem gX6_crash_X6_close : GoodIn wsX6_crash (wsV RX6 166 RX6 yX6_close wsX6_close) := goodIn_app (goodIn_of _ (by decide +kernel)) ggX6_crash_X6_close
theorem dX6_crash_0 : decode cX6_crash 0 = .ok (.aload_n 0, 1) := by decide +kernel
theorem dX6_crash_1 : decode cX6_crash 1 = .ok (.iconst 0, 1) := by decide +kernel
theorem dX6_crash_2 : decode cX6_crash 2 = .ok (.putfield 67, 3) := by decide +kernel
theorem dX6_crash_5 : decode cX6_crash 5 = .ok (.aload_n 0, 1) := by decide +kernel
theorem dX6_crash_6 : decode cX6_crash 6 = .ok (.getfield 149, 3) := by decide +kernel
theorem dX6_crash_9 : decode cX6_crash 9 = .ok (.ifCond .eq 6, 3) := by decide +kernel
theorem dX6_crash_12 : decode cX6_crash 12 = .ok (.bipush (-3), 2) := by decide +kernel
theorem dX6_crash_14 : decode cX6_crash 14 = .ok (.ireturn, 1) := by decide +kernel
theorem dX6_crash_15 : decode cX6_crash 15 = .ok (.iload_n 1, 1) := by decide +kernel
theorem dX6_crash_16 : decode cX6_crash 16 = .ok (.ifCond .ge 6, 3) := by decide +kernel
theorem dX6_crash_19 : decode cX6_crash 19 = .ok (.bipush (-2), 2) := by decide +kernel
theorem dX6_crash_21 : decode cX6_crash 21 = .ok (.ireturn, 1) := by decide +kernel
theorem dX6_crash_22 : decode cX6_crash 22 = .ok (.iconst 0, 1) := by decide +kernel
theorem dX6_crash_23 : decode cX6_crash 23 = .ok (.istore_n 2, 1) := by decide +kernel
theorem dX6_crash_24 : decode cX6_crash 24 = .ok (.iload_n 1, 1) := by decide +kernel
theorem dX6_crash_25 : decode cX6_crash 25 = .ok (.istore_n 3, 1) := by decide +kernel
theorem dX6_crash_26 : decode cX6_crash 26 = .ok (.iload_n 3, 1) := by decide +kernel
theorem dX6_crash_27 : decode cX6_crash 27 = .ok (.aload_n 0, 1) := by decide +kernel
theorem dX6_crash_28 : decode cX6_crash 28 = .ok (.getfield 129, 3) := by decide +kernel
theorem dX6_crash_31 : decode cX6_crash 31 = .ok (.if_icmp .ge 24, 3) := by decide +kernel
theorem dX6_crash_34 : decode cX6_crash 34 = .ok (.aload_n 0, 1) := by decide +kernel
theorem dX6_crash_35 : decode cX6_crash 35 = .ok (.getfield 7, 3) := by decide +kernel
theorem dX6_crash_38 : decode cX6_crash 38 = .ok (.aload_n 0, 1) := by decide +kernel
theorem dX6_crash_39 : decode cX6_crash 39 = .ok (.getfield 23, 3) := by decide +kernel
theorem dX6_crash_42 : decode cX6_crash 42 = .ok (.iload_n 3, 1) := by decide +kernel
theorem dX6_crash_43 : decode cX6_crash 43 = .ok (.iaload, 1) := by decide +kernel
theorem dX6_crash_44 : decode cX6_crash 44 = .ok (.iconst 0, 1) := by decide +kernel
theorem dX6_crash_45 : decode cX6_crash 45 = .ok (.iastore, 1) := by decide +kernel
theorem dX6_crash_46 : decode cX6_crash 46 = .ok (.iinc 2 1, 3) := by decide +kernel
theorem dX6_crash_49 : decode cX6_crash 49 = .ok (.iinc 3 1, 3) := by decide +kernel
theorem dX6_crash_52 : decode cX6_crash 52 = .ok (.goto (-26), 3) := by decide +kernel
theorem dX6_crash_55 : decode cX6_crash 55 = .ok (.aload_n 0, 1) := by decide +kernel
theorem dX6_crash_56 : decode cX6_crash 56 = .ok (.invokevirtual 166, 3) := by decide +kernel
theorem dX6_crash_59 : decode cX6_crash 59 = .ok (.iload_n 2, 1) := by decide +kernel
theorem dX6_crash_60 : decode cX6_crash 60 = .ok (.ireturn, 1) := by decide +kernel
set_option maxRecDepth 20000 in
theorem ggX6_livingIn_X6_know : GoodIn wsX6_livingIn wsX6_know := goodIn_r _ [8, 9, 1, 10, 11, 12, 13, 14, 7, 15, 16, 2, 17, 18, 19, 3, 20, 21, 22, 23, 24, 25, 26, 27, 28, 29, 30, 31, 32, 33, 34, 35, 36, 37, 38, 39, 40, 41, 42, 43, 44, 45, 57, 58, 59, 60, 61, 62, 63, 64, 65, 66, 67, 68, 69, 70, 71, 72, 73, 74, 75, 76, 77, 78, 79, 80, 81, 82, 83, 84, 85] (by decide +kernel) (by decide +kernel)
set_option maxRecDepth 20000 in
theorem gX6_livingIn_X6_know : GoodIn wsX6_livingIn (wsV RX6 105 RX6 yX6_know wsX6_know) := goodIn_app (goodIn_of _ (by decide +kernel)) ggX6_livingIn_X6_know
set_option maxRecDepth 20000 in
theorem ggX6_livingIn_X6_lives : GoodIn wsX6_livingIn wsX6_lives := goodIn_r _ [49, 17, 50, 51, 52, 19, 1, 18, 53, 54, 55, 7, 56, 4, 5, 6, 8, 9, 10, 11, 12, 13, 14, 15, 16, 2, 3, 20, 21, 22, 23, 24, 25, 26, 27, 28, 29, 30, 31, 32, 33, 34, 35, 36, 37, 38, 39, 40, 41, 42, 43, 44, 45, 57, 58, 59, 60, 61, 62, 63, 64, 65, 66, 67, 68, 69, 70, 71, 72, 73, 74, 75, 76, 77, 78, 79, 80, 81, 82, 83, 84, 85] (by decide +kernel) (by decide +kernel)
set_option maxRecDepth 20000 in
theorem gX6_livingIn_X6_lives : GoodIn wsX6_livingIn (wsV RX6 169 RX6 yX6_lives wsX6_lives) := goodIn_app (goodIn_of _ (by decide +kernel)) ggX6_livingIn_X6_lives
theorem dX6_livingIn_0 : decode cX6_livingIn 0 = .ok (.aload_n 0, 1) := by decide +kernel
theorem dX6_livingIn_1 : decode cX6_livingIn 1 = .ok (.invokevirtual 105, 3) := by decide +kernel
theorem dX6_livingIn_4 : decode cX6_livingIn 4 = .ok (.iconst 0, 1) := by decide +kernel
theorem dX6_livingIn_5 : decode cX6_livingIn 5 = .ok (.istore_n 2, 1) := by decide +kernel
theorem dX6_livingIn_6 : decode cX6_livingIn 6 = .ok (.iconst 0, 1) := by decide +kernel
theorem dX6_livingIn_7 : decode cX6_livingIn 7 = .ok (.istore_n 3, 1) := by decide +kernel
theorem dX6_livingIn_8 : decode cX6_livingIn 8 = .ok (.iload_n 3, 1) := by decide +kernel
theorem dX6_livingIn_9 : decode cX6_livingIn 9 = .ok (.aload_n 0, 1) := by decide +kernel
theorem dX6_livingIn_10 : decode cX6_livingIn 10 = .ok (.getfield 96, 3) := by decide +kernel
theorem dX6_livingIn_13 : decode cX6_livingIn 13 = .ok (.if_icmp .ge 44, 3) := by decide +kernel
theorem dX6_livingIn_16 : decode cX6_livingIn 16 = .ok (.aload_n 0, 1) := by decide +kernel
theorem dX6_livingIn_17 : decode cX6_livingIn 17 = .ok (.getfield 36, 3) := by decide +kernel
theorem dX6_livingIn_20 : decode cX6_livingIn 20 = .ok (.iload_n 3, 1) := by decide +kernel
theorem dX6_livingIn_21 : decode cX6_livingIn 21 = .ok (.iaload, 1) := by decide +kernel
theorem dX6_livingIn_22 : decode cX6_livingIn 22 = .ok (.sipush 200, 3) := by decide +kernel
theorem dX6_livingIn_25 : decode cX6_livingIn 25 = .ok (.idiv, 1) := by decide +kernel
theorem dX6_livingIn_26 : decode cX6_livingIn 26 = .ok (.iload_n 1, 1) := by decide +kernel
theorem dX6_livingIn_27 : decode cX6_livingIn 27 = .ok (.if_icmp .ne 22, 3) := by decide +kernel
theorem dX6_livingIn_30 : decode cX6_livingIn 30 = .ok (.aload_n 0, 1) := by decide +kernel
theorem dX6_livingIn_31 : decode cX6_livingIn 31 = .ok (.iload_n 3, 1) := by decide +kernel
theorem dX6_livingIn_32 : decode cX6_livingIn 32 = .ok (.invokevirtual 169, 3) := by decide +kernel
theorem dX6_livingIn_35 : decode cX6_livingIn 35 = .ok (.ifCond .eq 14, 3) := by decide +kernel
theorem dX6_livingIn_38 : decode cX6_livingIn 38 = .ok (.iload_n 2, 1) := by decide +kernel
theorem dX6_livingIn_39 : decode cX6_livingIn 39 = .ok (.aload_n 0, 1) := by decide +kernel
theorem dX6_livingIn_40 : decode cX6_livingIn 40 = .ok (.getfield 48, 3) := by decide +kernel
theorem dX6_livingIn_43 : decode cX6_livingIn 43 = .ok (.iload_n 3, 1) := by decide +kernel
theorem dX6_livingIn_44 : decode cX6_livingIn 44 = .ok (.iaload, 1) := by decide +kernel
theorem dX6_livingIn_45 : decode cX6_livingIn 45 = .ok (.iadd, 1) := by decide +kernel
theorem dX6_livingIn_46 : decode cX6_livingIn 46 = .ok (.goto 4, 3) := by decide +kernel
theorem dX6_livingIn_49 : decode cX6_livingIn 49 = .ok (.iload_n 2, 1) := by decide +kernel
theorem dX6_livingIn_50 : decode cX6_livingIn 50 = .ok (.istore_n 2, 1) := by decide +kernel
theorem dX6_livingIn_51 : decode cX6_livingIn 51 = .ok (.iinc 3 1, 3) := by decide +kernel
theorem dX6_livingIn_54 : decode cX6_livingIn 54 = .ok (.goto (-46), 3) := by decide +kernel
theorem dX6_livingIn_57 : decode cX6_livingIn 57 = .ok (.iload_n 2, 1) := by decide +kernel
theorem dX6_livingIn_58 : decode cX6_livingIn 58 = .ok (.ireturn, 1) := by decide +kernel
set_option maxRecDepth 20000 in
theorem ggX6_choose_X6_know : GoodIn wsX6_choose wsX6_know := goodIn_r _ [11, 12, 2, 13, 14, 15, 16, 17, 10, 18, 19, 3, 20, 21, 22, 6, 23, 24, 25, 26, 27, 28, 29, 30, 31, 32, 33, 34, 35, 36, 37, 38, 39, 40, 41, 42, 43, 44, 45, 46, 47, 48, 60, 61, 62, 63, 64, 65, 66, 67, 68, 69, 70, 71, 72, 73, 74, 75, 76, 77, 78, 79, 80, 81, 82, 83, 84, 85, 86, 87, 88] (by decide +kernel) (by decide +kernel)
set_option maxRecDepth 20000 in
theorem gX6_choose_X6_know : GoodIn wsX6_choose (wsV RX6 105 RX6 yX6_know wsX6_know) := goodIn_app (goodIn_of _ (by decide +kernel)) ggX6_choose_X6_know
set_option maxRecDepth 20000 in
theorem ggX6_choose_X6_lives : GoodIn wsX6_choose wsX6_lives := goodIn_r _ [52, 20, 53, 54, 55, 22, 2, 21, 56, 57, 58, 10, 59, 7, 8, 9, 11, 12, 13, 14, 15, 16, 17, 18, 19, 3, 6, 23, 24, 25, 26, 27, 28, 29, 30, 31, 32, 33, 34, 35, 36, 37, 38, 39, 40, 41, 42, 43, 44, 45, 46, 47, 48, 60, 61, 62, 63, 64, 65, 66, 67, 68, 69, 70, 71, 72, 73, 74, 75, 76, 77, 78, 79, 80, 81, 82, 83, 84, 85, 86, 87, 88] (by decide +kernel) (by decide +kernel)
set_option maxRecDepth 20000 in
theorem gX6_choose_X6_lives : GoodIn wsX6_choose (wsV RX6 169 RX6 yX6_lives wsX6_lives) := goodIn_app (goodIn_of _ (by decide +kernel)) ggX6_choose_X6_lives
theorem dX6_choose_0 : decode cX6_choose 0 = .ok (.aload_n 0, 1) := by decide +kernel
theorem dX6_choose_1 : decode cX6_choose 1 = .ok (.invokevirtual 105, 3) := by decide +kernel
theorem dX6_choose_4 : decode cX6_choose 4 = .ok (.aload_n 0, 1) := by decide +kernel
theorem dX6_choose_5 : decode cX6_choose 5 = .ok (.iconst 0, 1) := by decide +kernel
theorem dX6_choose_6 : decode cX6_choose 6 = .ok (.putfield 172, 3) := by decide +kernel
theorem dX6_choose_9 : decode cX6_choose 9 = .ok (.iconst 0, 1) := by decide +kernel
theorem dX6_choose_10 : decode cX6_choose 10 = .ok (.istore_n 2, 1) := by decide +kernel
theorem dX6_choose_11 : decode cX6_choose 11 = .ok (.iload_n 2, 1) := by decide +kernel
theorem dX6_choose_12 : decode cX6_choose 12 = .ok (.aload_n 0, 1) := by decide +kernel
theorem dX6_choose_13 : decode cX6_choose 13 = .ok (.getfield 96, 3) := by decide +kernel
theorem dX6_choose_16 : decode cX6_choose 16 = .ok (.if_icmp .ge 71, 3) := by decide +kernel
theorem dX6_choose_19 : decode cX6_choose 19 = .ok (.aload_n 0, 1) := by decide +kernel
theorem dX6_choose_20 : decode cX6_choose 20 = .ok (.getfield 36, 3) := by decide +kernel
theorem dX6_choose_23 : decode cX6_choose 23 = .ok (.iload_n 2, 1) := by decide +kernel
theorem dX6_choose_24 : decode cX6_choose 24 = .ok (.iaload, 1) := by decide +kernel
theorem dX6_choose_25 : decode cX6_choose 25 = .ok (.sipush 200, 3) := by decide +kernel
theorem dX6_choose_28 : decode cX6_choose 28 = .ok (.idiv, 1) := by decide +kernel
theorem dX6_choose_29 : decode cX6_choose 29 = .ok (.iload_n 1, 1) := by decide +kernel
theorem dX6_choose_30 : decode cX6_choose 30 = .ok (.if_icmp .ne 51, 3) := by decide +kernel
theorem dX6_choose_33 : decode cX6_choose 33 = .ok (.aload_n 0, 1) := by decide +kernel
theorem dX6_choose_34 : decode cX6_choose 34 = .ok (.iload_n 2, 1) := by decide +kernel
theorem dX6_choose_35 : decode cX6_choose 35 = .ok (.invokevirtual 169, 3) := by decide +kernel
theorem dX6_choose_38 : decode cX6_choose 38 = .ok (.ifCond .eq 43, 3) := by decide +kernel
theorem dX6_choose_41 : decode cX6_choose 41 = .ok (.aload_n 0, 1) := by decide +kernel
theorem dX6_choose_42 : decode cX6_choose 42 = .ok (.getfield 58, 3) := by decide +kernel
theorem dX6_choose_45 : decode cX6_choose 45 = .ok (.aload_n 0, 1) := by decide +kernel
theorem dX6_choose_46 : decode cX6_choose 46 = .ok (.getfield 172, 3) := by decide +kernel
theorem dX6_choose_49 : decode cX6_choose 49 = .ok (.aload_n 0, 1) := by decide +kernel
theorem dX6_choose_50 : decode cX6_choose 50 = .ok (.getfield 36, 3) := by decide +kernel
theorem dX6_choose_53 : decode cX6_choose 53 = .ok (.iload_n 2, 1) := by decide +kernel
theorem dX6_choose_54 : decode cX6_choose 54 = .ok (.iaload, 1) := by decide +kernel
theorem dX6_choose_55 : decode cX6_choose 55 = .ok (.iastore, 1) := by decide +kernel
theorem dX6_choose_56 : decode cX6_choose 56 = .ok (.aload_n 0, 1) := by decide +kernel
theorem dX6_choose_57 : decode cX6_choose 57 = .ok (.getfield 61, 3) := by decide +kernel
theorem dX6_choose_60 : decode cX6_choose 60 = .ok (.aload_n 0, 1) := by decide +kernel
theorem dX6_choose_61 : decode cX6_choose 61 = .ok (.getfield 172, 3) := by decide +kernel
theorem dX6_choose_64 : decode cX6_choose 64 = .ok (.aload_n 0, 1) := by decide +kernel
theorem dX6_choose_65 : decode cX6_choose 65 = .ok (.getfield 48, 3) := by decide +kernel
theorem dX6_choose_68 : decode cX6_choose 68 = .ok (.iload_n 2, 1) := by decide +kernel
theorem dX6_choose_69 : decode cX6_choose 69 = .ok (.iaload, 1) := by decide +kernel
theorem dX6_choose_70 : decode cX6_choose 70 = .ok (.iastore, 1) := by decide +kernel
theorem dX6_choose_71 : decode cX6_choose 71 = .ok (.aload_n 0, 1) := by decide +kernel
theorem dX6_choose_72 : decode cX6_choose 72 = .ok (.dup, 1) := by decide +kernel
theorem dX6_choose_73 : decode cX6_choose 73 = .ok (.getfield 172, 3) := by decide +kernel
theorem dX6_choose_76 : decode cX6_choose 76 = .ok (.iconst 1, 1) := by decide +kernel
theorem dX6_choose_77 : decode cX6_choose 77 = .ok (.iadd, 1) := by decide +kernel
theorem dX6_choose_78 : decode cX6_choose 78 = .ok (.putfield 172, 3) := by decide +kernel
theorem dX6_choose_81 : decode cX6_choose 81 = .ok (.iinc 2 1, 3) := by decide +kernel
theorem dX6_choose_84 : decode cX6_choose 84 = .ok (.goto (-73), 3) := by decide +kernel
theorem dX6_choose_87 : decode cX6_choose 87 = .ok (.return_, 1) := by decide +kernel
set_option maxRecDepth 20000 in
theorem ggX6_hasRoom_X6_isFree : GoodIn wsX6_hasRoom wsX6_isFree := goodIn_r _ [10, 11, 12, 13, 14, 15, 16, 17, 18, 19, 20, 21, 22, 23, 24, 25, 26, 27, 28, 29, 30, 31, 32, 33, 34, 35, 36, 37, 38, 39, 40] (by decide +kernel) (by decide +kernel)
set_option maxRecDepth 20000 in
theorem gX6_hasRoom_X6_isFree : GoodIn wsX6_hasRoom (wsV RX6 112 RX6 yX6_isFree wsX6_isFree) := goodIn_app (goodIn_of _ (by decide +kernel)) ggX6_hasRoom_X6_isFree
theorem dX6_hasRoom_0 : decode cX6_hasRoom 0 = .ok (.aload_n 0, 1) := by decide +kernel
theorem dX6_hasRoom_1 : decode cX6_hasRoom 1 = .ok (.getfield 16, 3) := by decide +kernel
theorem dX6_hasRoom_4 : decode cX6_hasRoom 4 = .ok (.ifCond .ge 7, 3) := by decide +kernel
theorem dX6_hasRoom_7 : decode cX6_hasRoom 7 = .ok (.iconst 0, 1) := by decide +kernel
theorem dX6_hasRoom_8 : decode cX6_hasRoom 8 = .ok (.goto 16, 3) := by decide +kernel
theorem dX6_hasRoom_11 : decode cX6_hasRoom 11 = .ok (.sipush 200, 3) := by decide +kernel
theorem dX6_hasRoom_14 : decode cX6_hasRoom 14 = .ok (.aload_n 0, 1) := by decide +kernel
theorem dX6_hasRoom_15 : decode cX6_hasRoom 15 = .ok (.getfield 13, 3) := by decide +kernel
theorem dX6_hasRoom_18 : decode cX6_hasRoom 18 = .ok (.aload_n 0, 1) := by decide +kernel
theorem dX6_hasRoom_19 : decode cX6_hasRoom 19 = .ok (.getfield 16, 3) := by decide +kernel
theorem dX6_hasRoom_22 : decode cX6_hasRoom 22 = .ok (.iaload, 1) := by decide +kernel
theorem dX6_hasRoom_23 : decode cX6_hasRoom 23 = .ok (.isub, 1) := by decide +kernel
theorem dX6_hasRoom_24 : decode cX6_hasRoom 24 = .ok (.istore_n 1, 1) := by decide +kernel
theorem dX6_hasRoom_25 : decode cX6_hasRoom 25 = .ok (.iconst (-1), 1) := by decide +kernel
theorem dX6_hasRoom_26 : decode cX6_hasRoom 26 = .ok (.istore_n 2, 1) := by decide +kernel
theorem dX6_hasRoom_27 : decode cX6_hasRoom 27 = .ok (.iconst 0, 1) := by decide +kernel
theorem dX6_hasRoom_28 : decode cX6_hasRoom 28 = .ok (.istore_n 3, 1) := by decide +kernel
theorem dX6_hasRoom_29 : decode cX6_hasRoom 29 = .ok (.iload_n 3, 1) := by decide +kernel
theorem dX6_hasRoom_30 : decode cX6_hasRoom 30 = .ok (.aload_n 0, 1) := by decide +kernel
theorem dX6_hasRoom_31 : decode cX6_hasRoom 31 = .ok (.getfield 172, 3) := by decide +kernel
theorem dX6_hasRoom_34 : decode cX6_hasRoom 34 = .ok (.if_icmp .ge 77, 3) := by decide +kernel
theorem dX6_hasRoom_37 : decode cX6_hasRoom 37 = .ok (.aload_n 0, 1) := by decide +kernel
theorem dX6_hasRoom_38 : decode cX6_hasRoom 38 = .ok (.getfield 61, 3) := by decide +kernel
theorem dX6_hasRoom_41 : decode cX6_hasRoom 41 = .ok (.iload_n 3, 1) := by decide +kernel
theorem dX6_hasRoom_42 : decode cX6_hasRoom 42 = .ok (.iaload, 1) := by decide +kernel
theorem dX6_hasRoom_43 : decode cX6_hasRoom 43 = .ok (.iload_n 1, 1) := by decide +kernel
theorem dX6_hasRoom_44 : decode cX6_hasRoom 44 = .ok (.if_icmp .gt 15, 3) := by decide +kernel
theorem dX6_hasRoom_47 : decode cX6_hasRoom 47 = .ok (.iload_n 1, 1) := by decide +kernel
theorem dX6_hasRoom_48 : decode cX6_hasRoom 48 = .ok (.aload_n 0, 1) := by decide +kernel
theorem dX6_hasRoom_49 : decode cX6_hasRoom 49 = .ok (.getfield 61, 3) := by decide +kernel
theorem dX6_hasRoom_52 : decode cX6_hasRoom 52 = .ok (.iload_n 3, 1) := by decide +kernel
theorem dX6_hasRoom_53 : decode cX6_hasRoom 53 = .ok (.iaload, 1) := by decide +kernel
theorem dX6_hasRoom_54 : decode cX6_hasRoom 54 = .ok (.isub, 1) := by decide +kernel
theorem dX6_hasRoom_55 : decode cX6_hasRoom 55 = .ok (.istore_n 1, 1) := by decide +kernel
theorem dX6_hasRoom_56 : decode cX6_hasRoom 56 = .ok (.goto 49, 3) := by decide +kernel
theorem dX6_hasRoom_59 : decode cX6_hasRoom 59 = .ok (.iinc 2 1, 3) := by decide +kernel
theorem dX6_hasRoom_62 : decode cX6_hasRoom 62 = .ok (.iload_n 2, 1) := by decide +kernel
theorem dX6_hasRoom_63 : decode cX6_hasRoom 63 = .ok (.aload_n 0, 1) := by decide +kernel
theorem dX6_hasRoom_64 : decode cX6_hasRoom 64 = .ok (.getfield 64, 3) := by decide +kernel
theorem dX6_hasRoom_67 : decode cX6_hasRoom 67 = .ok (.if_icmp .ge 17, 3) := by decide +kernel
theorem dX6_hasRoom_70 : decode cX6_hasRoom 70 = .ok (.aload_n 0, 1) := by decide +kernel
theorem dX6_hasRoom_71 : decode cX6_hasRoom 71 = .ok (.iload_n 2, 1) := by decide +kernel
theorem dX6_hasRoom_72 : decode cX6_hasRoom 72 = .ok (.invokevirtual 112, 3) := by decide +kernel
theorem dX6_hasRoom_75 : decode cX6_hasRoom 75 = .ok (.ifCond .ne 9, 3) := by decide +kernel
theorem dX6_hasRoom_78 : decode cX6_hasRoom 78 = .ok (.iinc 2 1, 3) := by decide +kernel
theorem dX6_hasRoom_81 : decode cX6_hasRoom 81 = .ok (.goto (-19), 3) := by decide +kernel
theorem dX6_hasRoom_84 : decode cX6_hasRoom 84 = .ok (.iload_n 2, 1) := by decide +kernel
theorem dX6_hasRoom_85 : decode cX6_hasRoom 85 = .ok (.aload_n 0, 1) := by decide +kernel
theorem dX6_hasRoom_86 : decode cX6_hasRoom 86 = .ok (.getfield 64, 3) := by decide +kernel
theorem dX6_hasRoom_89 : decode cX6_hasRoom 89 = .ok (.if_icmp .lt 5, 3) := by decide +kernel
theorem dX6_hasRoom_92 : decode cX6_hasRoom 92 = .ok (.iconst 0, 1) := by decide +kernel
theorem dX6_hasRoom_93 : decode cX6_hasRoom 93 = .ok (.ireturn, 1) := by decide +kernel
theorem dX6_hasRoom_94 : decode cX6_hasRoom 94 = .ok (.sipush 200, 3) := by decide +kernel
theorem dX6_hasRoom_97 : decode cX6_hasRoom 97 = .ok (.aload_n 0, 1) := by decide +kernel
theorem dX6_hasRoom_98 : decode cX6_hasRoom 98 = .ok (.getfield 61, 3) := by decide +kernel
theorem dX6_hasRoom_101 : decode cX6_hasRoom 101 = .ok (.iload_n 3, 1) := by decide +kernel
theorem dX6_hasRoom_102 : decode cX6_hasRoom 102 = .ok (.iaload, 1) := by decide +kernel
theorem dX6_hasRoom_103 : decode cX6_hasRoom 103 = .ok (.isub, 1) := by decide +kernel
theorem dX6_hasRoom_104 : decode cX6_hasRoom 104 = .ok (.istore_n 1, 1) := by decide +kernel
theorem dX6_hasRoom_105 : decode cX6_hasRoom 105 = .ok (.iinc 3 1, 3) := by decide +kernel
theorem dX6_hasRoom_108 : decode cX6_hasRoom 108 = .ok (.goto (-79), 3) := by decide +kernel
theorem dX6_hasRoom_111 : decode cX6_hasRoom 111 = .ok (.iconst 1, 1) := by decide +kernel
theorem dX6_hasRoom_112 : decode cX6_hasRoom 112 = .ok (.ireturn, 1) := by decide +kernel
set_option maxRecDepth 20000 in
theorem ggX6_copyAll_X6_makeRoom : GoodIn wsX6_copyAll wsX6_makeRoom := goodIn_r _ [14, 15, 16, 17, 18, 19, 13, 20, 21, 22, 23, 24, 25, 7, 32, 33, 34, 35, 36, 37, 38, 39, 40, 41, 42, 43, 44, 45, 46, 47, 48, 49, 50, 51, 52, 53, 54, 55, 56, 57, 58, 59, 60] (by decide +kernel) (by decide +kernel)
