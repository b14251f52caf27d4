set_option maxRecDepth 20000 in
theorem gX6_copyAll_X6_makeRoom : GoodIn wsX6_copyAll (wsV RX6 135 RX6 yX6_makeRoom wsX6_makeRoom) := goodIn_app (goodIn_of _ (by decide +kernel)) ggX6_copyAll_X6_makeRoom
set_option maxRecDepth 20000 in
theorem ggX6_copyAll_X6_writeRow : GoodIn wsX6_copyAll wsX6_writeRow := goodIn_r _ [29, 15, 16, 2, 3, 4, 7, 6, 30, 31, 32, 33, 34, 35, 36, 37, 38, 39, 40, 41, 42, 43, 44, 45, 46, 47, 48, 49, 50, 51, 52, 53, 54, 55, 56, 57, 58, 59, 60] (by decide +kernel) (by decide +kernel)
set_option maxRecDepth 20000 in
theorem gX6_copyAll_X6_writeRow : GoodIn wsX6_copyAll (wsV RX6 142 RX6 yX6_writeRow wsX6_writeRow) := goodIn_app (goodIn_of _ (by decide +kernel)) ggX6_copyAll_X6_writeRow
theorem dX6_copyAll_0 : decode cX6_copyAll 0 = .ok (.iconst 0, 1) := by decide +kernel
theorem dX6_copyAll_1 : decode cX6_copyAll 1 = .ok (.istore_n 1, 1) := by decide +kernel
theorem dX6_copyAll_2 : decode cX6_copyAll 2 = .ok (.iload_n 1, 1) := by decide +kernel
theorem dX6_copyAll_3 : decode cX6_copyAll 3 = .ok (.aload_n 0, 1) := by decide +kernel
theorem dX6_copyAll_4 : decode cX6_copyAll 4 = .ok (.getfield 172, 3) := by decide +kernel
theorem dX6_copyAll_7 : decode cX6_copyAll 7 = .ok (.if_icmp .ge 103, 3) := by decide +kernel
theorem dX6_copyAll_10 : decode cX6_copyAll 10 = .ok (.aload_n 0, 1) := by decide +kernel
theorem dX6_copyAll_11 : decode cX6_copyAll 11 = .ok (.getfield 120, 3) := by decide +kernel
theorem dX6_copyAll_14 : decode cX6_copyAll 14 = .ok (.ifCond .ne 96, 3) := by decide +kernel
theorem dX6_copyAll_17 : decode cX6_copyAll 17 = .ok (.aload_n 0, 1) := by decide +kernel
theorem dX6_copyAll_18 : decode cX6_copyAll 18 = .ok (.getfield 123, 3) := by decide +kernel
theorem dX6_copyAll_21 : decode cX6_copyAll 21 = .ok (.ifCond .lt 20, 3) := by decide +kernel
theorem dX6_copyAll_24 : decode cX6_copyAll 24 = .ok (.aload_n 0, 1) := by decide +kernel
theorem dX6_copyAll_25 : decode cX6_copyAll 25 = .ok (.getfield 126, 3) := by decide +kernel
theorem dX6_copyAll_28 : decode cX6_copyAll 28 = .ok (.aload_n 0, 1) := by decide +kernel
theorem dX6_copyAll_29 : decode cX6_copyAll 29 = .ok (.getfield 123, 3) := by decide +kernel
theorem dX6_copyAll_32 : decode cX6_copyAll 32 = .ok (.if_icmp .ne 9, 3) := by decide +kernel
theorem dX6_copyAll_35 : decode cX6_copyAll 35 = .ok (.aload_n 0, 1) := by decide +kernel
theorem dX6_copyAll_36 : decode cX6_copyAll 36 = .ok (.iconst 1, 1) := by decide +kernel
theorem dX6_copyAll_37 : decode cX6_copyAll 37 = .ok (.putfield 120, 3) := by decide +kernel
theorem dX6_copyAll_40 : decode cX6_copyAll 40 = .ok (.return_, 1) := by decide +kernel
theorem dX6_copyAll_41 : decode cX6_copyAll 41 = .ok (.aload_n 0, 1) := by decide +kernel
theorem dX6_copyAll_42 : decode cX6_copyAll 42 = .ok (.aload_n 0, 1) := by decide +kernel
theorem dX6_copyAll_43 : decode cX6_copyAll 43 = .ok (.getfield 61, 3) := by decide +kernel
theorem dX6_copyAll_46 : decode cX6_copyAll 46 = .ok (.iload_n 1, 1) := by decide +kernel
theorem dX6_copyAll_47 : decode cX6_copyAll 47 = .ok (.iaload, 1) := by decide +kernel
theorem dX6_copyAll_48 : decode cX6_copyAll 48 = .ok (.invokevirtual 135, 3) := by decide +kernel
theorem dX6_copyAll_51 : decode cX6_copyAll 51 = .ok (.pop, 1) := by decide +kernel
theorem dX6_copyAll_52 : decode cX6_copyAll 52 = .ok (.iconst 0, 1) := by decide +kernel
theorem dX6_copyAll_53 : decode cX6_copyAll 53 = .ok (.istore_n 2, 1) := by decide +kernel
theorem dX6_copyAll_54 : decode cX6_copyAll 54 = .ok (.iload_n 2, 1) := by decide +kernel
theorem dX6_copyAll_55 : decode cX6_copyAll 55 = .ok (.aload_n 0, 1) := by decide +kernel
theorem dX6_copyAll_56 : decode cX6_copyAll 56 = .ok (.getfield 61, 3) := by decide +kernel
theorem dX6_copyAll_59 : decode cX6_copyAll 59 = .ok (.iload_n 1, 1) := by decide +kernel
theorem dX6_copyAll_60 : decode cX6_copyAll 60 = .ok (.iaload, 1) := by decide +kernel
theorem dX6_copyAll_61 : decode cX6_copyAll 61 = .ok (.if_icmp .ge 28, 3) := by decide +kernel
theorem dX6_copyAll_64 : decode cX6_copyAll 64 = .ok (.aload_n 0, 1) := by decide +kernel
theorem dX6_copyAll_65 : decode cX6_copyAll 65 = .ok (.getfield 51, 3) := by decide +kernel
theorem dX6_copyAll_68 : decode cX6_copyAll 68 = .ok (.iload_n 2, 1) := by decide +kernel
theorem dX6_copyAll_69 : decode cX6_copyAll 69 = .ok (.aload_n 0, 1) := by decide +kernel
theorem dX6_copyAll_70 : decode cX6_copyAll 70 = .ok (.getfield 7, 3) := by decide +kernel
theorem dX6_copyAll_73 : decode cX6_copyAll 73 = .ok (.aload_n 0, 1) := by decide +kernel
theorem dX6_copyAll_74 : decode cX6_copyAll 74 = .ok (.getfield 58, 3) := by decide +kernel
theorem dX6_copyAll_77 : decode cX6_copyAll 77 = .ok (.iload_n 1, 1) := by decide +kernel
theorem dX6_copyAll_78 : decode cX6_copyAll 78 = .ok (.iaload, 1) := by decide +kernel
theorem dX6_copyAll_79 : decode cX6_copyAll 79 = .ok (.iload_n 2, 1) := by decide +kernel
theorem dX6_copyAll_80 : decode cX6_copyAll 80 = .ok (.iadd, 1) := by decide +kernel
theorem dX6_copyAll_81 : decode cX6_copyAll 81 = .ok (.iaload, 1) := by decide +kernel
theorem dX6_copyAll_82 : decode cX6_copyAll 82 = .ok (.iastore, 1) := by decide +kernel
theorem dX6_copyAll_83 : decode cX6_copyAll 83 = .ok (.iinc 2 1, 3) := by decide +kernel
theorem dX6_copyAll_86 : decode cX6_copyAll 86 = .ok (.goto (-32), 3) := by decide +kernel
theorem dX6_copyAll_89 : decode cX6_copyAll 89 = .ok (.aload_n 0, 1) := by decide +kernel
theorem dX6_copyAll_90 : decode cX6_copyAll 90 = .ok (.aload_n 0, 1) := by decide +kernel
theorem dX6_copyAll_91 : decode cX6_copyAll 91 = .ok (.getfield 61, 3) := by decide +kernel
theorem dX6_copyAll_94 : decode cX6_copyAll 94 = .ok (.iload_n 1, 1) := by decide +kernel
theorem dX6_copyAll_95 : decode cX6_copyAll 95 = .ok (.iaload, 1) := by decide +kernel
theorem dX6_copyAll_96 : decode cX6_copyAll 96 = .ok (.invokevirtual 142, 3) := by decide +kernel
theorem dX6_copyAll_99 : decode cX6_copyAll 99 = .ok (.aload_n 0, 1) := by decide +kernel
theorem dX6_copyAll_100 : decode cX6_copyAll 100 = .ok (.iconst 0, 1) := by decide +kernel
theorem dX6_copyAll_101 : decode cX6_copyAll 101 = .ok (.putfield 99, 3) := by decide +kernel
theorem dX6_copyAll_104 : decode cX6_copyAll 104 = .ok (.iinc 1 1, 3) := by decide +kernel
theorem dX6_copyAll_107 : decode cX6_copyAll 107 = .ok (.goto (-105), 3) := by decide +kernel
theorem dX6_copyAll_110 : decode cX6_copyAll 110 = .ok (.return_, 1) := by decide +kernel
set_option maxRecDepth 20000 in
theorem ggX6_clean_X6_in : GoodIn wsX6_clean wsX6_in := goodIn_r _ [15] (by decide +kernel) (by decide +kernel)
set_option maxRecDepth 20000 in
theorem gX6_clean_X6_in : GoodIn wsX6_clean (va_wsS RX6 78 yX6_in wsX6_in) := goodIn_app (goodIn_of _ (by decide +kernel)) ggX6_clean_X6_in
set_option maxRecDepth 20000 in
theorem ggX6_clean_X6_isFree : GoodIn wsX6_clean wsX6_isFree := goodIn_r _ [19, 10, 105, 106, 107, 108, 109, 110, 111, 112, 113, 114, 115, 116, 117, 118, 119, 120, 121, 122, 123, 124, 125, 126, 127, 128, 129, 130, 131, 132, 133] (by decide +kernel) (by decide +kernel)
set_option maxRecDepth 20000 in
theorem gX6_clean_X6_isFree : GoodIn wsX6_clean (wsV RX6 112 RX6 yX6_isFree wsX6_isFree) := goodIn_app (goodIn_of _ (by decide +kernel)) ggX6_clean_X6_isFree
set_option maxRecDepth 20000 in
theorem ggX6_clean_X6_livingIn : GoodIn wsX6_clean wsX6_livingIn := goodIn_r _ [23, 24, 25, 26, 27, 28, 29, 14, 30, 11, 7, 9, 31, 32, 33, 34, 10, 35, 36, 37, 38, 39, 40, 41, 42, 43, 12, 13, 15, 44, 45, 46, 47, 48, 49, 50, 51, 52, 53, 54, 55, 56, 57, 58, 59, 60, 61, 62, 63, 64, 65, 66, 67, 68, 69, 70, 71, 105, 106, 107, 108, 109, 110, 111, 112, 113, 114, 115, 116, 117, 118, 119, 120, 121, 122, 123, 124, 125, 126, 127, 128, 129, 130, 131, 132, 133] (by decide +kernel) (by decide +kernel)
set_option maxRecDepth 20000 in
theorem gX6_clean_X6_livingIn : GoodIn wsX6_clean (wsV RX6 175 RX6 yX6_livingIn wsX6_livingIn) := goodIn_app (goodIn_of _ (by decide +kernel)) ggX6_clean_X6_livingIn
set_option maxRecDepth 20000 in
theorem ggX6_clean_X6_choose : GoodIn wsX6_clean wsX6_choose := goodIn_r _ [75, 76, 24, 25, 77, 78, 26, 27, 28, 29, 14, 30, 11, 7, 9, 31, 32, 33, 34, 10, 35, 36, 37, 38, 39, 40, 41, 42, 43, 12, 13, 15, 44, 45, 46, 47, 48, 49, 50, 51, 52, 53, 54, 55, 56, 57, 58, 59, 60, 61, 62, 63, 64, 65, 66, 67, 68, 69, 70, 71, 105, 106, 107, 108, 109, 110, 111, 112, 113, 114, 115, 116, 117, 118, 119, 120, 121, 122, 123, 124, 125, 126, 127, 128, 129, 130, 131, 132, 133] (by decide +kernel) (by decide +kernel)
set_option maxRecDepth 20000 in
theorem gX6_clean_X6_choose : GoodIn wsX6_clean (wsV RX6 178 RX6 yX6_choose wsX6_choose) := goodIn_app (goodIn_of _ (by decide +kernel)) ggX6_clean_X6_choose
set_option maxRecDepth 20000 in
theorem ggX6_clean_X6_hasRoom : GoodIn wsX6_clean wsX6_hasRoom := goodIn_r _ [82, 8, 9, 76, 78, 7, 16, 17, 18, 14, 19, 10, 105, 106, 107, 108, 109, 110, 111, 112, 113, 114, 115, 116, 117, 118, 119, 120, 121, 122, 123, 124, 125, 126, 127, 128, 129, 130, 131, 132, 133] (by decide +kernel) (by decide +kernel)
set_option maxRecDepth 20000 in
theorem gX6_clean_X6_hasRoom : GoodIn wsX6_clean (wsV RX6 181 RX6 yX6_hasRoom wsX6_hasRoom) := goodIn_app (goodIn_of _ (by decide +kernel)) ggX6_clean_X6_hasRoom
set_option maxRecDepth 20000 in
theorem ggX6_clean_X6_copyAll : GoodIn wsX6_clean wsX6_copyAll := goodIn_r _ [86, 76, 6, 5, 4, 78, 87, 10, 77, 11, 88, 89, 90, 14, 91, 8, 9, 92, 93, 94, 95, 7, 16, 17, 18, 19, 96, 97, 98, 99, 100, 3, 105, 106, 107, 108, 109, 110, 111, 112, 113, 114, 115, 116, 117, 118, 119, 120, 121, 122, 123, 124, 125, 126, 127, 128, 129, 130, 131, 132, 133] (by decide +kernel) (by decide +kernel)
set_option maxRecDepth 20000 in
theorem gX6_clean_X6_copyAll : GoodIn wsX6_clean (wsV RX6 185 RX6 yX6_copyAll wsX6_copyAll) := goodIn_app (goodIn_of _ (by decide +kernel)) ggX6_clean_X6_copyAll
set_option maxRecDepth 20000 in
theorem ggX6_clean_X6_close : GoodIn wsX6_clean wsX6_close := goodIn_r _ [104, 2, 3, 8, 11, 66, 105, 106, 107, 108, 109, 110, 111, 112, 113, 114, 115, 116, 117, 118, 119, 120, 121, 122, 123, 124, 125, 126, 127, 128, 129, 130, 131, 132, 133] (by decide +kernel) (by decide +kernel)
set_option maxRecDepth 20000 in
theorem gX6_clean_X6_close : GoodIn wsX6_clean (wsV RX6 166 RX6 yX6_close wsX6_close) := goodIn_app (goodIn_of _ (by decide +kernel)) ggX6_clean_X6_close
theorem dX6_clean_0 : decode cX6_clean 0 = .ok (.aload_n 0, 1) := by decide +kernel
theorem dX6_clean_1 : decode cX6_clean 1 = .ok (.iconst 0, 1) := by decide +kernel
theorem dX6_clean_2 : decode cX6_clean 2 = .ok (.putfield 67, 3) := by decide +kernel
theorem dX6_clean_5 : decode cX6_clean 5 = .ok (.aload_n 0, 1) := by decide +kernel
theorem dX6_clean_6 : decode cX6_clean 6 = .ok (.getfield 149, 3) := by decide +kernel
theorem dX6_clean_9 : decode cX6_clean 9 = .ok (.ifCond .eq 6, 3) := by decide +kernel
theorem dX6_clean_12 : decode cX6_clean 12 = .ok (.bipush (-3), 2) := by decide +kernel
theorem dX6_clean_14 : decode cX6_clean 14 = .ok (.ireturn, 1) := by decide +kernel
theorem dX6_clean_15 : decode cX6_clean 15 = .ok (.iload_n 2, 1) := by decide +kernel
theorem dX6_clean_16 : decode cX6_clean 16 = .ok (.iconst 1, 1) := by decide +kernel
theorem dX6_clean_17 : decode cX6_clean 17 = .ok (.bipush 100, 2) := by decide +kernel
theorem dX6_clean_19 : decode cX6_clean 19 = .ok (.invokestatic 78, 3) := by decide +kernel
theorem dX6_clean_22 : decode cX6_clean 22 = .ok (.ifCond .eq 17, 3) := by decide +kernel
theorem dX6_clean_25 : decode cX6_clean 25 = .ok (.iload_n 1, 1) := by decide +kernel
theorem dX6_clean_26 : decode cX6_clean 26 = .ok (.iconst 0, 1) := by decide +kernel
theorem dX6_clean_27 : decode cX6_clean 27 = .ok (.iload_n 2, 1) := by decide +kernel
theorem dX6_clean_28 : decode cX6_clean 28 = .ok (.invokestatic 78, 3) := by decide +kernel
theorem dX6_clean_31 : decode cX6_clean 31 = .ok (.ifCond .eq 8, 3) := by decide +kernel
theorem dX6_clean_34 : decode cX6_clean 34 = .ok (.iload_n 3, 1) := by decide +kernel
theorem dX6_clean_35 : decode cX6_clean 35 = .ok (.iconst (-1), 1) := by decide +kernel
theorem dX6_clean_36 : decode cX6_clean 36 = .ok (.if_icmp .ge 6, 3) := by decide +kernel
theorem dX6_clean_39 : decode cX6_clean 39 = .ok (.bipush (-2), 2) := by decide +kernel
theorem dX6_clean_41 : decode cX6_clean 41 = .ok (.ireturn, 1) := by decide +kernel
theorem dX6_clean_42 : decode cX6_clean 42 = .ok (.aload_n 0, 1) := by decide +kernel
theorem dX6_clean_43 : decode cX6_clean 43 = .ok (.iconst 0, 1) := by decide +kernel
theorem dX6_clean_44 : decode cX6_clean 44 = .ok (.putfield 129, 3) := by decide +kernel
theorem dX6_clean_47 : decode cX6_clean 47 = .ok (.aload_n 0, 1) := by decide +kernel
theorem dX6_clean_48 : decode cX6_clean 48 = .ok (.iconst 0, 1) := by decide +kernel
theorem dX6_clean_49 : decode cX6_clean 49 = .ok (.putfield 126, 3) := by decide +kernel
theorem dX6_clean_52 : decode cX6_clean 52 = .ok (.aload_n 0, 1) := by decide +kernel
theorem dX6_clean_53 : decode cX6_clean 53 = .ok (.iload_n 3, 1) := by decide +kernel
theorem dX6_clean_54 : decode cX6_clean 54 = .ok (.putfield 123, 3) := by decide +kernel
theorem dX6_clean_57 : decode cX6_clean 57 = .ok (.aload_n 0, 1) := by decide +kernel
theorem dX6_clean_58 : decode cX6_clean 58 = .ok (.iconst 0, 1) := by decide +kernel
theorem dX6_clean_59 : decode cX6_clean 59 = .ok (.putfield 120, 3) := by decide +kernel
theorem dX6_clean_62 : decode cX6_clean 62 = .ok (.iconst 0, 1) := by decide +kernel
theorem dX6_clean_63 : decode cX6_clean 63 = .ok (.istore 4, 2) := by decide +kernel
theorem dX6_clean_65 : decode cX6_clean 65 = .ok (.iconst 0, 1) := by decide +kernel
theorem dX6_clean_66 : decode cX6_clean 66 = .ok (.istore 5, 2) := by decide +kernel
theorem dX6_clean_68 : decode cX6_clean 68 = .ok (.iload 5, 2) := by decide +kernel
theorem dX6_clean_70 : decode cX6_clean 70 = .ok (.aload_n 0, 1) := by decide +kernel
theorem dX6_clean_71 : decode cX6_clean 71 = .ok (.getfield 64, 3) := by decide +kernel
theorem dX6_clean_74 : decode cX6_clean 74 = .ok (.if_icmp .ge 150, 3) := by decide +kernel
theorem dX6_clean_77 : decode cX6_clean 77 = .ok (.aload_n 0, 1) := by decide +kernel
theorem dX6_clean_78 : decode cX6_clean 78 = .ok (.iload 5, 2) := by decide +kernel
theorem dX6_clean_80 : decode cX6_clean 80 = .ok (.invokevirtual 112, 3) := by decide +kernel
theorem dX6_clean_83 : decode cX6_clean 83 = .ok (.ifCond .ne 135, 3) := by decide +kernel
theorem dX6_clean_86 : decode cX6_clean 86 = .ok (.iload 5, 2) := by decide +kernel
theorem dX6_clean_88 : decode cX6_clean 88 = .ok (.aload_n 0, 1) := by decide +kernel
theorem dX6_clean_89 : decode cX6_clean 89 = .ok (.getfield 16, 3) := by decide +kernel
theorem dX6_clean_92 : decode cX6_clean 92 = .ok (.if_icmp .eq 126, 3) := by decide +kernel
theorem dX6_clean_95 : decode cX6_clean 95 = .ok (.aload_n 0, 1) := by decide +kernel
theorem dX6_clean_96 : decode cX6_clean 96 = .ok (.getfield 13, 3) := by decide +kernel
theorem dX6_clean_99 : decode cX6_clean 99 = .ok (.iload 5, 2) := by decide +kernel
theorem dX6_clean_101 : decode cX6_clean 101 = .ok (.iaload, 1) := by decide +kernel
theorem dX6_clean_102 : decode cX6_clean 102 = .ok (.aload_n 0, 1) := by decide +kernel
theorem dX6_clean_103 : decode cX6_clean 103 = .ok (.iload 5, 2) := by decide +kernel
theorem dX6_clean_105 : decode cX6_clean 105 = .ok (.invokevirtual 175, 3) := by decide +kernel
theorem dX6_clean_108 : decode cX6_clean 108 = .ok (.isub, 1) := by decide +kernel
theorem dX6_clean_109 : decode cX6_clean 109 = .ok (.iload_n 2, 1) := by decide +kernel
theorem dX6_clean_110 : decode cX6_clean 110 = .ok (.imul, 1) := by decide +kernel
theorem dX6_clean_111 : decode cX6_clean 111 = .ok (.iload_n 1, 1) := by decide +kernel
theorem dX6_clean_112 : decode cX6_clean 112 = .ok (.aload_n 0, 1) := by decide +kernel
theorem dX6_clean_113 : decode cX6_clean 113 = .ok (.getfield 13, 3) := by decide +kernel
theorem dX6_clean_116 : decode cX6_clean 116 = .ok (.iload 5, 2) := by decide +kernel
theorem dX6_clean_118 : decode cX6_clean 118 = .ok (.iaload, 1) := by decide +kernel
theorem dX6_clean_119 : decode cX6_clean 119 = .ok (.imul, 1) := by decide +kernel
theorem dX6_clean_120 : decode cX6_clean 120 = .ok (.if_icmp .ge 6, 3) := by decide +kernel
theorem dX6_clean_123 : decode cX6_clean 123 = .ok (.goto 95, 3) := by decide +kernel
theorem dX6_clean_126 : decode cX6_clean 126 = .ok (.aload_n 0, 1) := by decide +kernel
theorem dX6_clean_127 : decode cX6_clean 127 = .ok (.iload 5, 2) := by decide +kernel
theorem dX6_clean_129 : decode cX6_clean 129 = .ok (.invokevirtual 178, 3) := by decide +kernel
theorem dX6_clean_132 : decode cX6_clean 132 = .ok (.aload_n 0, 1) := by decide +kernel
theorem dX6_clean_133 : decode cX6_clean 133 = .ok (.invokevirtual 181, 3) := by decide +kernel
theorem dX6_clean_136 : decode cX6_clean 136 = .ok (.ifCond .ne 6, 3) := by decide +kernel
theorem dX6_clean_139 : decode cX6_clean 139 = .ok (.iload 4, 2) := by decide +kernel
theorem dX6_clean_141 : decode cX6_clean 141 = .ok (.ireturn, 1) := by decide +kernel
theorem dX6_clean_142 : decode cX6_clean 142 = .ok (.aload_n 0, 1) := by decide +kernel
theorem dX6_clean_143 : decode cX6_clean 143 = .ok (.invokevirtual 185, 3) := by decide +kernel
theorem dX6_clean_146 : decode cX6_clean 146 = .ok (.aload_n 0, 1) := by decide +kernel
theorem dX6_clean_147 : decode cX6_clean 147 = .ok (.iconst 0, 1) := by decide +kernel
theorem dX6_clean_148 : decode cX6_clean 148 = .ok (.putfield 129, 3) := by decide +kernel
theorem dX6_clean_151 : decode cX6_clean 151 = .ok (.aload_n 0, 1) := by decide +kernel
theorem dX6_clean_152 : decode cX6_clean 152 = .ok (.getfield 120, 3) := by decide +kernel
theorem dX6_clean_155 : decode cX6_clean 155 = .ok (.ifCond .eq 15, 3) := by decide +kernel
theorem dX6_clean_158 : decode cX6_clean 158 = .ok (.aload_n 0, 1) := by decide +kernel
theorem dX6_clean_159 : decode cX6_clean 159 = .ok (.iconst 0, 1) := by decide +kernel
theorem dX6_clean_160 : decode cX6_clean 160 = .ok (.putfield 120, 3) := by decide +kernel
theorem dX6_clean_163 : decode cX6_clean 163 = .ok (.aload_n 0, 1) := by decide +kernel
theorem dX6_clean_164 : decode cX6_clean 164 = .ok (.invokevirtual 166, 3) := by decide +kernel
theorem dX6_clean_167 : decode cX6_clean 167 = .ok (.iload 4, 2) := by decide +kernel
theorem dX6_clean_169 : decode cX6_clean 169 = .ok (.ireturn, 1) := by decide +kernel
theorem dX6_clean_170 : decode cX6_clean 170 = .ok (.iconst 0, 1) := by decide +kernel
theorem dX6_clean_171 : decode cX6_clean 171 = .ok (.istore 6, 2) := by decide +kernel
theorem dX6_clean_173 : decode cX6_clean 173 = .ok (.iload 6, 2) := by decide +kernel
theorem dX6_clean_175 : decode cX6_clean 175 = .ok (.sipush 200, 3) := by decide +kernel
theorem dX6_clean_178 : decode cX6_clean 178 = .ok (.if_icmp .ge 24, 3) := by decide +kernel
theorem dX6_clean_181 : decode cX6_clean 181 = .ok (.aload_n 0, 1) := by decide +kernel
theorem dX6_clean_182 : decode cX6_clean 182 = .ok (.getfield 7, 3) := by decide +kernel
theorem dX6_clean_185 : decode cX6_clean 185 = .ok (.sipush 200, 3) := by decide +kernel
theorem dX6_clean_188 : decode cX6_clean 188 = .ok (.iload 5, 2) := by decide +kernel
theorem dX6_clean_190 : decode cX6_clean 190 = .ok (.imul, 1) := by decide +kernel
theorem dX6_clean_191 : decode cX6_clean 191 = .ok (.iload 6, 2) := by decide +kernel
theorem dX6_clean_193 : decode cX6_clean 193 = .ok (.iadd, 1) := by decide +kernel
theorem dX6_clean_194 : decode cX6_clean 194 = .ok (.iconst 0, 1) := by decide +kernel
theorem dX6_clean_195 : decode cX6_clean 195 = .ok (.iastore, 1) := by decide +kernel
theorem dX6_clean_196 : decode cX6_clean 196 = .ok (.iinc 6 1, 3) := by decide +kernel
theorem dX6_clean_199 : decode cX6_clean 199 = .ok (.goto (-26), 3) := by decide +kernel
theorem dX6_clean_202 : decode cX6_clean 202 = .ok (.aload_n 0, 1) := by decide +kernel
theorem dX6_clean_203 : decode cX6_clean 203 = .ok (.getfield 13, 3) := by decide +kernel
theorem dX6_clean_206 : decode cX6_clean 206 = .ok (.iload 5, 2) := by decide +kernel
theorem dX6_clean_208 : decode cX6_clean 208 = .ok (.iconst 0, 1) := by decide +kernel
theorem dX6_clean_209 : decode cX6_clean 209 = .ok (.iastore, 1) := by decide +kernel
theorem dX6_clean_210 : decode cX6_clean 210 = .ok (.aload_n 0, 1) := by decide +kernel
theorem dX6_clean_211 : decode cX6_clean 211 = .ok (.iconst 0, 1) := by decide +kernel
theorem dX6_clean_212 : decode cX6_clean 212 = .ok (.putfield 99, 3) := by decide +kernel
theorem dX6_clean_215 : decode cX6_clean 215 = .ok (.iinc 4 1, 3) := by decide +kernel
theorem dX6_clean_218 : decode cX6_clean 218 = .ok (.iinc 5 1, 3) := by decide +kernel
theorem dX6_clean_221 : decode cX6_clean 221 = .ok (.goto (-153), 3) := by decide +kernel
theorem dX6_clean_224 : decode cX6_clean 224 = .ok (.iload 4, 2) := by decide +kernel
theorem dX6_clean_226 : decode cX6_clean 226 = .ok (.ireturn, 1) := by decide +kernel
set_option maxRecDepth 20000 in
theorem ggX6_keysNow_X6_has : GoodIn wsX6_keysNow wsX6_has := goodIn_r _ [6, 7, 8, 9, 10, 5, 11, 12, 13, 14, 15, 16, 17, 18, 19, 20, 21, 22, 23, 24, 25, 26, 27, 28, 29, 30, 31, 32, 33, 34, 35, 36, 37, 38, 39, 40, 41, 42, 43, 44, 45, 46, 47, 48, 49, 50, 51, 52, 53, 54, 55, 56, 57, 58, 59, 60, 61, 62, 63, 64, 65, 66, 67, 68, 69, 70, 71, 72, 73, 74, 75, 76, 77, 78, 79, 80, 81, 82, 83] (by decide +kernel) (by decide +kernel)
set_option maxRecDepth 20000 in
theorem gX6_keysNow_X6_has : GoodIn wsX6_keysNow (wsV RX6 156 RX6 yX6_has wsX6_has) := goodIn_app (goodIn_of _ (by decide +kernel)) ggX6_keysNow_X6_has
theorem dX6_keysNow_0 : decode cX6_keysNow 0 = .ok (.iconst 0, 1) := by decide +kernel
theorem dX6_keysNow_1 : decode cX6_keysNow 1 = .ok (.istore_n 1, 1) := by decide +kernel
theorem dX6_keysNow_2 : decode cX6_keysNow 2 = .ok (.iconst 0, 1) := by decide +kernel
theorem dX6_keysNow_3 : decode cX6_keysNow 3 = .ok (.istore_n 2, 1) := by decide +kernel
theorem dX6_keysNow_4 : decode cX6_keysNow 4 = .ok (.iload_n 2, 1) := by decide +kernel
theorem dX6_keysNow_5 : decode cX6_keysNow 5 = .ok (.sipush 1000, 3) := by decide +kernel
theorem dX6_keysNow_8 : decode cX6_keysNow 8 = .ok (.if_icmp .ge 27, 3) := by decide +kernel
theorem dX6_keysNow_11 : decode cX6_keysNow 11 = .ok (.aload_n 0, 1) := by decide +kernel
theorem dX6_keysNow_12 : decode cX6_keysNow 12 = .ok (.iload_n 2, 1) := by decide +kernel
theorem dX6_keysNow_13 : decode cX6_keysNow 13 = .ok (.ldc 111, 2) := by decide +kernel
theorem dX6_keysNow_15 : decode cX6_keysNow 15 = .ok (.invokevirtual 156, 3) := by decide +kernel
theorem dX6_keysNow_18 : decode cX6_keysNow 18 = .ok (.ifCond .lt 9, 3) := by decide +kernel
theorem dX6_keysNow_21 : decode cX6_keysNow 21 = .ok (.iload_n 1, 1) := by decide +kernel
theorem dX6_keysNow_22 : decode cX6_keysNow 22 = .ok (.iconst 1, 1) := by decide +kernel
theorem dX6_keysNow_23 : decode cX6_keysNow 23 = .ok (.iadd, 1) := by decide +kernel
theorem dX6_keysNow_24 : decode cX6_keysNow 24 = .ok (.goto 4, 3) := by decide +kernel
theorem dX6_keysNow_27 : decode cX6_keysNow 27 = .ok (.iload_n 1, 1) := by decide +kernel
theorem dX6_keysNow_28 : decode cX6_keysNow 28 = .ok (.istore_n 1, 1) := by decide +kernel
theorem dX6_keysNow_29 : decode cX6_keysNow 29 = .ok (.iinc 2 1, 3) := by decide +kernel
theorem dX6_keysNow_32 : decode cX6_keysNow 32 = .ok (.goto (-28), 3) := by decide +kernel
theorem dX6_keysNow_35 : decode cX6_keysNow 35 = .ok (.iload_n 1, 1) := by decide +kernel
theorem dX6_keysNow_36 : decode cX6_keysNow 36 = .ok (.ireturn, 1) := by decide +kernel
set_option maxRecDepth 20000 in
theorem ggX6_reopen_X6_lookAt : GoodIn wsX6_reopen wsX6_lookAt := goodIn_r _ [15, 16, 17, 6, 18, 10, 19, 20, 5, 4, 21, 22, 23, 14, 24, 25, 26, 27, 28, 29, 30, 31, 32, 33, 34, 35, 36, 37, 38, 39, 40, 41, 42, 43, 44, 62, 63, 64, 65, 66, 67, 68, 69, 70, 71, 72, 73, 74, 75, 76, 77, 78, 79, 80, 81, 82, 83, 84, 85, 86, 87, 88, 89, 90] (by decide +kernel) (by decide +kernel)
set_option maxRecDepth 20000 in
theorem gX6_reopen_X6_lookAt : GoodIn wsX6_reopen (wsV RX6 102 RX6 yX6_lookAt wsX6_lookAt) := goodIn_app (goodIn_of _ (by decide +kernel)) ggX6_reopen_X6_lookAt
set_option maxRecDepth 20000 in
theorem ggX6_reopen_X6_keysNow : GoodIn wsX6_reopen wsX6_keysNow := goodIn_r _ [48, 49, 50, 51, 52, 14, 53, 19, 54, 55, 56, 57, 6, 18, 10, 58, 59, 60, 61, 3, 7, 8, 11, 12, 13, 15, 16, 17, 20, 5, 4, 21, 22, 23, 24, 25, 26, 27, 28, 29, 30, 31, 32, 33, 34, 35, 36, 37, 38, 39, 40, 41, 42, 43, 44, 62, 63, 64, 65, 66, 67, 68, 69, 70, 71, 72, 73, 74, 75, 76, 77, 78, 79, 80, 81, 82, 83, 84, 85, 86, 87, 88, 89, 90] (by decide +kernel) (by decide +kernel)
set_option maxRecDepth 20000 in
theorem gX6_reopen_X6_keysNow : GoodIn wsX6_reopen (wsV RX6 188 RX6 yX6_keysNow wsX6_keysNow) := goodIn_app (goodIn_of _ (by decide +kernel)) ggX6_reopen_X6_keysNow
theorem dX6_reopen_0 : decode cX6_reopen 0 = .ok (.aload_n 0, 1) := by decide +kernel
theorem dX6_reopen_1 : decode cX6_reopen 1 = .ok (.iconst 0, 1) := by decide +kernel
theorem dX6_reopen_2 : decode cX6_reopen 2 = .ok (.putfield 67, 3) := by decide +kernel
theorem dX6_reopen_5 : decode cX6_reopen 5 = .ok (.aload_n 0, 1) := by decide +kernel
theorem dX6_reopen_6 : decode cX6_reopen 6 = .ok (.getfield 149, 3) := by decide +kernel
theorem dX6_reopen_9 : decode cX6_reopen 9 = .ok (.ifCond .ne 6, 3) := by decide +kernel
theorem dX6_reopen_12 : decode cX6_reopen 12 = .ok (.bipush (-3), 2) := by decide +kernel
theorem dX6_reopen_14 : decode cX6_reopen 14 = .ok (.ireturn, 1) := by decide +kernel
theorem dX6_reopen_15 : decode cX6_reopen 15 = .ok (.aload_n 0, 1) := by decide +kernel
theorem dX6_reopen_16 : decode cX6_reopen 16 = .ok (.iconst 0, 1) := by decide +kernel
theorem dX6_reopen_17 : decode cX6_reopen 17 = .ok (.putfield 149, 3) := by decide +kernel
theorem dX6_reopen_20 : decode cX6_reopen 20 = .ok (.aload_n 0, 1) := by decide +kernel
theorem dX6_reopen_21 : decode cX6_reopen 21 = .ok (.iconst 0, 1) := by decide +kernel
theorem dX6_reopen_22 : decode cX6_reopen 22 = .ok (.putfield 99, 3) := by decide +kernel
theorem dX6_reopen_25 : decode cX6_reopen 25 = .ok (.aload_n 0, 1) := by decide +kernel
theorem dX6_reopen_26 : decode cX6_reopen 26 = .ok (.iconst (-1), 1) := by decide +kernel
theorem dX6_reopen_27 : decode cX6_reopen 27 = .ok (.putfield 33, 3) := by decide +kernel
theorem dX6_reopen_30 : decode cX6_reopen 30 = .ok (.aload_n 0, 1) := by decide +kernel
theorem dX6_reopen_31 : decode cX6_reopen 31 = .ok (.iconst 0, 1) := by decide +kernel
theorem dX6_reopen_32 : decode cX6_reopen 32 = .ok (.putfield 54, 3) := by decide +kernel
theorem dX6_reopen_35 : decode cX6_reopen 35 = .ok (.aload_n 0, 1) := by decide +kernel
theorem dX6_reopen_36 : decode cX6_reopen 36 = .ok (.iconst 0, 1) := by decide +kernel
theorem dX6_reopen_37 : decode cX6_reopen 37 = .ok (.putfield 96, 3) := by decide +kernel
theorem dX6_reopen_40 : decode cX6_reopen 40 = .ok (.iconst 0, 1) := by decide +kernel
theorem dX6_reopen_41 : decode cX6_reopen 41 = .ok (.istore_n 1, 1) := by decide +kernel
theorem dX6_reopen_42 : decode cX6_reopen 42 = .ok (.iload_n 1, 1) := by decide +kernel
theorem dX6_reopen_43 : decode cX6_reopen 43 = .ok (.aload_n 0, 1) := by decide +kernel
theorem dX6_reopen_44 : decode cX6_reopen 44 = .ok (.getfield 64, 3) := by decide +kernel
theorem dX6_reopen_47 : decode cX6_reopen 47 = .ok (.if_icmp .ge 23, 3) := by decide +kernel
theorem dX6_reopen_50 : decode cX6_reopen 50 = .ok (.aload_n 0, 1) := by decide +kernel
theorem dX6_reopen_51 : decode cX6_reopen 51 = .ok (.getfield 13, 3) := by decide +kernel
theorem dX6_reopen_54 : decode cX6_reopen 54 = .ok (.iload_n 1, 1) := by decide +kernel
theorem dX6_reopen_55 : decode cX6_reopen 55 = .ok (.aload_n 0, 1) := by decide +kernel
theorem dX6_reopen_56 : decode cX6_reopen 56 = .ok (.iload_n 1, 1) := by decide +kernel
theorem dX6_reopen_57 : decode cX6_reopen 57 = .ok (.sipush 200, 3) := by decide +kernel
theorem dX6_reopen_60 : decode cX6_reopen 60 = .ok (.invokevirtual 102, 3) := by decide +kernel
theorem dX6_reopen_63 : decode cX6_reopen 63 = .ok (.iastore, 1) := by decide +kernel
theorem dX6_reopen_64 : decode cX6_reopen 64 = .ok (.iinc 1 1, 3) := by decide +kernel
theorem dX6_reopen_67 : decode cX6_reopen 67 = .ok (.goto (-25), 3) := by decide +kernel
theorem dX6_reopen_70 : decode cX6_reopen 70 = .ok (.aload_n 0, 1) := by decide +kernel
theorem dX6_reopen_71 : decode cX6_reopen 71 = .ok (.iconst 1, 1) := by decide +kernel
theorem dX6_reopen_72 : decode cX6_reopen 72 = .ok (.putfield 54, 3) := by decide +kernel
theorem dX6_reopen_75 : decode cX6_reopen 75 = .ok (.aload_n 0, 1) := by decide +kernel
theorem dX6_reopen_76 : decode cX6_reopen 76 = .ok (.iconst 1, 1) := by decide +kernel
theorem dX6_reopen_77 : decode cX6_reopen 77 = .ok (.putfield 99, 3) := by decide +kernel
theorem dX6_reopen_80 : decode cX6_reopen 80 = .ok (.aload_n 0, 1) := by decide +kernel
theorem dX6_reopen_81 : decode cX6_reopen 81 = .ok (.iconst 0, 1) := by decide +kernel
theorem dX6_reopen_82 : decode cX6_reopen 82 = .ok (.putfield 132, 3) := by decide +kernel
theorem dX6_reopen_85 : decode cX6_reopen 85 = .ok (.iconst 0, 1) := by decide +kernel
theorem dX6_reopen_86 : decode cX6_reopen 86 = .ok (.istore_n 1, 1) := by decide +kernel
theorem dX6_reopen_87 : decode cX6_reopen 87 = .ok (.iload_n 1, 1) := by decide +kernel
theorem dX6_reopen_88 : decode cX6_reopen 88 = .ok (.aload_n 0, 1) := by decide +kernel
theorem dX6_reopen_89 : decode cX6_reopen 89 = .ok (.getfield 96, 3) := by decide +kernel
theorem dX6_reopen_92 : decode cX6_reopen 92 = .ok (.if_icmp .ge 39, 3) := by decide +kernel
theorem dX6_reopen_95 : decode cX6_reopen 95 = .ok (.aload_n 0, 1) := by decide +kernel
theorem dX6_reopen_96 : decode cX6_reopen 96 = .ok (.aload_n 0, 1) := by decide +kernel
theorem dX6_reopen_97 : decode cX6_reopen 97 = .ok (.getfield 42, 3) := by decide +kernel
theorem dX6_reopen_100 : decode cX6_reopen 100 = .ok (.iload_n 1, 1) := by decide +kernel
theorem dX6_reopen_101 : decode cX6_reopen 101 = .ok (.iaload, 1) := by decide +kernel
theorem dX6_reopen_102 : decode cX6_reopen 102 = .ok (.aload_n 0, 1) := by decide +kernel
theorem dX6_reopen_103 : decode cX6_reopen 103 = .ok (.getfield 132, 3) := by decide +kernel
theorem dX6_reopen_106 : decode cX6_reopen 106 = .ok (.if_icmp .le 12, 3) := by decide +kernel
theorem dX6_reopen_109 : decode cX6_reopen 109 = .ok (.aload_n 0, 1) := by decide +kernel
theorem dX6_reopen_110 : decode cX6_reopen 110 = .ok (.getfield 42, 3) := by decide +kernel
theorem dX6_reopen_113 : decode cX6_reopen 113 = .ok (.iload_n 1, 1) := by decide +kernel
theorem dX6_reopen_114 : decode cX6_reopen 114 = .ok (.iaload, 1) := by decide +kernel
theorem dX6_reopen_115 : decode cX6_reopen 115 = .ok (.goto 7, 3) := by decide +kernel
theorem dX6_reopen_118 : decode cX6_reopen 118 = .ok (.aload_n 0, 1) := by decide +kernel
theorem dX6_reopen_119 : decode cX6_reopen 119 = .ok (.getfield 132, 3) := by decide +kernel
theorem dX6_reopen_122 : decode cX6_reopen 122 = .ok (.putfield 132, 3) := by decide +kernel
theorem dX6_reopen_125 : decode cX6_reopen 125 = .ok (.iinc 1 1, 3) := by decide +kernel
theorem dX6_reopen_128 : decode cX6_reopen 128 = .ok (.goto (-41), 3) := by decide +kernel
theorem dX6_reopen_131 : decode cX6_reopen 131 = .ok (.aload_n 0, 1) := by decide +kernel
theorem dX6_reopen_132 : decode cX6_reopen 132 = .ok (.invokevirtual 188, 3) := by decide +kernel
theorem dX6_reopen_135 : decode cX6_reopen 135 = .ok (.ireturn, 1) := by decide +kernel
theorem dX6_badAt_0 : decode cX6_badAt 0 = .ok (.aload_n 0, 1) := by decide +kernel
theorem dX6_badAt_1 : decode cX6_badAt 1 = .ok (.iconst 0, 1) := by decide +kernel
theorem dX6_badAt_2 : decode cX6_badAt 2 = .ok (.putfield 67, 3) := by decide +kernel
theorem dX6_badAt_5 : decode cX6_badAt 5 = .ok (.aload_n 0, 1) := by decide +kernel
theorem dX6_badAt_6 : decode cX6_badAt 6 = .ok (.getfield 33, 3) := by decide +kernel
theorem dX6_badAt_9 : decode cX6_badAt 9 = .ok (.ireturn, 1) := by decide +kernel
set_option maxRecDepth 20000 in
theorem ggX6_isByte_X6_in : GoodIn wsX6_isByte wsX6_in := goodIn_r _ [5] (by decide +kernel) (by decide +kernel)
set_option maxRecDepth 20000 in
theorem gX6_isByte_X6_in : GoodIn wsX6_isByte (va_wsS RX6 78 yX6_in wsX6_in) := goodIn_app (goodIn_of _ (by decide +kernel)) ggX6_isByte_X6_in
theorem dX6_isByte_0 : decode cX6_isByte 0 = .ok (.iload_n 1, 1) := by decide +kernel
theorem dX6_isByte_1 : decode cX6_isByte 1 = .ok (.iconst 0, 1) := by decide +kernel
theorem dX6_isByte_2 : decode cX6_isByte 2 = .ok (.aload_n 0, 1) := by decide +kernel
theorem dX6_isByte_3 : decode cX6_isByte 3 = .ok (.getfield 64, 3) := by decide +kernel
theorem dX6_isByte_6 : decode cX6_isByte 6 = .ok (.iconst 1, 1) := by decide +kernel
theorem dX6_isByte_7 : decode cX6_isByte 7 = .ok (.isub, 1) := by decide +kernel
theorem dX6_isByte_8 : decode cX6_isByte 8 = .ok (.invokestatic 78, 3) := by decide +kernel
theorem dX6_isByte_11 : decode cX6_isByte 11 = .ok (.ifCond .eq 18, 3) := by decide +kernel
theorem dX6_isByte_14 : decode cX6_isByte 14 = .ok (.iload_n 2, 1) := by decide +kernel
theorem dX6_isByte_15 : decode cX6_isByte 15 = .ok (.iconst 0, 1) := by decide +kernel
theorem dX6_isByte_16 : decode cX6_isByte 16 = .ok (.sipush 199, 3) := by decide +kernel
theorem dX6_isByte_19 : decode cX6_isByte 19 = .ok (.invokestatic 78, 3) := by decide +kernel
theorem dX6_isByte_22 : decode cX6_isByte 22 = .ok (.ifCond .eq 7, 3) := by decide +kernel
theorem dX6_isByte_25 : decode cX6_isByte 25 = .ok (.iconst 1, 1) := by decide +kernel
theorem dX6_isByte_26 : decode cX6_isByte 26 = .ok (.goto 4, 3) := by decide +kernel
theorem dX6_isByte_29 : decode cX6_isByte 29 = .ok (.iconst 0, 1) := by decide +kernel
theorem dX6_isByte_30 : decode cX6_isByte 30 = .ok (.ireturn, 1) := by decide +kernel
set_option maxRecDepth 20000 in
theorem ggX6_poke_X6_isByte : GoodIn wsX6_poke wsX6_isByte := goodIn_r _ [8, 9, 10, 11, 7, 12, 13, 14, 15, 16, 17, 18, 19, 20, 21, 22, 23, 24, 25, 26, 27, 28, 29, 30, 31, 32, 33, 34, 35, 36, 37, 38, 39, 40, 41] (by decide +kernel) (by decide +kernel)
set_option maxRecDepth 20000 in
theorem gX6_poke_X6_isByte : GoodIn wsX6_poke (wsV RX6 191 RX6 yX6_isByte wsX6_isByte) := goodIn_app (goodIn_of _ (by decide +kernel)) ggX6_poke_X6_isByte
set_option maxRecDepth 20000 in
theorem ggX6_poke_X6_in : GoodIn wsX6_poke wsX6_in := goodIn_r _ [12] (by decide +kernel) (by decide +kernel)
set_option maxRecDepth 20000 in
theorem gX6_poke_X6_in : GoodIn wsX6_poke (va_wsS RX6 78 yX6_in wsX6_in) := goodIn_app (goodIn_of _ (by decide +kernel)) ggX6_poke_X6_in
theorem dX6_poke_0 : decode cX6_poke 0 = .ok (.aload_n 0, 1) := by decide +kernel
theorem dX6_poke_1 : decode cX6_poke 1 = .ok (.aload_n 0, 1) := by decide +kernel
theorem dX6_poke_2 : decode cX6_poke 2 = .ok (.iload_n 1, 1) := by decide +kernel
theorem dX6_poke_3 : decode cX6_poke 3 = .ok (.iload_n 2, 1) := by decide +kernel
theorem dX6_poke_4 : decode cX6_poke 4 = .ok (.invokevirtual 191, 3) := by decide +kernel
theorem dX6_poke_7 : decode cX6_poke 7 = .ok (.ifCond .eq 7, 3) := by decide +kernel
theorem dX6_poke_10 : decode cX6_poke 10 = .ok (.iconst 0, 1) := by decide +kernel
theorem dX6_poke_11 : decode cX6_poke 11 = .ok (.goto 4, 3) := by decide +kernel
theorem dX6_poke_14 : decode cX6_poke 14 = .ok (.iconst 1, 1) := by decide +kernel
theorem dX6_poke_15 : decode cX6_poke 15 = .ok (.putfield 67, 3) := by decide +kernel
theorem dX6_poke_18 : decode cX6_poke 18 = .ok (.aload_n 0, 1) := by decide +kernel
theorem dX6_poke_19 : decode cX6_poke 19 = .ok (.getfield 67, 3) := by decide +kernel
theorem dX6_poke_22 : decode cX6_poke 22 = .ok (.ifCond .le 5, 3) := by decide +kernel
theorem dX6_poke_25 : decode cX6_poke 25 = .ok (.iconst 0, 1) := by decide +kernel
theorem dX6_poke_26 : decode cX6_poke 26 = .ok (.ireturn, 1) := by decide +kernel
theorem dX6_poke_27 : decode cX6_poke 27 = .ok (.aload_n 0, 1) := by decide +kernel
theorem dX6_poke_28 : decode cX6_poke 28 = .ok (.getfield 149, 3) := by decide +kernel
theorem dX6_poke_31 : decode cX6_poke 31 = .ok (.ifCond .ne 6, 3) := by decide +kernel
theorem dX6_poke_34 : decode cX6_poke 34 = .ok (.bipush (-3), 2) := by decide +kernel
theorem dX6_poke_36 : decode cX6_poke 36 = .ok (.ireturn, 1) := by decide +kernel
theorem dX6_poke_37 : decode cX6_poke 37 = .ok (.iload_n 3, 1) := by decide +kernel
theorem dX6_poke_38 : decode cX6_poke 38 = .ok (.iconst 0, 1) := by decide +kernel
theorem dX6_poke_39 : decode cX6_poke 39 = .ok (.sipush 255, 3) := by decide +kernel
theorem dX6_poke_42 : decode cX6_poke 42 = .ok (.invokestatic 78, 3) := by decide +kernel
theorem dX6_poke_45 : decode cX6_poke 45 = .ok (.ifCond .ne 6, 3) := by decide +kernel
theorem dX6_poke_48 : decode cX6_poke 48 = .ok (.bipush (-2), 2) := by decide +kernel
theorem dX6_poke_50 : decode cX6_poke 50 = .ok (.ireturn, 1) := by decide +kernel
theorem dX6_poke_51 : decode cX6_poke 51 = .ok (.aload_n 0, 1) := by decide +kernel
theorem dX6_poke_52 : decode cX6_poke 52 = .ok (.getfield 7, 3) := by decide +kernel
theorem dX6_poke_55 : decode cX6_poke 55 = .ok (.sipush 200, 3) := by decide +kernel
theorem dX6_poke_58 : decode cX6_poke 58 = .ok (.iload_n 1, 1) := by decide +kernel
theorem dX6_poke_59 : decode cX6_poke 59 = .ok (.imul, 1) := by decide +kernel
theorem dX6_poke_60 : decode cX6_poke 60 = .ok (.iload_n 2, 1) := by decide +kernel
theorem dX6_poke_61 : decode cX6_poke 61 = .ok (.iadd, 1) := by decide +kernel
theorem dX6_poke_62 : decode cX6_poke 62 = .ok (.dup2, 1) := by decide +kernel
theorem dX6_poke_63 : decode cX6_poke 63 = .ok (.iaload, 1) := by decide +kernel
theorem dX6_poke_64 : decode cX6_poke 64 = .ok (.iload_n 3, 1) := by decide +kernel
theorem dX6_poke_65 : decode cX6_poke 65 = .ok (.ixor, 1) := by decide +kernel
theorem dX6_poke_66 : decode cX6_poke 66 = .ok (.iastore, 1) := by decide +kernel
theorem dX6_poke_67 : decode cX6_poke 67 = .ok (.aload_n 0, 1) := by decide +kernel
theorem dX6_poke_68 : decode cX6_poke 68 = .ok (.getfield 7, 3) := by decide +kernel
theorem dX6_poke_71 : decode cX6_poke 71 = .ok (.sipush 200, 3) := by decide +kernel
theorem dX6_poke_74 : decode cX6_poke 74 = .ok (.iload_n 1, 1) := by decide +kernel
theorem dX6_poke_75 : decode cX6_poke 75 = .ok (.imul, 1) := by decide +kernel
theorem dX6_poke_76 : decode cX6_poke 76 = .ok (.iload_n 2, 1) := by decide +kernel
theorem dX6_poke_77 : decode cX6_poke 77 = .ok (.iadd, 1) := by decide +kernel
theorem dX6_poke_78 : decode cX6_poke 78 = .ok (.iaload, 1) := by decide +kernel
theorem dX6_poke_79 : decode cX6_poke 79 = .ok (.ireturn, 1) := by decide +kernel
set_option maxRecDepth 20000 in
theorem ggX6_byteAt_X6_isByte : GoodIn wsX6_byteAt wsX6_isByte := goodIn_r _ [7, 8, 9, 10, 6, 11, 12, 13, 14, 15, 16, 17, 18, 19, 20, 21, 22, 23, 24, 25, 26, 27, 28, 29, 30, 31, 32, 33, 34, 35, 36, 37, 38, 39, 40] (by decide +kernel) (by decide +kernel)
set_option maxRecDepth 20000 in
theorem gX6_byteAt_X6_isByte : GoodIn wsX6_byteAt (wsV RX6 191 RX6 yX6_isByte wsX6_isByte) := goodIn_app (goodIn_of _ (by decide +kernel)) ggX6_byteAt_X6_isByte
theorem dX6_byteAt_0 : decode cX6_byteAt 0 = .ok (.aload_n 0, 1) := by decide +kernel
theorem dX6_byteAt_1 : decode cX6_byteAt 1 = .ok (.aload_n 0, 1) := by decide +kernel
theorem dX6_byteAt_2 : decode cX6_byteAt 2 = .ok (.iload_n 1, 1) := by decide +kernel
theorem dX6_byteAt_3 : decode cX6_byteAt 3 = .ok (.iload_n 2, 1) := by decide +kernel
theorem dX6_byteAt_4 : decode cX6_byteAt 4 = .ok (.invokevirtual 191, 3) := by decide +kernel
theorem dX6_byteAt_7 : decode cX6_byteAt 7 = .ok (.ifCond .eq 7, 3) := by decide +kernel
theorem dX6_byteAt_10 : decode cX6_byteAt 10 = .ok (.iconst 0, 1) := by decide +kernel
theorem dX6_byteAt_11 : decode cX6_byteAt 11 = .ok (.goto 4, 3) := by decide +kernel
theorem dX6_byteAt_14 : decode cX6_byteAt 14 = .ok (.iconst 1, 1) := by decide +kernel
theorem dX6_byteAt_15 : decode cX6_byteAt 15 = .ok (.putfield 67, 3) := by decide +kernel
theorem dX6_byteAt_18 : decode cX6_byteAt 18 = .ok (.aload_n 0, 1) := by decide +kernel
theorem dX6_byteAt_19 : decode cX6_byteAt 19 = .ok (.getfield 67, 3) := by decide +kernel
theorem dX6_byteAt_22 : decode cX6_byteAt 22 = .ok (.ifCond .le 7, 3) := by decide +kernel
theorem dX6_byteAt_25 : decode cX6_byteAt 25 = .ok (.iconst 0, 1) := by decide +kernel
theorem dX6_byteAt_26 : decode cX6_byteAt 26 = .ok (.goto 15, 3) := by decide +kernel
theorem dX6_byteAt_29 : decode cX6_byteAt 29 = .ok (.aload_n 0, 1) := by decide +kernel
theorem dX6_byteAt_30 : decode cX6_byteAt 30 = .ok (.getfield 7, 3) := by decide +kernel
theorem dX6_byteAt_33 : decode cX6_byteAt 33 = .ok (.sipush 200, 3) := by decide +kernel
theorem dX6_byteAt_36 : decode cX6_byteAt 36 = .ok (.iload_n 1, 1) := by decide +kernel
theorem dX6_byteAt_37 : decode cX6_byteAt 37 = .ok (.imul, 1) := by decide +kernel
theorem dX6_byteAt_38 : decode cX6_byteAt 38 = .ok (.iload_n 2, 1) := by decide +kernel
theorem dX6_byteAt_39 : decode cX6_byteAt 39 = .ok (.iadd, 1) := by decide +kernel
theorem dX6_byteAt_40 : decode cX6_byteAt 40 = .ok (.iaload, 1) := by decide +kernel
theorem dX6_byteAt_41 : decode cX6_byteAt 41 = .ok (.ireturn, 1) := by decide +kernel
set_option maxRecDepth 20000 in
theorem ggX6_living_X6_in : GoodIn wsX6_living wsX6_in := goodIn_r _ [7] (by decide +kernel) (by decide +kernel)
set_option maxRecDepth 20000 in
theorem gX6_living_X6_in : GoodIn wsX6_living (va_wsS RX6 78 yX6_in wsX6_in) := goodIn_app (goodIn_of _ (by decide +kernel)) ggX6_living_X6_in
set_option maxRecDepth 20000 in
theorem ggX6_living_X6_livingIn : GoodIn wsX6_living wsX6_livingIn := goodIn_r _ [11, 12, 13, 14, 15, 16, 17, 6, 18, 19, 3, 20, 21, 22, 23, 24, 25, 26, 27, 28, 29, 30, 31, 32, 33, 34, 4, 5, 7, 35, 36, 37, 38, 39, 40, 41, 42, 43, 44, 45, 46, 47, 48, 49, 50, 51, 52, 53, 54, 55, 56, 57, 58, 59, 60, 61, 62, 63, 64, 65, 66, 67, 68, 69, 70, 71, 72, 73, 74, 75, 76, 77, 78, 79, 80, 81, 82, 83, 84, 85, 86, 87, 88, 89, 90, 91] (by decide +kernel) (by decide +kernel)
set_option maxRecDepth 20000 in
theorem gX6_living_X6_livingIn : GoodIn wsX6_living (wsV RX6 175 RX6 yX6_livingIn wsX6_livingIn) := goodIn_app (goodIn_of _ (by decide +kernel)) ggX6_living_X6_livingIn
theorem dX6_living_0 : decode cX6_living 0 = .ok (.aload_n 0, 1) := by decide +kernel
theorem dX6_living_1 : decode cX6_living 1 = .ok (.iconst 0, 1) := by decide +kernel
theorem dX6_living_2 : decode cX6_living 2 = .ok (.putfield 67, 3) := by decide +kernel
theorem dX6_living_5 : decode cX6_living 5 = .ok (.aload_n 0, 1) := by decide +kernel
theorem dX6_living_6 : decode cX6_living 6 = .ok (.getfield 149, 3) := by decide +kernel
theorem dX6_living_9 : decode cX6_living 9 = .ok (.ifCond .ne 17, 3) := by decide +kernel
theorem dX6_living_12 : decode cX6_living 12 = .ok (.iload_n 1, 1) := by decide +kernel
theorem dX6_living_13 : decode cX6_living 13 = .ok (.iconst 0, 1) := by decide +kernel
theorem dX6_living_14 : decode cX6_living 14 = .ok (.aload_n 0, 1) := by decide +kernel
theorem dX6_living_15 : decode cX6_living 15 = .ok (.getfield 64, 3) := by decide +kernel
theorem dX6_living_18 : decode cX6_living 18 = .ok (.iconst 1, 1) := by decide +kernel
theorem dX6_living_19 : decode cX6_living 19 = .ok (.isub, 1) := by decide +kernel
theorem dX6_living_20 : decode cX6_living 20 = .ok (.invokestatic 78, 3) := by decide +kernel
theorem dX6_living_23 : decode cX6_living 23 = .ok (.ifCond .ne 7, 3) := by decide +kernel
theorem dX6_living_26 : decode cX6_living 26 = .ok (.iconst (-1), 1) := by decide +kernel
theorem dX6_living_27 : decode cX6_living 27 = .ok (.goto 8, 3) := by decide +kernel
theorem dX6_living_30 : decode cX6_living 30 = .ok (.aload_n 0, 1) := by decide +kernel
theorem dX6_living_31 : decode cX6_living 31 = .ok (.iload_n 1, 1) := by decide +kernel
theorem dX6_living_32 : decode cX6_living 32 = .ok (.invokevirtual 175, 3) := by decide +kernel
theorem dX6_living_35 : decode cX6_living 35 = .ok (.ireturn, 1) := by decide +kernel
set_option maxRecDepth 20000 in
theorem ggX6_used_X6_in : GoodIn wsX6_used wsX6_in := goodIn_r _ [7] (by decide +kernel) (by decide +kernel)
set_option maxRecDepth 20000 in
theorem gX6_used_X6_in : GoodIn wsX6_used (va_wsS RX6 78 yX6_in wsX6_in) := goodIn_app (goodIn_of _ (by decide +kernel)) ggX6_used_X6_in
theorem dX6_used_0 : decode cX6_used 0 = .ok (.aload_n 0, 1) := by decide +kernel
theorem dX6_used_1 : decode cX6_used 1 = .ok (.iconst 0, 1) := by decide +kernel
theorem dX6_used_2 : decode cX6_used 2 = .ok (.putfield 67, 3) := by decide +kernel
theorem dX6_used_5 : decode cX6_used 5 = .ok (.iload_n 1, 1) := by decide +kernel
theorem dX6_used_6 : decode cX6_used 6 = .ok (.iconst 0, 1) := by decide +kernel
theorem dX6_used_7 : decode cX6_used 7 = .ok (.aload_n 0, 1) := by decide +kernel
theorem dX6_used_8 : decode cX6_used 8 = .ok (.getfield 64, 3) := by decide +kernel
theorem dX6_used_11 : decode cX6_used 11 = .ok (.iconst 1, 1) := by decide +kernel
theorem dX6_used_12 : decode cX6_used 12 = .ok (.isub, 1) := by decide +kernel
theorem dX6_used_13 : decode cX6_used 13 = .ok (.invokestatic 78, 3) := by decide +kernel
theorem dX6_used_16 : decode cX6_used 16 = .ok (.ifCond .eq 12, 3) := by decide +kernel
theorem dX6_used_19 : decode cX6_used 19 = .ok (.aload_n 0, 1) := by decide +kernel
theorem dX6_used_20 : decode cX6_used 20 = .ok (.getfield 13, 3) := by decide +kernel
theorem dX6_used_23 : decode cX6_used 23 = .ok (.iload_n 1, 1) := by decide +kernel
theorem dX6_used_24 : decode cX6_used 24 = .ok (.iaload, 1) := by decide +kernel
theorem dX6_used_25 : decode cX6_used 25 = .ok (.goto 4, 3) := by decide +kernel
theorem dX6_used_28 : decode cX6_used 28 = .ok (.iconst (-1), 1) := by decide +kernel
theorem dX6_used_29 : decode cX6_used 29 = .ok (.ireturn, 1) := by decide +kernel
set_option maxRecDepth 20000 in
theorem ggX6_count_X6_in : GoodIn wsX6_count wsX6_in := goodIn_r _ [12] (by decide +kernel) (by decide +kernel)
set_option maxRecDepth 20000 in
theorem gX6_count_X6_in : GoodIn wsX6_count (va_wsS RX6 78 yX6_in wsX6_in) := goodIn_app (goodIn_of _ (by decide +kernel)) ggX6_count_X6_in
set_option maxRecDepth 20000 in
theorem ggX6_count_X6_isFree : GoodIn wsX6_count wsX6_isFree := goodIn_r _ [16, 17, 70, 71, 72, 73, 74, 75, 76, 77, 78, 79, 80, 81, 82, 83, 84, 85, 86, 87, 88, 89, 90, 91, 92, 93, 94, 95, 96, 97, 98] (by decide +kernel) (by decide +kernel)
set_option maxRecDepth 20000 in
theorem gX6_count_X6_isFree : GoodIn wsX6_count (wsV RX6 112 RX6 yX6_isFree wsX6_isFree) := goodIn_app (goodIn_of _ (by decide +kernel)) ggX6_count_X6_isFree
set_option maxRecDepth 20000 in
theorem ggX6_count_X6_keysNow : GoodIn wsX6_count wsX6_keysNow := goodIn_r _ [21, 22, 23, 24, 25, 11, 26, 27, 28, 29, 30, 31, 32, 33, 34, 35, 36, 37, 38, 39, 2, 40, 41, 42, 43, 44, 17, 45, 46, 47, 48, 49, 50, 51, 52, 9, 10, 12, 53, 54, 55, 56, 57, 58, 59, 60, 61, 62, 63, 64, 65, 66, 67, 68, 69, 70, 71, 72, 73, 74, 75, 76, 77, 78, 79, 80, 81, 82, 83, 84, 85, 86, 87, 88, 89, 90, 91, 92, 93, 94, 95, 96, 97, 98] (by decide +kernel) (by decide +kernel)
set_option maxRecDepth 20000 in
theorem gX6_count_X6_keysNow : GoodIn wsX6_count (wsV RX6 188 RX6 yX6_keysNow wsX6_keysNow) := goodIn_app (goodIn_of _ (by decide +kernel)) ggX6_count_X6_keysNow
theorem dX6_count_0 : decode cX6_count 0 = .ok (.aload_n 0, 1) := by decide +kernel
theorem dX6_count_1 : decode cX6_count 1 = .ok (.iload_n 1, 1) := by decide +kernel
theorem dX6_count_2 : decode cX6_count 2 = .ok (.iconst 0, 1) := by decide +kernel
theorem dX6_count_3 : decode cX6_count 3 = .ok (.bipush 7, 2) := by decide +kernel
theorem dX6_count_5 : decode cX6_count 5 = .ok (.invokestatic 78, 3) := by decide +kernel
theorem dX6_count_8 : decode cX6_count 8 = .ok (.ifCond .eq 7, 3) := by decide +kernel
theorem dX6_count_11 : decode cX6_count 11 = .ok (.iconst 0, 1) := by decide +kernel
theorem dX6_count_12 : decode cX6_count 12 = .ok (.goto 4, 3) := by decide +kernel
theorem dX6_count_15 : decode cX6_count 15 = .ok (.iconst 1, 1) := by decide +kernel
theorem dX6_count_16 : decode cX6_count 16 = .ok (.putfield 67, 3) := by decide +kernel
theorem dX6_count_19 : decode cX6_count 19 = .ok (.iconst 0, 1) := by decide +kernel
theorem dX6_count_20 : decode cX6_count 20 = .ok (.istore_n 2, 1) := by decide +kernel
theorem dX6_count_21 : decode cX6_count 21 = .ok (.iconst 0, 1) := by decide +kernel
theorem dX6_count_22 : decode cX6_count 22 = .ok (.istore_n 3, 1) := by decide +kernel
theorem dX6_count_23 : decode cX6_count 23 = .ok (.iload_n 3, 1) := by decide +kernel
theorem dX6_count_24 : decode cX6_count 24 = .ok (.aload_n 0, 1) := by decide +kernel
theorem dX6_count_25 : decode cX6_count 25 = .ok (.getfield 64, 3) := by decide +kernel
theorem dX6_count_28 : decode cX6_count 28 = .ok (.if_icmp .ge 30, 3) := by decide +kernel
theorem dX6_count_31 : decode cX6_count 31 = .ok (.iload_n 1, 1) := by decide +kernel
theorem dX6_count_32 : decode cX6_count 32 = .ok (.iconst 1, 1) := by decide +kernel
theorem dX6_count_33 : decode cX6_count 33 = .ok (.if_icmp .ne 25, 3) := by decide +kernel
theorem dX6_count_36 : decode cX6_count 36 = .ok (.aload_n 0, 1) := by decide +kernel
theorem dX6_count_37 : decode cX6_count 37 = .ok (.iload_n 3, 1) := by decide +kernel
theorem dX6_count_38 : decode cX6_count 38 = .ok (.invokevirtual 112, 3) := by decide +kernel
theorem dX6_count_41 : decode cX6_count 41 = .ok (.ifCond .eq 7, 3) := by decide +kernel
theorem dX6_count_44 : decode cX6_count 44 = .ok (.iload_n 2, 1) := by decide +kernel
theorem dX6_count_45 : decode cX6_count 45 = .ok (.goto 6, 3) := by decide +kernel
theorem dX6_count_48 : decode cX6_count 48 = .ok (.iload_n 2, 1) := by decide +kernel
theorem dX6_count_49 : decode cX6_count 49 = .ok (.iconst 1, 1) := by decide +kernel
theorem dX6_count_50 : decode cX6_count 50 = .ok (.iadd, 1) := by decide +kernel
theorem dX6_count_51 : decode cX6_count 51 = .ok (.istore_n 2, 1) := by decide +kernel
theorem dX6_count_52 : decode cX6_count 52 = .ok (.iinc 3 1, 3) := by decide +kernel
theorem dX6_count_55 : decode cX6_count 55 = .ok (.goto (-32), 3) := by decide +kernel
theorem dX6_count_58 : decode cX6_count 58 = .ok (.iconst 0, 1) := by decide +kernel
theorem dX6_count_59 : decode cX6_count 59 = .ok (.istore_n 3, 1) := by decide +kernel
theorem dX6_count_60 : decode cX6_count 60 = .ok (.iload_n 3, 1) := by decide +kernel
theorem dX6_count_61 : decode cX6_count 61 = .ok (.iconst 4, 1) := by decide +kernel
theorem dX6_count_62 : decode cX6_count 62 = .ok (.if_icmp .ge 31, 3) := by decide +kernel
theorem dX6_count_65 : decode cX6_count 65 = .ok (.iload_n 1, 1) := by decide +kernel
theorem dX6_count_66 : decode cX6_count 66 = .ok (.iconst 5, 1) := by decide +kernel
theorem dX6_count_67 : decode cX6_count 67 = .ok (.if_icmp .ne 26, 3) := by decide +kernel
theorem dX6_count_70 : decode cX6_count 70 = .ok (.aload_n 0, 1) := by decide +kernel
theorem dX6_count_71 : decode cX6_count 71 = .ok (.getfield 26, 3) := by decide +kernel
theorem dX6_count_74 : decode cX6_count 74 = .ok (.iload_n 3, 1) := by decide +kernel
theorem dX6_count_75 : decode cX6_count 75 = .ok (.baload, 1) := by decide +kernel
theorem dX6_count_76 : decode cX6_count 76 = .ok (.ifCond .eq 9, 3) := by decide +kernel
theorem dX6_count_79 : decode cX6_count 79 = .ok (.iload_n 2, 1) := by decide +kernel
theorem dX6_count_80 : decode cX6_count 80 = .ok (.iconst 1, 1) := by decide +kernel
theorem dX6_count_81 : decode cX6_count 81 = .ok (.iadd, 1) := by decide +kernel
theorem dX6_count_82 : decode cX6_count 82 = .ok (.goto 4, 3) := by decide +kernel
theorem dX6_count_85 : decode cX6_count 85 = .ok (.iload_n 2, 1) := by decide +kernel
theorem dX6_count_86 : decode cX6_count 86 = .ok (.istore_n 2, 1) := by decide +kernel
theorem dX6_count_87 : decode cX6_count 87 = .ok (.iinc 3 1, 3) := by decide +kernel
theorem dX6_count_90 : decode cX6_count 90 = .ok (.goto (-30), 3) := by decide +kernel
theorem dX6_count_93 : decode cX6_count 93 = .ok (.iload_n 1, 1) := by decide +kernel
theorem dX6_count_94 : decode cX6_count 94 = .ok (.ifCond .ne 19, 3) := by decide +kernel
theorem dX6_count_97 : decode cX6_count 97 = .ok (.aload_n 0, 1) := by decide +kernel
theorem dX6_count_98 : decode cX6_count 98 = .ok (.getfield 149, 3) := by decide +kernel
theorem dX6_count_101 : decode cX6_count 101 = .ok (.ifCond .eq 7, 3) := by decide +kernel
theorem dX6_count_104 : decode cX6_count 104 = .ok (.iconst 0, 1) := by decide +kernel
theorem dX6_count_105 : decode cX6_count 105 = .ok (.goto 7, 3) := by decide +kernel
theorem dX6_count_108 : decode cX6_count 108 = .ok (.aload_n 0, 1) := by decide +kernel
theorem dX6_count_109 : decode cX6_count 109 = .ok (.invokevirtual 188, 3) := by decide +kernel
theorem dX6_count_112 : decode cX6_count 112 = .ok (.istore_n 2, 1) := by decide +kernel
theorem dX6_count_113 : decode cX6_count 113 = .ok (.aload_n 0, 1) := by decide +kernel
theorem dX6_count_114 : decode cX6_count 114 = .ok (.getfield 67, 3) := by decide +kernel
theorem dX6_count_117 : decode cX6_count 117 = .ok (.ifCond .le 7, 3) := by decide +kernel
theorem dX6_count_120 : decode cX6_count 120 = .ok (.iconst 0, 1) := by decide +kernel
theorem dX6_count_121 : decode cX6_count 121 = .ok (.goto 74, 3) := by decide +kernel
theorem dX6_count_124 : decode cX6_count 124 = .ok (.iload_n 1, 1) := by decide +kernel
theorem dX6_count_125 : decode cX6_count 125 = .ok (.iconst 2, 1) := by decide +kernel
theorem dX6_count_126 : decode cX6_count 126 = .ok (.if_icmp .ne 10, 3) := by decide +kernel
theorem dX6_count_129 : decode cX6_count 129 = .ok (.aload_n 0, 1) := by decide +kernel
theorem dX6_count_130 : decode cX6_count 130 = .ok (.getfield 132, 3) := by decide +kernel
theorem dX6_count_133 : decode cX6_count 133 = .ok (.goto 62, 3) := by decide +kernel
theorem dX6_count_136 : decode cX6_count 136 = .ok (.iload_n 1, 1) := by decide +kernel
theorem dX6_count_137 : decode cX6_count 137 = .ok (.iconst 3, 1) := by decide +kernel
theorem dX6_count_138 : decode cX6_count 138 = .ok (.if_icmp .ne 10, 3) := by decide +kernel
theorem dX6_count_141 : decode cX6_count 141 = .ok (.aload_n 0, 1) := by decide +kernel
theorem dX6_count_142 : decode cX6_count 142 = .ok (.getfield 129, 3) := by decide +kernel
theorem dX6_count_145 : decode cX6_count 145 = .ok (.goto 50, 3) := by decide +kernel
theorem dX6_count_148 : decode cX6_count 148 = .ok (.iload_n 1, 1) := by decide +kernel
theorem dX6_count_149 : decode cX6_count 149 = .ok (.iconst 4, 1) := by decide +kernel
theorem dX6_count_150 : decode cX6_count 150 = .ok (.if_icmp .ne 18, 3) := by decide +kernel
theorem dX6_count_153 : decode cX6_count 153 = .ok (.aload_n 0, 1) := by decide +kernel
theorem dX6_count_154 : decode cX6_count 154 = .ok (.getfield 149, 3) := by decide +kernel
theorem dX6_count_157 : decode cX6_count 157 = .ok (.ifCond .eq 7, 3) := by decide +kernel
theorem dX6_count_160 : decode cX6_count 160 = .ok (.iconst 1, 1) := by decide +kernel
theorem dX6_count_161 : decode cX6_count 161 = .ok (.goto 34, 3) := by decide +kernel
theorem dX6_count_164 : decode cX6_count 164 = .ok (.iconst 0, 1) := by decide +kernel
theorem dX6_count_165 : decode cX6_count 165 = .ok (.goto 30, 3) := by decide +kernel
theorem dX6_count_168 : decode cX6_count 168 = .ok (.iload_n 1, 1) := by decide +kernel
theorem dX6_count_169 : decode cX6_count 169 = .ok (.bipush 6, 2) := by decide +kernel
theorem dX6_count_171 : decode cX6_count 171 = .ok (.if_icmp .ne 10, 3) := by decide +kernel
theorem dX6_count_174 : decode cX6_count 174 = .ok (.aload_n 0, 1) := by decide +kernel
theorem dX6_count_175 : decode cX6_count 175 = .ok (.getfield 146, 3) := by decide +kernel
theorem dX6_count_178 : decode cX6_count 178 = .ok (.goto 17, 3) := by decide +kernel
theorem dX6_count_181 : decode cX6_count 181 = .ok (.iload_n 1, 1) := by decide +kernel
theorem dX6_count_182 : decode cX6_count 182 = .ok (.bipush 7, 2) := by decide +kernel
theorem dX6_count_184 : decode cX6_count 184 = .ok (.if_icmp .ne 10, 3) := by decide +kernel
theorem dX6_count_187 : decode cX6_count 187 = .ok (.aload_n 0, 1) := by decide +kernel
theorem dX6_count_188 : decode cX6_count 188 = .ok (.getfield 16, 3) := by decide +kernel
theorem dX6_count_191 : decode cX6_count 191 = .ok (.goto 4, 3) := by decide +kernel
theorem dX6_count_194 : decode cX6_count 194 = .ok (.iload_n 2, 1) := by decide +kernel
theorem dX6_count_195 : decode cX6_count 195 = .ok (.ireturn, 1) := by decide +kernel
theorem dJx00060_init_da8c8_0 : decode cJx00060_init_da8c8 0 = .ok (.aload_n 0, 1) := by decide +kernel
theorem dJx00060_init_da8c8_1 : decode cJx00060_init_da8c8 1 = .ok (.invokespecial 1, 3) := by decide +kernel
theorem dJx00060_init_da8c8_4 : decode cJx00060_init_da8c8 4 = .ok (.return_, 1) := by decide +kernel
theorem dJ9_max_7cf53_0 : decode cJ9_max_7cf53 0 = .ok (.iload_n 0, 1) := by decide +kernel
theorem dJ9_max_7cf53_1 : decode cJ9_max_7cf53 1 = .ok (.iload_n 1, 1) := by decide +kernel
theorem dJ9_max_7cf53_2 : decode cJ9_max_7cf53 2 = .ok (.if_icmp .lt 7, 3) := by decide +kernel
theorem dJ9_max_7cf53_5 : decode cJ9_max_7cf53 5 = .ok (.iload_n 0, 1) := by decide +kernel
theorem dJ9_max_7cf53_6 : decode cJ9_max_7cf53 6 = .ok (.goto 4, 3) := by decide +kernel
theorem dJ9_max_7cf53_9 : decode cJ9_max_7cf53 9 = .ok (.iload_n 1, 1) := by decide +kernel
theorem dJ9_max_7cf53_10 : decode cJ9_max_7cf53 10 = .ok (.ireturn, 1) := by decide +kernel
theorem dJ9_min_7cf53_0 : decode cJ9_min_7cf53 0 = .ok (.iload_n 0, 1) := by decide +kernel
theorem dJ9_min_7cf53_1 : decode cJ9_min_7cf53 1 = .ok (.iload_n 1, 1) := by decide +kernel
theorem dJ9_min_7cf53_2 : decode cJ9_min_7cf53 2 = .ok (.if_icmp .gt 7, 3) := by decide +kernel
theorem dJ9_min_7cf53_5 : decode cJ9_min_7cf53 5 = .ok (.iload_n 0, 1) := by decide +kernel
theorem dJ9_min_7cf53_6 : decode cJ9_min_7cf53 6 = .ok (.goto 4, 3) := by decide +kernel
theorem dJ9_min_7cf53_9 : decode cJ9_min_7cf53 9 = .ok (.iload_n 1, 1) := by decide +kernel
theorem dJ9_min_7cf53_10 : decode cJ9_min_7cf53 10 = .ok (.ireturn, 1) := by decide +kernel
theorem dL_cell_0 : decode cL_cell 0 = .ok (.iload_n 1, 1) := by decide +kernel
theorem dL_cell_1 : decode cL_cell 1 = .ok (.aload_n 0, 1) := by decide +kernel
theorem dL_cell_2 : decode cL_cell 2 = .ok (.arraylength, 1) := by decide +kernel
theorem dL_cell_3 : decode cL_cell 3 = .ok (.if_icmp .ge 9, 3) := by decide +kernel
theorem dL_cell_6 : decode cL_cell 6 = .ok (.aload_n 0, 1) := by decide +kernel
theorem dL_cell_7 : decode cL_cell 7 = .ok (.iload_n 1, 1) := by decide +kernel
theorem dL_cell_8 : decode cL_cell 8 = .ok (.iaload, 1) := by decide +kernel
theorem dL_cell_9 : decode cL_cell 9 = .ok (.goto 4, 3) := by decide +kernel
theorem dL_cell_12 : decode cL_cell 12 = .ok (.iconst 0, 1) := by decide +kernel
theorem dL_cell_13 : decode cL_cell 13 = .ok (.ireturn, 1) := by decide +kernel
set_option maxRecDepth 20000 in
theorem ggL_poke_X5_poke : GoodIn wsL_poke wsX5_poke := goodIn_r _ [5, 6, 7, 8, 9, 10, 11, 4, 12, 13, 14, 15, 16, 17, 18, 19, 20, 21, 22, 23, 24, 25, 26, 27, 28, 29, 30, 31, 32, 33, 34, 35, 36, 37, 38, 39, 40, 41, 42, 43, 44, 45] (by decide +kernel) (by decide +kernel)
set_option maxRecDepth 20000 in
theorem gL_poke_X5_poke : GoodIn wsL_poke (wsV RL 7 RX5 yX5_poke wsX5_poke) := goodIn_app (goodIn_of _ (by decide +kernel)) ggL_poke_X5_poke
theorem dL_poke_0 : decode cL_poke 0 = .ok (.aload 4, 2) := by decide +kernel
theorem dL_poke_2 : decode cL_poke 2 = .ok (.iconst 0, 1) := by decide +kernel
theorem dL_poke_3 : decode cL_poke 3 = .ok (.aload_n 0, 1) := by decide +kernel
theorem dL_poke_4 : decode cL_poke 4 = .ok (.iload_n 1, 1) := by decide +kernel
theorem dL_poke_5 : decode cL_poke 5 = .ok (.iload_n 2, 1) := by decide +kernel
theorem dL_poke_6 : decode cL_poke 6 = .ok (.iload_n 3, 1) := by decide +kernel
theorem dL_poke_7 : decode cL_poke 7 = .ok (.invokevirtual 7, 3) := by decide +kernel
theorem dL_poke_10 : decode cL_poke 10 = .ok (.i2l, 1) := by decide +kernel
theorem dL_poke_11 : decode cL_poke 11 = .ok (.lastore, 1) := by decide +kernel
theorem dL_poke_12 : decode cL_poke 12 = .ok (.goto 7, 3) := by decide +kernel
theorem dL_poke_15 : decode cL_poke 15 = .ok (.astore 5, 2) := by decide +kernel
theorem dL_poke_17 : decode cL_poke 17 = .ok (.iconst 1, 1) := by decide +kernel
theorem dL_poke_18 : decode cL_poke 18 = .ok (.ireturn, 1) := by decide +kernel
theorem dL_poke_19 : decode cL_poke 19 = .ok (.iconst 0, 1) := by decide +kernel
theorem dL_poke_20 : decode cL_poke 20 = .ok (.ireturn, 1) := by decide +kernel
set_option maxRecDepth 20000 in
theorem ggL_byteAt_X5_byteAt : GoodIn wsL_byteAt wsX5_byteAt := goodIn_r _ [5, 6, 7, 8, 9, 10, 4, 11, 12, 13, 14, 15, 16, 17, 18, 19, 20, 21, 22, 23, 24, 25, 26, 27, 28, 29, 30, 31, 32, 33, 34, 35, 36, 37, 38, 39, 40, 41, 42, 43, 44] (by decide +kernel) (by decide +kernel)
set_option maxRecDepth 20000 in
theorem gL_byteAt_X5_byteAt : GoodIn wsL_byteAt (wsV RL 15 RX5 yX5_byteAt wsX5_byteAt) := goodIn_app (goodIn_of _ (by decide +kernel)) ggL_byteAt_X5_byteAt
theorem dL_byteAt_0 : decode cL_byteAt 0 = .ok (.aload_n 3, 1) := by decide +kernel
theorem dL_byteAt_1 : decode cL_byteAt 1 = .ok (.iconst 0, 1) := by decide +kernel
theorem dL_byteAt_2 : decode cL_byteAt 2 = .ok (.aload_n 0, 1) := by decide +kernel
theorem dL_byteAt_3 : decode cL_byteAt 3 = .ok (.iload_n 1, 1) := by decide +kernel
theorem dL_byteAt_4 : decode cL_byteAt 4 = .ok (.iload_n 2, 1) := by decide +kernel
theorem dL_byteAt_5 : decode cL_byteAt 5 = .ok (.invokevirtual 15, 3) := by decide +kernel
theorem dL_byteAt_8 : decode cL_byteAt 8 = .ok (.i2l, 1) := by decide +kernel
theorem dL_byteAt_9 : decode cL_byteAt 9 = .ok (.lastore, 1) := by decide +kernel
theorem dL_byteAt_10 : decode cL_byteAt 10 = .ok (.goto 7, 3) := by decide +kernel
theorem dL_byteAt_13 : decode cL_byteAt 13 = .ok (.astore 4, 2) := by decide +kernel
theorem dL_byteAt_15 : decode cL_byteAt 15 = .ok (.iconst 1, 1) := by decide +kernel
theorem dL_byteAt_16 : decode cL_byteAt 16 = .ok (.ireturn, 1) := by decide +kernel
theorem dL_byteAt_17 : decode cL_byteAt 17 = .ok (.iconst 0, 1) := by decide +kernel
theorem dL_byteAt_18 : decode cL_byteAt 18 = .ok (.ireturn, 1) := by decide +kernel
set_option maxRecDepth 20000 in
theorem ggL_count_X5_count : GoodIn wsL_count wsX5_count := goodIn_r _ [5, 6, 7, 8, 9, 10, 11, 12, 13, 14, 15, 16, 17, 18, 19, 20, 21, 22, 23, 24, 25, 26, 27, 28, 29, 30, 31, 32, 33, 34, 35, 36, 37, 38, 39, 40, 41, 42, 43, 44, 45, 46, 47, 48, 49, 50, 51, 52, 53, 54, 55, 56, 57, 58, 59, 60, 61, 62, 63, 64, 65, 66, 67, 68, 69, 70, 71, 72, 73, 74, 75, 76, 77] (by decide +kernel) (by decide +kernel)
set_option maxRecDepth 20000 in
theorem gL_count_X5_count : GoodIn wsL_count (wsV RL 19 RX5 yX5_count wsX5_count) := goodIn_app (goodIn_of _ (by decide +kernel)) ggL_count_X5_count
theorem dL_count_0 : decode cL_count 0 = .ok (.aload_n 2, 1) := by decide +kernel
theorem dL_count_1 : decode cL_count 1 = .ok (.iconst 0, 1) := by decide +kernel
theorem dL_count_2 : decode cL_count 2 = .ok (.aload_n 0, 1) := by decide +kernel
theorem dL_count_3 : decode cL_count 3 = .ok (.iload_n 1, 1) := by decide +kernel
theorem dL_count_4 : decode cL_count 4 = .ok (.invokevirtual 19, 3) := by decide +kernel
theorem dL_count_7 : decode cL_count 7 = .ok (.i2l, 1) := by decide +kernel
theorem dL_count_8 : decode cL_count 8 = .ok (.lastore, 1) := by decide +kernel
theorem dL_count_9 : decode cL_count 9 = .ok (.goto 6, 3) := by decide +kernel
theorem dL_count_12 : decode cL_count 12 = .ok (.astore_n 3, 1) := by decide +kernel
theorem dL_count_13 : decode cL_count 13 = .ok (.iconst 1, 1) := by decide +kernel
theorem dL_count_14 : decode cL_count 14 = .ok (.ireturn, 1) := by decide +kernel
theorem dL_count_15 : decode cL_count 15 = .ok (.iconst 0, 1) := by decide +kernel
theorem dL_count_16 : decode cL_count 16 = .ok (.ireturn, 1) := by decide +kernel
set_option maxRecDepth 20000 in
theorem ggL_law_L_cell : GoodIn wsL_law wsL_cell := goodIn_r _ [10] (by decide +kernel) (by decide +kernel)
set_option maxRecDepth 20000 in
theorem gL_law_L_cell : GoodIn wsL_law (va_wsS RL 23 yL_cell wsL_cell) := goodIn_app (goodIn_of _ (by decide +kernel)) ggL_law_L_cell
set_option maxRecDepth 20000 in
theorem ggL_law_X5_init : GoodIn wsL_law wsX5_init := goodIn_r _ [13, 14, 15, 16, 17, 18, 19, 20, 21, 22, 23, 24, 25, 26, 27, 28, 29, 30, 31, 32, 33, 34, 35, 36, 37, 38, 39, 40, 41, 42, 43, 44, 45, 46, 47, 48, 49, 50, 51, 52, 53, 54, 55, 56, 57, 58, 59, 60, 61, 62, 63, 64, 65, 66, 67, 68, 69, 70, 71, 631, 632, 633, 634, 635, 636, 590, 591, 592, 593, 594, 595, 596, 597, 598, 599, 600, 601, 637, 638, 639, 640, 641, 642, 643, 644, 645, 646] (by decide +kernel) (by decide +kernel)
set_option maxRecDepth 20000 in
theorem gL_law_X5_init : GoodIn wsL_law (wsX5_init) := ggL_law_X5_init
set_option maxRecDepth 20000 in
theorem ggL_law_X6_init : GoodIn wsL_law wsX6_init := goodIn_r _ [74, 75, 15, 16, 40, 76, 77, 78, 79, 80, 61, 81, 82, 83, 84, 85, 86, 87, 88, 89, 90, 91, 92, 93, 602, 603, 604, 605, 606, 607, 608, 609, 610, 611, 612, 613, 614, 615, 616, 617, 618, 619, 620, 621, 622, 623, 624, 625, 626, 627, 628, 629, 630] (by decide +kernel) (by decide +kernel)
set_option maxRecDepth 20000 in
theorem gL_law_X6_init : GoodIn wsL_law (wsX6_init) := ggL_law_X6_init
set_option maxRecDepth 20000 in
theorem ggL_law_X5_feed : GoodIn wsL_law wsX5_feed := goodIn_r _ [97, 98, 41, 590, 591, 592, 593, 594, 595, 596, 597, 598, 599, 600, 601] (by decide +kernel) (by decide +kernel)
set_option maxRecDepth 20000 in
theorem gL_law_X5_feed : GoodIn wsL_law (wsV RL 35 RX5 yX5_feed wsX5_feed) := goodIn_app (goodIn_of _ (by decide +kernel)) ggL_law_X5_feed
set_option maxRecDepth 20000 in
theorem ggL_law_X6_feed : GoodIn wsL_law wsX6_feed := goodIn_r _ [102, 103, 104, 79, 105, 106, 5, 107, 602, 603, 604, 605, 606, 607, 608, 609, 610, 611, 612, 613, 614, 615, 616, 617, 618, 619, 620, 621, 622, 623, 624, 625, 626, 627, 628, 629, 630] (by decide +kernel) (by decide +kernel)
set_option maxRecDepth 20000 in
theorem gL_law_X6_feed : GoodIn wsL_law (wsV RL 38 RX6 yX6_feed wsX6_feed) := goodIn_app (goodIn_of _ (by decide +kernel)) ggL_law_X6_feed
set_option maxRecDepth 20000 in
theorem ggL_law_X5_put : GoodIn wsL_law wsX5_put := goodIn_r _ [111, 112, 98, 113, 114, 115, 116, 117, 118, 119, 2, 120, 121, 122, 27, 39, 41, 123, 124, 125, 31, 126, 127, 128, 129, 130, 131, 132, 26, 133, 47, 134, 135, 136, 137, 50, 138, 139, 140, 141, 48, 142, 143, 144, 145, 49, 146, 147, 148, 38, 149, 150, 71, 151, 152, 153, 154, 155, 156, 157, 158, 159, 160, 161, 162, 163, 164, 165, 166, 167, 168, 169, 170, 51, 171, 172, 173, 174, 30, 175, 56, 57, 58, 59, 60, 62, 176, 177, 178, 179, 180, 181, 182, 183, 184, 590, 591, 592, 593, 594, 595, 596, 597, 598, 599, 600, 601, 631, 632, 633, 634, 635, 636, 645, 646, 637, 638, 639, 640, 641, 642] (by decide +kernel) (by decide +kernel)
set_option maxRecDepth 20000 in
theorem gL_law_X5_put : GoodIn wsL_law (wsV RL 39 RX5 yX5_put wsX5_put) := goodIn_app (goodIn_of _ (by decide +kernel)) ggL_law_X5_put
set_option maxRecDepth 20000 in
theorem ggL_law_X6_put : GoodIn wsL_law wsX6_put := goodIn_r _ [188, 103, 189, 104, 105, 106, 5, 107, 190, 191, 192, 193, 194, 195, 196, 197, 198, 199, 200, 201, 78, 77, 202, 203, 204, 205, 93, 206, 207, 208, 209, 76, 210, 211, 212, 213, 89, 79, 214, 215, 216, 217, 218, 219, 220, 221, 222, 223, 224, 80, 225, 602, 603, 604, 605, 606, 607, 608, 609, 610, 611, 612, 613, 614, 615, 616, 617, 618, 619, 620, 621, 622, 623, 624, 625, 626, 627, 628, 629, 630] (by decide +kernel) (by decide +kernel)
set_option maxRecDepth 20000 in
theorem gL_law_X6_put : GoodIn wsL_law (wsV RL 42 RX6 yX6_put wsX6_put) := goodIn_app (goodIn_of _ (by decide +kernel)) ggL_law_X6_put
set_option maxRecDepth 20000 in
theorem ggL_law_X5_drop : GoodIn wsL_law wsX5_drop := goodIn_r _ [229, 112, 230, 231, 232, 2, 233, 35, 121, 234, 31, 235, 113, 114, 115, 116, 236, 237, 238, 34, 239, 66, 240, 241, 242, 30, 243, 58, 59, 117, 118, 119, 120, 122, 27, 39, 41, 123, 124, 125, 126, 127, 128, 129, 130, 131, 132, 26, 133, 47, 134, 135, 136, 137, 50, 138, 139, 140, 141, 48, 142, 143, 144, 145, 49, 146, 147, 148, 38, 149, 150, 71, 151, 152, 153, 154, 155, 156, 157, 158, 159, 160, 161, 162, 163, 164, 165, 166, 167, 168, 169, 170, 51, 171, 172, 173, 174, 175, 56, 57, 60, 62, 176, 177, 178, 179, 180, 181, 182, 183, 184, 590, 591, 592, 593, 594, 595, 596, 597, 598, 599, 600, 601, 643, 644, 637, 638, 639, 640, 641, 642, 631, 632, 633, 634, 635, 636, 645, 646] (by decide +kernel) (by decide +kernel)
set_option maxRecDepth 20000 in
theorem gL_law_X5_drop : GoodIn wsL_law (wsV RL 43 RX5 yX5_drop wsX5_drop) := goodIn_app (goodIn_of _ (by decide +kernel)) ggL_law_X5_drop
set_option maxRecDepth 20000 in
theorem ggL_law_X6_drop : GoodIn wsL_law wsX6_drop := goodIn_r _ [247, 103, 189, 195, 248, 249, 250, 5, 251, 87, 252, 253, 254, 255, 256, 85, 86, 257, 258, 259, 260, 197, 93, 77, 261, 262, 263, 264, 76, 84, 88, 90, 83, 265, 266, 267, 268, 105, 106, 107, 269, 270, 271, 272, 273, 274, 275, 276, 277, 278, 279, 280, 214, 215, 216, 217, 218, 190, 191, 192, 193, 194, 196, 198, 199, 200, 201, 78, 202, 203, 204, 205, 206, 207, 208, 209, 210, 211, 212, 213, 89, 79, 219, 220, 221, 222, 223, 224, 80, 225, 602, 603, 604, 605, 606, 607, 608, 609, 610, 611, 612, 613, 614, 615, 616, 617, 618, 619, 620, 621, 622, 623, 624, 625, 626, 627, 628, 629, 630] (by decide +kernel) (by decide +kernel)
set_option maxRecDepth 20000 in
theorem gL_law_X6_drop : GoodIn wsL_law (wsV RL 46 RX6 yX6_drop wsX6_drop) := goodIn_app (goodIn_of _ (by decide +kernel)) ggL_law_X6_drop
set_option maxRecDepth 20000 in
theorem ggL_law_X5_length : GoodIn wsL_law wsX5_length := goodIn_r _ [284, 31, 285, 230, 231, 232, 2, 233, 112, 35, 121, 234, 235, 113, 114, 115, 116, 236, 237, 238, 34, 239, 66, 240, 241, 242, 30, 243, 58, 59, 590, 591, 592, 593, 594, 595, 596, 597, 598, 599, 600, 601, 637, 638, 639, 640, 641, 642, 643, 644] (by decide +kernel) (by decide +kernel)
set_option maxRecDepth 20000 in
theorem gL_law_X5_length : GoodIn wsL_law (wsV RL 47 RX5 yX5_length wsX5_length) := goodIn_app (goodIn_of _ (by decide +kernel)) ggL_law_X5_length
set_option maxRecDepth 20000 in
theorem ggL_law_X6_length : GoodIn wsL_law wsX6_length := goodIn_r _ [289, 103, 76, 84, 290, 291, 292, 5, 293, 294, 295, 296, 297, 189, 195, 81, 82, 105, 106, 107, 248, 249, 250, 251, 87, 252, 253, 254, 255, 256, 85, 86, 257, 258, 259, 260, 197, 93, 77, 261, 262, 263, 264, 88, 90, 83, 265, 266, 267, 268, 269, 270, 271, 272, 273, 274, 275, 276, 277, 278, 279, 280, 214, 215, 216, 217, 218, 602, 603, 604, 605, 606, 607, 608, 609, 610, 611, 612, 613, 614, 615, 616, 617, 618, 619, 620, 621, 622, 623, 624, 625, 626, 627, 628, 629, 630] (by decide +kernel) (by decide +kernel)
set_option maxRecDepth 20000 in
theorem gL_law_X6_length : GoodIn wsL_law (wsV RL 50 RX6 yX6_length wsX6_length) := goodIn_app (goodIn_of _ (by decide +kernel)) ggL_law_X6_length
set_option maxRecDepth 20000 in
theorem ggL_law_X5_find : GoodIn wsL_law wsX5_find := goodIn_r _ [301, 31, 285, 27, 126, 302, 230, 231, 232, 2, 233, 112, 35, 121, 234, 235, 113, 114, 115, 116, 236, 237, 238, 34, 239, 66, 240, 241, 242, 30, 243, 58, 59, 590, 591, 592, 593, 594, 595, 596, 597, 598, 599, 600, 601, 637, 638, 639, 640, 641, 642, 631, 632, 633, 634, 635, 636, 643, 644] (by decide +kernel) (by decide +kernel)
set_option maxRecDepth 20000 in
theorem gL_law_X5_find : GoodIn wsL_law (wsV RL 51 RX5 yX5_find wsX5_find) := goodIn_app (goodIn_of _ (by decide +kernel)) ggL_law_X5_find
set_option maxRecDepth 20000 in
theorem ggL_law_X6_find : GoodIn wsL_law wsX6_find := goodIn_r _ [306, 103, 76, 84, 290, 291, 292, 5, 293, 294, 295, 296, 297, 189, 195, 81, 82, 105, 106, 107, 248, 249, 250, 251, 87, 252, 253, 254, 255, 256, 85, 86, 257, 258, 259, 260, 197, 93, 77, 261, 262, 263, 264, 88, 90, 83, 265, 266, 267, 268, 269, 270, 271, 272, 273, 274, 275, 276, 277, 278, 279, 280, 214, 215, 216, 217, 218, 602, 603, 604, 605, 606, 607, 608, 609, 610, 611, 612, 613, 614, 615, 616, 617, 618, 619, 620, 621, 622, 623, 624, 625, 626, 627, 628, 629, 630] (by decide +kernel) (by decide +kernel)
set_option maxRecDepth 20000 in
theorem gL_law_X6_find : GoodIn wsL_law (wsV RL 54 RX6 yX6_find wsX6_find) := goodIn_app (goodIn_of _ (by decide +kernel)) ggL_law_X6_find
set_option maxRecDepth 20000 in
theorem ggL_law_X5_snapshot : GoodIn wsL_law wsX5_snapshot := goodIn_r _ [310, 112, 35, 121, 311, 312, 313, 34, 314, 66, 315, 316, 317, 318, 67, 590, 591, 592, 593, 594, 595, 596, 597, 598, 599, 600, 601, 643, 644] (by decide +kernel) (by decide +kernel)
set_option maxRecDepth 20000 in
theorem gL_law_X5_snapshot : GoodIn wsL_law (wsV RL 55 RX5 yX5_snapshot wsX5_snapshot) := goodIn_app (goodIn_of _ (by decide +kernel)) ggL_law_X5_snapshot
set_option maxRecDepth 20000 in
theorem ggL_law_X6_snapshot : GoodIn wsL_law wsX6_snapshot := goodIn_r _ [322, 103, 189, 81, 82, 194, 602, 603, 604, 605, 606, 607, 608, 609, 610, 611, 612, 613, 614, 615, 616, 617, 618, 619, 620, 621, 622, 623, 624, 625, 626, 627, 628, 629, 630] (by decide +kernel) (by decide +kernel)
set_option maxRecDepth 20000 in
theorem gL_law_X6_snapshot : GoodIn wsL_law (wsV RL 59 RX6 yX6_snapshot wsX6_snapshot) := goodIn_app (goodIn_of _ (by decide +kernel)) ggL_law_X6_snapshot
set_option maxRecDepth 20000 in
theorem ggL_law_X5_release : GoodIn wsL_law wsX5_release := goodIn_r _ [326, 112, 35, 236, 237, 238, 34, 239, 66, 327, 328, 329, 330, 590, 591, 592, 593, 594, 595, 596, 597, 598, 599, 600, 601, 643, 644] (by decide +kernel) (by decide +kernel)
set_option maxRecDepth 20000 in
theorem gL_law_X5_release : GoodIn wsL_law (wsV RL 60 RX5 yX5_release wsX5_release) := goodIn_app (goodIn_of _ (by decide +kernel)) ggL_law_X5_release
set_option maxRecDepth 20000 in
theorem ggL_law_X6_release : GoodIn wsL_law wsX6_release := goodIn_r _ [334, 103, 189, 81, 105, 106, 5, 107, 602, 603, 604, 605, 606, 607, 608, 609, 610, 611, 612, 613, 614, 615, 616, 617, 618, 619, 620, 621, 622, 623, 624, 625, 626, 627, 628, 629, 630] (by decide +kernel) (by decide +kernel)
set_option maxRecDepth 20000 in
theorem gL_law_X6_release : GoodIn wsL_law (wsV RL 63 RX6 yX6_release wsX6_release) := goodIn_app (goodIn_of _ (by decide +kernel)) ggL_law_X6_release
set_option maxRecDepth 20000 in
theorem ggL_law_X5_sync : GoodIn wsL_law wsX5_sync := goodIn_r _ [338, 112, 27, 339, 340, 341, 26, 342, 170, 590, 591, 592, 593, 594, 595, 596, 597, 598, 599, 600, 601, 631, 632, 633, 634, 635, 636] (by decide +kernel) (by decide +kernel)
set_option maxRecDepth 20000 in
theorem gL_law_X5_sync : GoodIn wsL_law (wsV RL 64 RX5 yX5_sync wsX5_sync) := goodIn_app (goodIn_of _ (by decide +kernel)) ggL_law_X5_sync
set_option maxRecDepth 20000 in
theorem ggL_law_X6_sync : GoodIn wsL_law wsX6_sync := goodIn_r _ [346, 103, 189, 225, 602, 603, 604, 605, 606, 607, 608, 609, 610, 611, 612, 613, 614, 615, 616, 617, 618, 619, 620, 621, 622, 623, 624, 625, 626, 627, 628, 629, 630] (by decide +kernel) (by decide +kernel)
set_option maxRecDepth 20000 in
theorem gL_law_X6_sync : GoodIn wsL_law (wsV RL 67 RX6 yX6_sync wsX6_sync) := goodIn_app (goodIn_of _ (by decide +kernel)) ggL_law_X6_sync
set_option maxRecDepth 20000 in
theorem ggL_law_X5_crash : GoodIn wsL_law wsX5_crash := goodIn_r _ [350, 112, 27, 351, 352, 353, 26, 354, 170, 49, 51, 355, 356, 357, 2, 358, 123, 31, 35, 339, 340, 341, 342, 359, 360, 361, 30, 362, 56, 363, 364, 365, 366, 58, 367, 368, 369, 34, 370, 371, 328, 329, 330, 66, 590, 591, 592, 593, 594, 595, 596, 597, 598, 599, 600, 601, 631, 632, 633, 634, 635, 636, 637, 638, 639, 640, 641, 642, 643, 644] (by decide +kernel) (by decide +kernel)
set_option maxRecDepth 20000 in
theorem gL_law_X5_crash : GoodIn wsL_law (wsV RL 68 RX5 yX5_crash wsX5_crash) := goodIn_app (goodIn_of _ (by decide +kernel)) ggL_law_X5_crash
set_option maxRecDepth 20000 in
theorem ggL_law_X6_crash : GoodIn wsL_law wsX6_crash := goodIn_r _ [375, 103, 189, 225, 76, 80, 376, 377, 378, 5, 379, 78, 197, 81, 602, 603, 604, 605, 606, 607, 608, 609, 610, 611, 612, 613, 614, 615, 616, 617, 618, 619, 620, 621, 622, 623, 624, 625, 626, 627, 628, 629, 630] (by decide +kernel) (by decide +kernel)
set_option maxRecDepth 20000 in
theorem gL_law_X6_crash : GoodIn wsL_law (wsV RL 71 RX6 yX6_crash wsX6_crash) := goodIn_app (goodIn_of _ (by decide +kernel)) ggL_law_X6_crash
set_option maxRecDepth 20000 in
theorem ggL_law_X5_clean : GoodIn wsL_law wsX5_clean := goodIn_r _ [383, 112, 27, 384, 31, 339, 340, 341, 26, 342, 170, 385, 386, 387, 2, 388, 123, 389, 35, 390, 143, 144, 145, 49, 391, 392, 393, 30, 394, 395, 396, 397, 398, 58, 59, 399, 18, 19, 20, 62, 400, 401, 402, 34, 403, 66, 67, 404, 405, 406, 407, 60, 408, 128, 115, 129, 409, 410, 411, 412, 413, 42, 414, 415, 416, 417, 418, 419, 135, 136, 137, 47, 50, 420, 421, 139, 140, 141, 48, 142, 422, 423, 424, 425, 17, 426, 427, 428, 429, 126, 302, 130, 131, 132, 133, 134, 138, 162, 163, 164, 165, 166, 167, 168, 169, 51, 171, 172, 173, 174, 175, 56, 57, 176, 177, 178, 179, 180, 181, 182, 183, 184, 355, 356, 357, 358, 359, 360, 361, 362, 363, 364, 365, 366, 367, 368, 369, 370, 371, 328, 329, 330, 430, 431, 432, 433, 434, 590, 591, 592, 593, 594, 595, 596, 597, 598, 599, 600, 601, 631, 632, 633, 634, 635, 636, 637, 638, 639, 640, 641, 642, 643, 644] (by decide +kernel) (by decide +kernel)
set_option maxRecDepth 20000 in
theorem gL_law_X5_clean : GoodIn wsL_law (wsV RL 72 RX5 yX5_clean wsX5_clean) := goodIn_app (goodIn_of _ (by decide +kernel)) ggL_law_X5_clean
set_option maxRecDepth 20000 in
theorem ggL_law_X6_clean : GoodIn wsL_law wsX6_clean := goodIn_r _ [438, 103, 189, 225, 224, 196, 223, 93, 78, 77, 76, 197, 105, 106, 5, 107, 206, 207, 208, 209, 439, 440, 441, 442, 256, 84, 88, 257, 258, 259, 260, 261, 262, 263, 264, 85, 86, 87, 90, 83, 265, 266, 267, 268, 269, 270, 271, 272, 273, 274, 275, 276, 277, 278, 279, 280, 214, 215, 216, 217, 218, 443, 444, 445, 446, 195, 81, 82, 252, 253, 254, 255, 447, 448, 449, 450, 451, 91, 92, 452, 453, 454, 455, 456, 457, 458, 459, 89, 198, 199, 200, 201, 202, 203, 204, 205, 219, 220, 221, 222, 80, 376, 377, 378, 379, 602, 603, 604, 605, 606, 607, 608, 609, 610, 611, 612, 613, 614, 615, 616, 617, 618, 619, 620, 621, 622, 623, 624, 625, 626, 627, 628, 629, 630] (by decide +kernel) (by decide +kernel)
set_option maxRecDepth 20000 in
theorem gL_law_X6_clean : GoodIn wsL_law (wsV RL 75 RX6 yX6_clean wsX6_clean) := goodIn_app (goodIn_of _ (by decide +kernel)) ggL_law_X6_clean
set_option maxRecDepth 20000 in
theorem ggL_law_X5_reopen : GoodIn wsL_law wsX5_reopen := goodIn_r _ [463, 112, 464, 121, 27, 384, 31, 465, 466, 467, 2, 468, 126, 21, 22, 19, 23, 389, 469, 470, 115, 471, 472, 473, 474, 475, 183, 184, 476, 128, 129, 477, 177, 178, 478, 114, 116, 479, 180, 181, 480, 481, 482, 483, 156, 157, 158, 484, 160, 161, 172, 173, 174, 30, 175, 56, 57, 58, 59, 60, 62, 176, 179, 182, 485, 486, 487, 488, 489, 490, 491, 492, 493, 494, 495, 496, 241, 242, 243, 590, 591, 592, 593, 594, 595, 596, 597, 598, 599, 600, 601, 631, 632, 633, 634, 635, 636, 637, 638, 639, 640, 641, 642] (by decide +kernel) (by decide +kernel)
set_option maxRecDepth 20000 in
theorem gL_law_X5_reopen : GoodIn wsL_law (wsV RL 76 RX5 yX5_reopen wsX5_reopen) := goodIn_app (goodIn_of _ (by decide +kernel)) ggL_law_X5_reopen
set_option maxRecDepth 20000 in
theorem ggL_law_X6_reopen : GoodIn wsL_law wsX6_reopen := goodIn_r _ [500, 103, 189, 197, 83, 90, 256, 93, 77, 194, 86, 261, 262, 263, 5, 264, 76, 84, 85, 87, 88, 265, 266, 267, 268, 105, 106, 107, 269, 270, 271, 272, 273, 274, 275, 276, 277, 278, 279, 280, 214, 215, 216, 217, 218, 501, 502, 503, 504, 195, 248, 249, 250, 251, 252, 253, 254, 255, 257, 258, 259, 260, 602, 603, 604, 605, 606, 607, 608, 609, 610, 611, 612, 613, 614, 615, 616, 617, 618, 619, 620, 621, 622, 623, 624, 625, 626, 627, 628, 629, 630] (by decide +kernel) (by decide +kernel)
set_option maxRecDepth 20000 in
theorem gL_law_X6_reopen : GoodIn wsL_law (wsV RL 79 RX6 yX6_reopen wsX6_reopen) := goodIn_app (goodIn_of _ (by decide +kernel)) ggL_law_X6_reopen
set_option maxRecDepth 20000 in
theorem ggL_law_X5_badAt : GoodIn wsL_law wsX5_badAt := goodIn_r _ [508, 464, 490, 590, 591, 592, 593, 594, 595, 596, 597, 598, 599, 600, 601] (by decide +kernel) (by decide +kernel)
set_option maxRecDepth 20000 in
theorem gL_law_X5_badAt : GoodIn wsL_law (wsV RL 80 RX5 yX5_badAt wsX5_badAt) := goodIn_app (goodIn_of _ (by decide +kernel)) ggL_law_X5_badAt
set_option maxRecDepth 20000 in
theorem ggL_law_X6_badAt : GoodIn wsL_law wsX6_badAt := goodIn_r _ [512, 103, 83, 602, 603, 604, 605, 606, 607, 608, 609, 610, 611, 612, 613, 614, 615, 616, 617, 618, 619, 620, 621, 622, 623, 624, 625, 626, 627, 628, 629, 630] (by decide +kernel) (by decide +kernel)
set_option maxRecDepth 20000 in
theorem gL_law_X6_badAt : GoodIn wsL_law (wsV RL 83 RX6 yX6_badAt wsX6_badAt) := goodIn_app (goodIn_of _ (by decide +kernel)) ggL_law_X6_badAt
set_option maxRecDepth 20000 in
theorem ggL_law_L_poke : GoodIn wsL_law wsL_poke := goodIn_r _ [515, 516, 517, 518, 2, 519, 112, 27, 126, 520, 521, 522, 523, 524, 525, 526, 527, 528, 529, 26, 530, 48, 590, 591, 592, 593, 594, 595, 596, 597, 598, 599, 600, 601, 631, 632, 633, 634, 635, 636, 647, 648, 649, 650, 651, 652] (by decide +kernel) (by decide +kernel)
set_option maxRecDepth 20000 in
theorem gL_law_L_poke : GoodIn wsL_law (va_wsS RL 84 yL_poke wsL_poke) := goodIn_app (goodIn_of _ (by decide +kernel)) ggL_law_L_poke
set_option maxRecDepth 20000 in
theorem ggL_law_X6_poke : GoodIn wsL_law wsX6_poke := goodIn_r _ [534, 103, 189, 76, 535, 536, 537, 5, 538, 93, 105, 106, 107, 602, 603, 604, 605, 606, 607, 608, 609, 610, 611, 612, 613, 614, 615, 616, 617, 618, 619, 620, 621, 622, 623, 624, 625, 626, 627, 628, 629, 630] (by decide +kernel) (by decide +kernel)
set_option maxRecDepth 20000 in
theorem gL_law_X6_poke : GoodIn wsL_law (wsV RL 87 RX6 yX6_poke wsX6_poke) := goodIn_app (goodIn_of _ (by decide +kernel)) ggL_law_X6_poke
set_option maxRecDepth 20000 in
theorem ggL_law_X6_thrown : GoodIn wsL_law wsX6_thrown := goodIn_r _ [542, 103, 602, 603, 604, 605, 606, 607, 608, 609, 610, 611, 612, 613, 614, 615, 616, 617, 618, 619, 620, 621, 622, 623, 624, 625, 626, 627, 628, 629, 630] (by decide +kernel) (by decide +kernel)
set_option maxRecDepth 20000 in
theorem gL_law_X6_thrown : GoodIn wsL_law (wsV RL 88 RX6 yX6_thrown wsX6_thrown) := goodIn_app (goodIn_of _ (by decide +kernel)) ggL_law_X6_thrown
set_option maxRecDepth 20000 in
theorem ggL_law_L_byteAt : GoodIn wsL_law wsL_byteAt := goodIn_r _ [545, 546, 547, 548, 2, 549, 27, 126, 520, 521, 522, 523, 524, 525, 526, 527, 528, 529, 26, 530, 48, 590, 591, 592, 593, 594, 595, 596, 597, 598, 599, 600, 601, 631, 632, 633, 634, 635, 636, 647, 648, 649, 650, 651, 652] (by decide +kernel) (by decide +kernel)
set_option maxRecDepth 20000 in
theorem gL_law_L_byteAt : GoodIn wsL_law (va_wsS RL 91 yL_byteAt wsL_byteAt) := goodIn_app (goodIn_of _ (by decide +kernel)) ggL_law_L_byteAt
set_option maxRecDepth 20000 in
theorem ggL_law_X6_byteAt : GoodIn wsL_law wsX6_byteAt := goodIn_r _ [553, 103, 76, 535, 536, 537, 5, 538, 93, 105, 106, 107, 602, 603, 604, 605, 606, 607, 608, 609, 610, 611, 612, 613, 614, 615, 616, 617, 618, 619, 620, 621, 622, 623, 624, 625, 626, 627, 628, 629, 630] (by decide +kernel) (by decide +kernel)
set_option maxRecDepth 20000 in
theorem gL_law_X6_byteAt : GoodIn wsL_law (wsV RL 94 RX6 yX6_byteAt wsX6_byteAt) := goodIn_app (goodIn_of _ (by decide +kernel)) ggL_law_X6_byteAt
set_option maxRecDepth 20000 in
theorem ggL_law_X5_living : GoodIn wsL_law wsX5_living := goodIn_r _ [557, 112, 27, 31, 35, 527, 528, 529, 26, 530, 48, 391, 392, 393, 30, 394, 395, 396, 397, 398, 58, 59, 399, 18, 19, 20, 62, 400, 401, 402, 34, 403, 66, 67, 404, 405, 406, 407, 60, 408, 128, 115, 129, 590, 591, 592, 593, 594, 595, 596, 597, 598, 599, 600, 601, 631, 632, 633, 634, 635, 636, 637, 638, 639, 640, 641, 642, 643, 644] (by decide +kernel) (by decide +kernel)
set_option maxRecDepth 20000 in
theorem gL_law_X5_living : GoodIn wsL_law (wsV RL 95 RX5 yX5_living wsX5_living) := goodIn_app (goodIn_of _ (by decide +kernel)) ggL_law_X5_living
set_option maxRecDepth 20000 in
theorem ggL_law_X6_living : GoodIn wsL_law wsX6_living := goodIn_r _ [561, 103, 189, 93, 105, 106, 5, 107, 439, 440, 441, 442, 256, 84, 88, 257, 258, 259, 260, 197, 77, 261, 262, 263, 264, 76, 85, 86, 87, 90, 83, 265, 266, 267, 268, 269, 270, 271, 272, 273, 274, 275, 276, 277, 278, 279, 280, 214, 215, 216, 217, 218, 443, 444, 445, 446, 195, 81, 82, 252, 253, 254, 255, 602, 603, 604, 605, 606, 607, 608, 609, 610, 611, 612, 613, 614, 615, 616, 617, 618, 619, 620, 621, 622, 623, 624, 625, 626, 627, 628, 629, 630] (by decide +kernel) (by decide +kernel)
set_option maxRecDepth 20000 in
theorem gL_law_X6_living : GoodIn wsL_law (wsV RL 98 RX6 yX6_living wsX6_living) := goodIn_app (goodIn_of _ (by decide +kernel)) ggL_law_X6_living
set_option maxRecDepth 20000 in
theorem ggL_law_X5_used : GoodIn wsL_law wsX5_used := goodIn_r _ [565, 27, 389, 527, 528, 529, 26, 530, 48, 590, 591, 592, 593, 594, 595, 596, 597, 598, 599, 600, 601, 631, 632, 633, 634, 635, 636] (by decide +kernel) (by decide +kernel)
set_option maxRecDepth 20000 in
theorem gL_law_X5_used : GoodIn wsL_law (wsV RL 99 RX5 yX5_used wsX5_used) := goodIn_app (goodIn_of _ (by decide +kernel)) ggL_law_X5_used
set_option maxRecDepth 20000 in
theorem ggL_law_X6_used : GoodIn wsL_law wsX6_used := goodIn_r _ [569, 103, 93, 77, 105, 106, 5, 107, 602, 603, 604, 605, 606, 607, 608, 609, 610, 611, 612, 613, 614, 615, 616, 617, 618, 619, 620, 621, 622, 623, 624, 625, 626, 627, 628, 629, 630] (by decide +kernel) (by decide +kernel)
set_option maxRecDepth 20000 in
theorem gL_law_X6_used : GoodIn wsL_law (wsV RL 102 RX6 yX6_used wsX6_used) := goodIn_app (goodIn_of _ (by decide +kernel)) ggL_law_X6_used
set_option maxRecDepth 20000 in
theorem ggL_law_L_count : GoodIn wsL_law wsL_count := goodIn_r _ [572, 573, 574, 575, 2, 576, 31, 121, 27, 577, 112, 35, 98, 123, 524, 525, 526, 492, 493, 494, 30, 495, 58, 62, 496, 241, 242, 243, 59, 578, 579, 580, 26, 581, 48, 142, 143, 144, 145, 49, 582, 583, 584, 34, 585, 66, 590, 591, 592, 593, 594, 595, 596, 597, 598, 599, 600, 601, 631, 632, 633, 634, 635, 636, 647, 648, 649, 650, 651, 652, 637, 638, 639, 640, 641, 642, 643, 644] (by decide +kernel) (by decide +kernel)
set_option maxRecDepth 20000 in
theorem gL_law_L_count : GoodIn wsL_law (va_wsS RL 103 yL_count wsL_count) := goodIn_app (goodIn_of _ (by decide +kernel)) ggL_law_L_count
set_option maxRecDepth 20000 in
theorem ggL_law_X6_count : GoodIn wsL_law wsX6_count := goodIn_r _ [589, 103, 93, 81, 189, 194, 225, 104, 78, 105, 106, 5, 107, 206, 207, 208, 209, 76, 501, 502, 503, 504, 195, 248, 249, 250, 251, 87, 252, 253, 254, 255, 256, 85, 86, 257, 258, 259, 260, 197, 77, 261, 262, 263, 264, 84, 88, 90, 83, 265, 266, 267, 268, 269, 270, 271, 272, 273, 274, 275, 276, 277, 278, 279, 280, 214, 215, 216, 217, 218, 602, 603, 604, 605, 606, 607, 608, 609, 610, 611, 612, 613, 614, 615, 616, 617, 618, 619, 620, 621, 622, 623, 624, 625, 626, 627, 628, 629, 630] (by decide +kernel) (by decide +kernel)
set_option maxRecDepth 20000 in
theorem gL_law_X6_count : GoodIn wsL_law (wsV RL 106 RX6 yX6_count wsX6_count) := goodIn_app (goodIn_of _ (by decide +kernel)) ggL_law_X6_count
theorem dL_law_0 : decode cL_law 0 = .ok (.new 8, 3) := by decide +kernel
theorem dL_law_3 : decode cL_law 3 = .ok (.dup, 1) := by decide +kernel
theorem dL_law_4 : decode cL_law 4 = .ok (.aload_n 0, 1) := by decide +kernel
theorem dL_law_5 : decode cL_law 5 = .ok (.iconst 0, 1) := by decide +kernel
theorem dL_law_6 : decode cL_law 6 = .ok (.invokestatic 23, 3) := by decide +kernel
theorem dL_law_9 : decode cL_law 9 = .ok (.invokespecial 29, 3) := by decide +kernel
theorem dL_law_12 : decode cL_law 12 = .ok (.astore_n 1, 1) := by decide +kernel
theorem dL_law_13 : decode cL_law 13 = .ok (.new 32, 3) := by decide +kernel
theorem dL_law_16 : decode cL_law 16 = .ok (.dup, 1) := by decide +kernel
theorem dL_law_17 : decode cL_law 17 = .ok (.aload_n 0, 1) := by decide +kernel
theorem dL_law_18 : decode cL_law 18 = .ok (.iconst 0, 1) := by decide +kernel
theorem dL_law_19 : decode cL_law 19 = .ok (.invokestatic 23, 3) := by decide +kernel
theorem dL_law_22 : decode cL_law 22 = .ok (.invokespecial 34, 3) := by decide +kernel
theorem dL_law_25 : decode cL_law 25 = .ok (.astore_n 2, 1) := by decide +kernel
theorem dL_law_26 : decode cL_law 26 = .ok (.iconst 1, 1) := by decide +kernel
theorem dL_law_27 : decode cL_law 27 = .ok (.newarray .long, 2) := by decide +kernel
theorem dL_law_29 : decode cL_law 29 = .ok (.astore_n 3, 1) := by decide +kernel
theorem dL_law_30 : decode cL_law 30 = .ok (.iconst 1, 1) := by decide +kernel
theorem dL_law_31 : decode cL_law 31 = .ok (.istore 4, 2) := by decide +kernel
theorem dL_law_33 : decode cL_law 33 = .ok (.iload 4, 2) := by decide +kernel
theorem dL_law_35 : decode cL_law 35 = .ok (.aload_n 0, 1) := by decide +kernel
theorem dL_law_36 : decode cL_law 36 = .ok (.arraylength, 1) := by decide +kernel
theorem dL_law_37 : decode cL_law 37 = .ok (.iconst 4, 1) := by decide +kernel
theorem dL_law_38 : decode cL_law 38 = .ok (.isub, 1) := by decide +kernel
theorem dL_law_39 : decode cL_law 39 = .ok (.if_icmp .gt 677, 3) := by decide +kernel
theorem dL_law_42 : decode cL_law 42 = .ok (.aload_n 0, 1) := by decide +kernel
theorem dL_law_43 : decode cL_law 43 = .ok (.iload 4, 2) := by decide +kernel
theorem dL_law_45 : decode cL_law 45 = .ok (.iaload, 1) := by decide +kernel
theorem dL_law_46 : decode cL_law 46 = .ok (.bipush 31, 2) := by decide +kernel
theorem dL_law_48 : decode cL_law 48 = .ok (.iand, 1) := by decide +kernel
theorem dL_law_49 : decode cL_law 49 = .ok (.tableswitch 661 0 16 #[83, 120, 145, 170, 207, 256, 269, 294, 307, 332, 381, 394, 407, 487, 555, 580, 605], 83) := by decide +kernel
theorem dL_law_132 : decode cL_law 132 = .ok (.aload_n 1, 1) := by decide +kernel
theorem dL_law_133 : decode cL_law 133 = .ok (.aload_n 0, 1) := by decide +kernel
theorem dL_law_134 : decode cL_law 134 = .ok (.iload 4, 2) := by decide +kernel
theorem dL_law_136 : decode cL_law 136 = .ok (.iconst 1, 1) := by decide +kernel
theorem dL_law_137 : decode cL_law 137 = .ok (.iadd, 1) := by decide +kernel
theorem dL_law_138 : decode cL_law 138 = .ok (.iaload, 1) := by decide +kernel
theorem dL_law_139 : decode cL_law 139 = .ok (.aload_n 0, 1) := by decide +kernel
theorem dL_law_140 : decode cL_law 140 = .ok (.iload 4, 2) := by decide +kernel
theorem dL_law_142 : decode cL_law 142 = .ok (.iconst 2, 1) := by decide +kernel
theorem dL_law_143 : decode cL_law 143 = .ok (.iadd, 1) := by decide +kernel
theorem dL_law_144 : decode cL_law 144 = .ok (.iaload, 1) := by decide +kernel
theorem dL_law_145 : decode cL_law 145 = .ok (.invokevirtual 35, 3) := by decide +kernel
theorem dL_law_148 : decode cL_law 148 = .ok (.aload_n 2, 1) := by decide +kernel
theorem dL_law_149 : decode cL_law 149 = .ok (.aload_n 0, 1) := by decide +kernel
theorem dL_law_150 : decode cL_law 150 = .ok (.iload 4, 2) := by decide +kernel
theorem dL_law_152 : decode cL_law 152 = .ok (.iconst 1, 1) := by decide +kernel
theorem dL_law_153 : decode cL_law 153 = .ok (.iadd, 1) := by decide +kernel
theorem dL_law_154 : decode cL_law 154 = .ok (.iaload, 1) := by decide +kernel
theorem dL_law_155 : decode cL_law 155 = .ok (.aload_n 0, 1) := by decide +kernel
theorem dL_law_156 : decode cL_law 156 = .ok (.iload 4, 2) := by decide +kernel
theorem dL_law_158 : decode cL_law 158 = .ok (.iconst 2, 1) := by decide +kernel
theorem dL_law_159 : decode cL_law 159 = .ok (.iadd, 1) := by decide +kernel
theorem dL_law_160 : decode cL_law 160 = .ok (.iaload, 1) := by decide +kernel
theorem dL_law_161 : decode cL_law 161 = .ok (.invokevirtual 38, 3) := by decide +kernel
theorem dL_law_164 : decode cL_law 164 = .ok (.if_icmp .eq 546, 3) := by decide +kernel
theorem dL_law_167 : decode cL_law 167 = .ok (.iconst 0, 1) := by decide +kernel
theorem dL_law_168 : decode cL_law 168 = .ok (.ireturn, 1) := by decide +kernel
theorem dL_law_169 : decode cL_law 169 = .ok (.aload_n 1, 1) := by decide +kernel
theorem dL_law_170 : decode cL_law 170 = .ok (.aload_n 0, 1) := by decide +kernel
theorem dL_law_171 : decode cL_law 171 = .ok (.iload 4, 2) := by decide +kernel
theorem dL_law_173 : decode cL_law 173 = .ok (.iconst 1, 1) := by decide +kernel
