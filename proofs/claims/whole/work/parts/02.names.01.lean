theorem dX1_add_41 : decode cX1_add 41 = .ok (.iload_n 2, 1) := by decide +kernel
theorem dX1_add_42 : decode cX1_add 42 = .ok (.iastore, 1) := by decide +kernel
theorem dX1_add_43 : decode cX1_add 43 = .ok (.aload_n 0, 1) := by decide +kernel
theorem dX1_add_44 : decode cX1_add 44 = .ok (.getfield 22, 3) := by decide +kernel
theorem dX1_add_47 : decode cX1_add 47 = .ok (.iload 4, 2) := by decide +kernel
theorem dX1_add_49 : decode cX1_add 49 = .ok (.aload_n 3, 1) := by decide +kernel
theorem dX1_add_50 : decode cX1_add 50 = .ok (.iload_n 2, 1) := by decide +kernel
theorem dX1_add_51 : decode cX1_add 51 = .ok (.invokestatic 35, 3) := by decide +kernel
theorem dX1_add_54 : decode cX1_add 54 = .ok (.iastore, 1) := by decide +kernel
theorem dX1_add_55 : decode cX1_add 55 = .ok (.aload_n 0, 1) := by decide +kernel
theorem dX1_add_56 : decode cX1_add 56 = .ok (.getfield 25, 3) := by decide +kernel
theorem dX1_add_59 : decode cX1_add 59 = .ok (.iload 4, 2) := by decide +kernel
theorem dX1_add_61 : decode cX1_add 61 = .ok (.aload_n 3, 1) := by decide +kernel
theorem dX1_add_62 : decode cX1_add 62 = .ok (.iload_n 2, 1) := by decide +kernel
theorem dX1_add_63 : decode cX1_add 63 = .ok (.invokestatic 39, 3) := by decide +kernel
theorem dX1_add_66 : decode cX1_add 66 = .ok (.iastore, 1) := by decide +kernel
theorem dX1_add_67 : decode cX1_add 67 = .ok (.aload_n 0, 1) := by decide +kernel
theorem dX1_add_68 : decode cX1_add 68 = .ok (.getfield 28, 3) := by decide +kernel
theorem dX1_add_71 : decode cX1_add 71 = .ok (.iload 4, 2) := by decide +kernel
theorem dX1_add_73 : decode cX1_add 73 = .ok (.aload_n 3, 1) := by decide +kernel
theorem dX1_add_74 : decode cX1_add 74 = .ok (.iload_n 2, 1) := by decide +kernel
theorem dX1_add_75 : decode cX1_add 75 = .ok (.invokestatic 42, 3) := by decide +kernel
theorem dX1_add_78 : decode cX1_add 78 = .ok (.iastore, 1) := by decide +kernel
theorem dX1_add_79 : decode cX1_add 79 = .ok (.aload_n 0, 1) := by decide +kernel
theorem dX1_add_80 : decode cX1_add 80 = .ok (.getfield 31, 3) := by decide +kernel
theorem dX1_add_83 : decode cX1_add 83 = .ok (.iload 4, 2) := by decide +kernel
theorem dX1_add_85 : decode cX1_add 85 = .ok (.aload_n 3, 1) := by decide +kernel
theorem dX1_add_86 : decode cX1_add 86 = .ok (.iload_n 2, 1) := by decide +kernel
theorem dX1_add_87 : decode cX1_add 87 = .ok (.iaload, 1) := by decide +kernel
theorem dX1_add_88 : decode cX1_add 88 = .ok (.iconst 2, 1) := by decide +kernel
theorem dX1_add_89 : decode cX1_add 89 = .ok (.if_icmp .ne 7, 3) := by decide +kernel
theorem dX1_add_92 : decode cX1_add 92 = .ok (.iconst 1, 1) := by decide +kernel
theorem dX1_add_93 : decode cX1_add 93 = .ok (.goto 4, 3) := by decide +kernel
theorem dX1_add_96 : decode cX1_add 96 = .ok (.iconst 0, 1) := by decide +kernel
theorem dX1_add_97 : decode cX1_add 97 = .ok (.bastore, 1) := by decide +kernel
theorem dX1_add_98 : decode cX1_add 98 = .ok (.return_, 1) := by decide +kernel
theorem dX1_forget_0 : decode cX1_forget 0 = .ok (.aload_n 0, 1) := by decide +kernel
theorem dX1_forget_1 : decode cX1_forget 1 = .ok (.getfield 15, 3) := by decide +kernel
theorem dX1_forget_4 : decode cX1_forget 4 = .ok (.iload_n 1, 1) := by decide +kernel
theorem dX1_forget_5 : decode cX1_forget 5 = .ok (.iconst 0, 1) := by decide +kernel
theorem dX1_forget_6 : decode cX1_forget 6 = .ok (.iastore, 1) := by decide +kernel
theorem dX1_forget_7 : decode cX1_forget 7 = .ok (.iconst 0, 1) := by decide +kernel
theorem dX1_forget_8 : decode cX1_forget 8 = .ok (.istore_n 2, 1) := by decide +kernel
theorem dX1_forget_9 : decode cX1_forget 9 = .ok (.iload_n 2, 1) := by decide +kernel
theorem dX1_forget_10 : decode cX1_forget 10 = .ok (.bipush 12, 2) := by decide +kernel
theorem dX1_forget_12 : decode cX1_forget 12 = .ok (.if_icmp .ge 21, 3) := by decide +kernel
theorem dX1_forget_15 : decode cX1_forget 15 = .ok (.aload_n 0, 1) := by decide +kernel
theorem dX1_forget_16 : decode cX1_forget 16 = .ok (.getfield 22, 3) := by decide +kernel
theorem dX1_forget_19 : decode cX1_forget 19 = .ok (.iload_n 1, 1) := by decide +kernel
theorem dX1_forget_20 : decode cX1_forget 20 = .ok (.bipush 12, 2) := by decide +kernel
theorem dX1_forget_22 : decode cX1_forget 22 = .ok (.imul, 1) := by decide +kernel
theorem dX1_forget_23 : decode cX1_forget 23 = .ok (.iload_n 2, 1) := by decide +kernel
theorem dX1_forget_24 : decode cX1_forget 24 = .ok (.iadd, 1) := by decide +kernel
theorem dX1_forget_25 : decode cX1_forget 25 = .ok (.iconst (-1), 1) := by decide +kernel
theorem dX1_forget_26 : decode cX1_forget 26 = .ok (.iastore, 1) := by decide +kernel
theorem dX1_forget_27 : decode cX1_forget 27 = .ok (.iinc 2 1, 3) := by decide +kernel
theorem dX1_forget_30 : decode cX1_forget 30 = .ok (.goto (-21), 3) := by decide +kernel
theorem dX1_forget_33 : decode cX1_forget 33 = .ok (.return_, 1) := by decide +kernel
set_option maxRecDepth 20000 in
theorem ggX1_forgetAll_X1_forget : GoodIn wsX1_forgetAll wsX1_forget := goodIn_r _ [6, 1, 7, 8, 9, 10, 11, 12, 13] (by decide +kernel) (by decide +kernel)
set_option maxRecDepth 20000 in
theorem gX1_forgetAll_X1_forget : GoodIn wsX1_forgetAll (wsV RX1 45 RX1 yX1_forget wsX1_forget) := goodIn_app (goodIn_of _ (by decide +kernel)) ggX1_forgetAll_X1_forget
theorem dX1_forgetAll_0 : decode cX1_forgetAll 0 = .ok (.iconst 0, 1) := by decide +kernel
theorem dX1_forgetAll_1 : decode cX1_forgetAll 1 = .ok (.istore_n 1, 1) := by decide +kernel
theorem dX1_forgetAll_2 : decode cX1_forgetAll 2 = .ok (.iload_n 1, 1) := by decide +kernel
theorem dX1_forgetAll_3 : decode cX1_forgetAll 3 = .ok (.aload_n 0, 1) := by decide +kernel
theorem dX1_forgetAll_4 : decode cX1_forgetAll 4 = .ok (.getfield 15, 3) := by decide +kernel
theorem dX1_forgetAll_7 : decode cX1_forgetAll 7 = .ok (.arraylength, 1) := by decide +kernel
theorem dX1_forgetAll_8 : decode cX1_forgetAll 8 = .ok (.if_icmp .ge 14, 3) := by decide +kernel
theorem dX1_forgetAll_11 : decode cX1_forgetAll 11 = .ok (.aload_n 0, 1) := by decide +kernel
theorem dX1_forgetAll_12 : decode cX1_forgetAll 12 = .ok (.iload_n 1, 1) := by decide +kernel
theorem dX1_forgetAll_13 : decode cX1_forgetAll 13 = .ok (.invokevirtual 45, 3) := by decide +kernel
theorem dX1_forgetAll_16 : decode cX1_forgetAll 16 = .ok (.iinc 1 1, 3) := by decide +kernel
theorem dX1_forgetAll_19 : decode cX1_forgetAll 19 = .ok (.goto (-17), 3) := by decide +kernel
theorem dX1_forgetAll_22 : decode cX1_forgetAll 22 = .ok (.return_, 1) := by decide +kernel
set_option maxRecDepth 20000 in
theorem ggX1_bytesOf_X2_bytesWith : GoodIn wsX1_bytesOf wsX2_bytesWith := goodIn_r _ [5] (by decide +kernel) (by decide +kernel)
set_option maxRecDepth 20000 in
theorem gX1_bytesOf_X2_bytesWith : GoodIn wsX1_bytesOf (va_wsS RX1 49 yX2_bytesWith wsX2_bytesWith) := goodIn_app (goodIn_of _ (by decide +kernel)) ggX1_bytesOf_X2_bytesWith
theorem dX1_bytesOf_0 : decode cX1_bytesOf 0 = .ok (.aload_n 0, 1) := by decide +kernel
theorem dX1_bytesOf_1 : decode cX1_bytesOf 1 = .ok (.getfield 28, 3) := by decide +kernel
theorem dX1_bytesOf_4 : decode cX1_bytesOf 4 = .ok (.iload_n 1, 1) := by decide +kernel
theorem dX1_bytesOf_5 : decode cX1_bytesOf 5 = .ok (.iaload, 1) := by decide +kernel
theorem dX1_bytesOf_6 : decode cX1_bytesOf 6 = .ok (.invokestatic 49, 3) := by decide +kernel
theorem dX1_bytesOf_9 : decode cX1_bytesOf 9 = .ok (.ireturn, 1) := by decide +kernel
theorem dX1_slotAt_0 : decode cX1_slotAt 0 = .ok (.iconst (-1), 1) := by decide +kernel
theorem dX1_slotAt_1 : decode cX1_slotAt 1 = .ok (.istore_n 3, 1) := by decide +kernel
theorem dX1_slotAt_2 : decode cX1_slotAt 2 = .ok (.iconst 0, 1) := by decide +kernel
theorem dX1_slotAt_3 : decode cX1_slotAt 3 = .ok (.istore 4, 2) := by decide +kernel
theorem dX1_slotAt_5 : decode cX1_slotAt 5 = .ok (.iload 4, 2) := by decide +kernel
theorem dX1_slotAt_7 : decode cX1_slotAt 7 = .ok (.aload_n 0, 1) := by decide +kernel
theorem dX1_slotAt_8 : decode cX1_slotAt 8 = .ok (.getfield 22, 3) := by decide +kernel
theorem dX1_slotAt_11 : decode cX1_slotAt 11 = .ok (.arraylength, 1) := by decide +kernel
theorem dX1_slotAt_12 : decode cX1_slotAt 12 = .ok (.if_icmp .ge 55, 3) := by decide +kernel
theorem dX1_slotAt_15 : decode cX1_slotAt 15 = .ok (.aload_n 0, 1) := by decide +kernel
theorem dX1_slotAt_16 : decode cX1_slotAt 16 = .ok (.getfield 22, 3) := by decide +kernel
theorem dX1_slotAt_19 : decode cX1_slotAt 19 = .ok (.iload 4, 2) := by decide +kernel
theorem dX1_slotAt_21 : decode cX1_slotAt 21 = .ok (.iaload, 1) := by decide +kernel
theorem dX1_slotAt_22 : decode cX1_slotAt 22 = .ok (.iload_n 1, 1) := by decide +kernel
theorem dX1_slotAt_23 : decode cX1_slotAt 23 = .ok (.if_icmp .ne 38, 3) := by decide +kernel
theorem dX1_slotAt_26 : decode cX1_slotAt 26 = .ok (.aload_n 0, 1) := by decide +kernel
theorem dX1_slotAt_27 : decode cX1_slotAt 27 = .ok (.getfield 25, 3) := by decide +kernel
theorem dX1_slotAt_30 : decode cX1_slotAt 30 = .ok (.iload 4, 2) := by decide +kernel
theorem dX1_slotAt_32 : decode cX1_slotAt 32 = .ok (.iaload, 1) := by decide +kernel
theorem dX1_slotAt_33 : decode cX1_slotAt 33 = .ok (.iload_n 2, 1) := by decide +kernel
theorem dX1_slotAt_34 : decode cX1_slotAt 34 = .ok (.if_icmp .gt 27, 3) := by decide +kernel
theorem dX1_slotAt_37 : decode cX1_slotAt 37 = .ok (.iload_n 3, 1) := by decide +kernel
theorem dX1_slotAt_38 : decode cX1_slotAt 38 = .ok (.iconst (-1), 1) := by decide +kernel
theorem dX1_slotAt_39 : decode cX1_slotAt 39 = .ok (.if_icmp .eq 19, 3) := by decide +kernel
theorem dX1_slotAt_42 : decode cX1_slotAt 42 = .ok (.aload_n 0, 1) := by decide +kernel
theorem dX1_slotAt_43 : decode cX1_slotAt 43 = .ok (.getfield 25, 3) := by decide +kernel
theorem dX1_slotAt_46 : decode cX1_slotAt 46 = .ok (.iload 4, 2) := by decide +kernel
theorem dX1_slotAt_48 : decode cX1_slotAt 48 = .ok (.iaload, 1) := by decide +kernel
theorem dX1_slotAt_49 : decode cX1_slotAt 49 = .ok (.aload_n 0, 1) := by decide +kernel
theorem dX1_slotAt_50 : decode cX1_slotAt 50 = .ok (.getfield 25, 3) := by decide +kernel
theorem dX1_slotAt_53 : decode cX1_slotAt 53 = .ok (.iload_n 3, 1) := by decide +kernel
theorem dX1_slotAt_54 : decode cX1_slotAt 54 = .ok (.iaload, 1) := by decide +kernel
theorem dX1_slotAt_55 : decode cX1_slotAt 55 = .ok (.if_icmp .le 6, 3) := by decide +kernel
theorem dX1_slotAt_58 : decode cX1_slotAt 58 = .ok (.iload 4, 2) := by decide +kernel
theorem dX1_slotAt_60 : decode cX1_slotAt 60 = .ok (.istore_n 3, 1) := by decide +kernel
theorem dX1_slotAt_61 : decode cX1_slotAt 61 = .ok (.iinc 4 1, 3) := by decide +kernel
theorem dX1_slotAt_64 : decode cX1_slotAt 64 = .ok (.goto (-59), 3) := by decide +kernel
theorem dX1_slotAt_67 : decode cX1_slotAt 67 = .ok (.iload_n 3, 1) := by decide +kernel
theorem dX1_slotAt_68 : decode cX1_slotAt 68 = .ok (.ireturn, 1) := by decide +kernel
set_option maxRecDepth 20000 in
theorem ggX1_keysWithSomething_X1_slotAt : GoodIn wsX1_keysWithSomething wsX1_slotAt := goodIn_r _ [7, 1, 8, 9, 10, 11, 12, 13, 14] (by decide +kernel) (by decide +kernel)
set_option maxRecDepth 20000 in
theorem gX1_keysWithSomething_X1_slotAt : GoodIn wsX1_keysWithSomething (wsV RX1 53 RX1 yX1_slotAt wsX1_slotAt) := goodIn_app (goodIn_of _ (by decide +kernel)) ggX1_keysWithSomething_X1_slotAt
theorem dX1_keysWithSomething_0 : decode cX1_keysWithSomething 0 = .ok (.iconst 0, 1) := by decide +kernel
theorem dX1_keysWithSomething_1 : decode cX1_keysWithSomething 1 = .ok (.istore_n 2, 1) := by decide +kernel
theorem dX1_keysWithSomething_2 : decode cX1_keysWithSomething 2 = .ok (.iconst 0, 1) := by decide +kernel
theorem dX1_keysWithSomething_3 : decode cX1_keysWithSomething 3 = .ok (.istore_n 3, 1) := by decide +kernel
theorem dX1_keysWithSomething_4 : decode cX1_keysWithSomething 4 = .ok (.iload_n 3, 1) := by decide +kernel
theorem dX1_keysWithSomething_5 : decode cX1_keysWithSomething 5 = .ok (.aload_n 0, 1) := by decide +kernel
theorem dX1_keysWithSomething_6 : decode cX1_keysWithSomething 6 = .ok (.getfield 22, 3) := by decide +kernel
theorem dX1_keysWithSomething_9 : decode cX1_keysWithSomething 9 = .ok (.arraylength, 1) := by decide +kernel
theorem dX1_keysWithSomething_10 : decode cX1_keysWithSomething 10 = .ok (.if_icmp .ge 46, 3) := by decide +kernel
theorem dX1_keysWithSomething_13 : decode cX1_keysWithSomething 13 = .ok (.aload_n 0, 1) := by decide +kernel
theorem dX1_keysWithSomething_14 : decode cX1_keysWithSomething 14 = .ok (.getfield 22, 3) := by decide +kernel
theorem dX1_keysWithSomething_17 : decode cX1_keysWithSomething 17 = .ok (.iload_n 3, 1) := by decide +kernel
theorem dX1_keysWithSomething_18 : decode cX1_keysWithSomething 18 = .ok (.iaload, 1) := by decide +kernel
theorem dX1_keysWithSomething_19 : decode cX1_keysWithSomething 19 = .ok (.iconst (-1), 1) := by decide +kernel
theorem dX1_keysWithSomething_20 : decode cX1_keysWithSomething 20 = .ok (.if_icmp .eq 30, 3) := by decide +kernel
theorem dX1_keysWithSomething_23 : decode cX1_keysWithSomething 23 = .ok (.aload_n 0, 1) := by decide +kernel
theorem dX1_keysWithSomething_24 : decode cX1_keysWithSomething 24 = .ok (.getfield 31, 3) := by decide +kernel
theorem dX1_keysWithSomething_27 : decode cX1_keysWithSomething 27 = .ok (.iload_n 3, 1) := by decide +kernel
theorem dX1_keysWithSomething_28 : decode cX1_keysWithSomething 28 = .ok (.baload, 1) := by decide +kernel
theorem dX1_keysWithSomething_29 : decode cX1_keysWithSomething 29 = .ok (.ifCond .ne 21, 3) := by decide +kernel
theorem dX1_keysWithSomething_32 : decode cX1_keysWithSomething 32 = .ok (.aload_n 0, 1) := by decide +kernel
theorem dX1_keysWithSomething_33 : decode cX1_keysWithSomething 33 = .ok (.aload_n 0, 1) := by decide +kernel
theorem dX1_keysWithSomething_34 : decode cX1_keysWithSomething 34 = .ok (.getfield 22, 3) := by decide +kernel
theorem dX1_keysWithSomething_37 : decode cX1_keysWithSomething 37 = .ok (.iload_n 3, 1) := by decide +kernel
theorem dX1_keysWithSomething_38 : decode cX1_keysWithSomething 38 = .ok (.iaload, 1) := by decide +kernel
theorem dX1_keysWithSomething_39 : decode cX1_keysWithSomething 39 = .ok (.iload_n 1, 1) := by decide +kernel
theorem dX1_keysWithSomething_40 : decode cX1_keysWithSomething 40 = .ok (.invokevirtual 53, 3) := by decide +kernel
theorem dX1_keysWithSomething_43 : decode cX1_keysWithSomething 43 = .ok (.iload_n 3, 1) := by decide +kernel
theorem dX1_keysWithSomething_44 : decode cX1_keysWithSomething 44 = .ok (.if_icmp .ne 6, 3) := by decide +kernel
theorem dX1_keysWithSomething_47 : decode cX1_keysWithSomething 47 = .ok (.iinc 2 1, 3) := by decide +kernel
theorem dX1_keysWithSomething_50 : decode cX1_keysWithSomething 50 = .ok (.iinc 3 1, 3) := by decide +kernel
theorem dX1_keysWithSomething_53 : decode cX1_keysWithSomething 53 = .ok (.goto (-49), 3) := by decide +kernel
theorem dX1_keysWithSomething_56 : decode cX1_keysWithSomething 56 = .ok (.iload_n 2, 1) := by decide +kernel
theorem dX1_keysWithSomething_57 : decode cX1_keysWithSomething 57 = .ok (.ireturn, 1) := by decide +kernel
set_option maxRecDepth 20000 in
theorem ggX1_livingBytes_X1_lives : GoodIn wsX1_livingBytes wsX1_lives := goodIn_r _ [5, 6, 7, 8, 9, 10, 11, 12, 13, 14, 15, 16, 17, 18, 19, 29, 30, 31, 32, 33, 34, 35, 36] (by decide +kernel) (by decide +kernel)
set_option maxRecDepth 20000 in
theorem gX1_livingBytes_X1_lives : GoodIn wsX1_livingBytes (wsV RX1 57 RX1 yX1_lives wsX1_lives) := goodIn_app (goodIn_of _ (by decide +kernel)) ggX1_livingBytes_X1_lives
set_option maxRecDepth 20000 in
theorem ggX1_livingBytes_X1_bytesOf : GoodIn wsX1_livingBytes wsX1_bytesOf := goodIn_r _ [23, 24, 25, 26, 27, 28, 29, 30, 31, 32, 33, 34] (by decide +kernel) (by decide +kernel)
set_option maxRecDepth 20000 in
theorem gX1_livingBytes_X1_bytesOf : GoodIn wsX1_livingBytes (wsV RX1 61 RX1 yX1_bytesOf wsX1_bytesOf) := goodIn_app (goodIn_of _ (by decide +kernel)) ggX1_livingBytes_X1_bytesOf
theorem dX1_livingBytes_0 : decode cX1_livingBytes 0 = .ok (.iconst 0, 1) := by decide +kernel
theorem dX1_livingBytes_1 : decode cX1_livingBytes 1 = .ok (.istore_n 3, 1) := by decide +kernel
theorem dX1_livingBytes_2 : decode cX1_livingBytes 2 = .ok (.iload_n 1, 1) := by decide +kernel
theorem dX1_livingBytes_3 : decode cX1_livingBytes 3 = .ok (.bipush 12, 2) := by decide +kernel
theorem dX1_livingBytes_5 : decode cX1_livingBytes 5 = .ok (.imul, 1) := by decide +kernel
theorem dX1_livingBytes_6 : decode cX1_livingBytes 6 = .ok (.istore 4, 2) := by decide +kernel
theorem dX1_livingBytes_8 : decode cX1_livingBytes 8 = .ok (.iload 4, 2) := by decide +kernel
theorem dX1_livingBytes_10 : decode cX1_livingBytes 10 = .ok (.iload_n 1, 1) := by decide +kernel
theorem dX1_livingBytes_11 : decode cX1_livingBytes 11 = .ok (.iconst 1, 1) := by decide +kernel
theorem dX1_livingBytes_12 : decode cX1_livingBytes 12 = .ok (.iadd, 1) := by decide +kernel
theorem dX1_livingBytes_13 : decode cX1_livingBytes 13 = .ok (.bipush 12, 2) := by decide +kernel
theorem dX1_livingBytes_15 : decode cX1_livingBytes 15 = .ok (.imul, 1) := by decide +kernel
theorem dX1_livingBytes_16 : decode cX1_livingBytes 16 = .ok (.if_icmp .ge 28, 3) := by decide +kernel
theorem dX1_livingBytes_19 : decode cX1_livingBytes 19 = .ok (.aload_n 0, 1) := by decide +kernel
theorem dX1_livingBytes_20 : decode cX1_livingBytes 20 = .ok (.iload 4, 2) := by decide +kernel
theorem dX1_livingBytes_22 : decode cX1_livingBytes 22 = .ok (.aload_n 2, 1) := by decide +kernel
theorem dX1_livingBytes_23 : decode cX1_livingBytes 23 = .ok (.invokevirtual 57, 3) := by decide +kernel
theorem dX1_livingBytes_26 : decode cX1_livingBytes 26 = .ok (.ifCond .eq 12, 3) := by decide +kernel
theorem dX1_livingBytes_29 : decode cX1_livingBytes 29 = .ok (.iload_n 3, 1) := by decide +kernel
theorem dX1_livingBytes_30 : decode cX1_livingBytes 30 = .ok (.aload_n 0, 1) := by decide +kernel
theorem dX1_livingBytes_31 : decode cX1_livingBytes 31 = .ok (.iload 4, 2) := by decide +kernel
theorem dX1_livingBytes_33 : decode cX1_livingBytes 33 = .ok (.invokevirtual 61, 3) := by decide +kernel
theorem dX1_livingBytes_36 : decode cX1_livingBytes 36 = .ok (.iadd, 1) := by decide +kernel
theorem dX1_livingBytes_37 : decode cX1_livingBytes 37 = .ok (.istore_n 3, 1) := by decide +kernel
theorem dX1_livingBytes_38 : decode cX1_livingBytes 38 = .ok (.iinc 4 1, 3) := by decide +kernel
theorem dX1_livingBytes_41 : decode cX1_livingBytes 41 = .ok (.goto (-33), 3) := by decide +kernel
theorem dX1_livingBytes_44 : decode cX1_livingBytes 44 = .ok (.iload_n 3, 1) := by decide +kernel
theorem dX1_livingBytes_45 : decode cX1_livingBytes 45 = .ok (.ireturn, 1) := by decide +kernel
set_option maxRecDepth 20000 in
theorem ggX1_lives_X4_anyWithin : GoodIn wsX1_lives wsX4_anyWithin := goodIn_r _ [12, 13, 14, 21, 22] (by decide +kernel) (by decide +kernel)
set_option maxRecDepth 20000 in
theorem gX1_lives_X4_anyWithin : GoodIn wsX1_lives (wsV RX1 69 RX4 yX4_anyWithin wsX4_anyWithin) := goodIn_app (goodIn_of _ (by decide +kernel)) ggX1_lives_X4_anyWithin
theorem dX1_lives_0 : decode cX1_lives 0 = .ok (.aload_n 0, 1) := by decide +kernel
theorem dX1_lives_1 : decode cX1_lives 1 = .ok (.getfield 22, 3) := by decide +kernel
theorem dX1_lives_4 : decode cX1_lives 4 = .ok (.iload_n 1, 1) := by decide +kernel
theorem dX1_lives_5 : decode cX1_lives 5 = .ok (.iaload, 1) := by decide +kernel
theorem dX1_lives_6 : decode cX1_lives 6 = .ok (.iconst (-1), 1) := by decide +kernel
theorem dX1_lives_7 : decode cX1_lives 7 = .ok (.if_icmp .ne 5, 3) := by decide +kernel
theorem dX1_lives_10 : decode cX1_lives 10 = .ok (.iconst 0, 1) := by decide +kernel
theorem dX1_lives_11 : decode cX1_lives 11 = .ok (.ireturn, 1) := by decide +kernel
theorem dX1_lives_12 : decode cX1_lives 12 = .ok (.iconst 0, 1) := by decide +kernel
theorem dX1_lives_13 : decode cX1_lives 13 = .ok (.istore_n 3, 1) := by decide +kernel
theorem dX1_lives_14 : decode cX1_lives 14 = .ok (.iconst 0, 1) := by decide +kernel
theorem dX1_lives_15 : decode cX1_lives 15 = .ok (.istore 4, 2) := by decide +kernel
theorem dX1_lives_17 : decode cX1_lives 17 = .ok (.iconst 0, 1) := by decide +kernel
theorem dX1_lives_18 : decode cX1_lives 18 = .ok (.istore 5, 2) := by decide +kernel
theorem dX1_lives_20 : decode cX1_lives 20 = .ok (.iconst 0, 1) := by decide +kernel
theorem dX1_lives_21 : decode cX1_lives 21 = .ok (.istore 6, 2) := by decide +kernel
theorem dX1_lives_23 : decode cX1_lives 23 = .ok (.iload 6, 2) := by decide +kernel
theorem dX1_lives_25 : decode cX1_lives 25 = .ok (.aload_n 0, 1) := by decide +kernel
theorem dX1_lives_26 : decode cX1_lives 26 = .ok (.getfield 22, 3) := by decide +kernel
theorem dX1_lives_29 : decode cX1_lives 29 = .ok (.arraylength, 1) := by decide +kernel
theorem dX1_lives_30 : decode cX1_lives 30 = .ok (.if_icmp .ge 108, 3) := by decide +kernel
theorem dX1_lives_33 : decode cX1_lives 33 = .ok (.aload_n 0, 1) := by decide +kernel
theorem dX1_lives_34 : decode cX1_lives 34 = .ok (.getfield 22, 3) := by decide +kernel
theorem dX1_lives_37 : decode cX1_lives 37 = .ok (.iload 6, 2) := by decide +kernel
theorem dX1_lives_39 : decode cX1_lives 39 = .ok (.iaload, 1) := by decide +kernel
theorem dX1_lives_40 : decode cX1_lives 40 = .ok (.aload_n 0, 1) := by decide +kernel
theorem dX1_lives_41 : decode cX1_lives 41 = .ok (.getfield 22, 3) := by decide +kernel
theorem dX1_lives_44 : decode cX1_lives 44 = .ok (.iload_n 1, 1) := by decide +kernel
theorem dX1_lives_45 : decode cX1_lives 45 = .ok (.iaload, 1) := by decide +kernel
theorem dX1_lives_46 : decode cX1_lives 46 = .ok (.if_icmp .eq 6, 3) := by decide +kernel
theorem dX1_lives_49 : decode cX1_lives 49 = .ok (.goto 83, 3) := by decide +kernel
theorem dX1_lives_52 : decode cX1_lives 52 = .ok (.aload_n 0, 1) := by decide +kernel
theorem dX1_lives_53 : decode cX1_lives 53 = .ok (.getfield 25, 3) := by decide +kernel
theorem dX1_lives_56 : decode cX1_lives 56 = .ok (.iload 6, 2) := by decide +kernel
theorem dX1_lives_58 : decode cX1_lives 58 = .ok (.iaload, 1) := by decide +kernel
theorem dX1_lives_59 : decode cX1_lives 59 = .ok (.aload_n 0, 1) := by decide +kernel
theorem dX1_lives_60 : decode cX1_lives 60 = .ok (.getfield 25, 3) := by decide +kernel
theorem dX1_lives_63 : decode cX1_lives 63 = .ok (.iload_n 1, 1) := by decide +kernel
theorem dX1_lives_64 : decode cX1_lives 64 = .ok (.iaload, 1) := by decide +kernel
theorem dX1_lives_65 : decode cX1_lives 65 = .ok (.if_icmp .ge 8, 3) := by decide +kernel
theorem dX1_lives_68 : decode cX1_lives 68 = .ok (.iconst 1, 1) := by decide +kernel
theorem dX1_lives_69 : decode cX1_lives 69 = .ok (.istore_n 3, 1) := by decide +kernel
theorem dX1_lives_70 : decode cX1_lives 70 = .ok (.goto 62, 3) := by decide +kernel
theorem dX1_lives_73 : decode cX1_lives 73 = .ok (.aload_n 0, 1) := by decide +kernel
theorem dX1_lives_74 : decode cX1_lives 74 = .ok (.getfield 25, 3) := by decide +kernel
theorem dX1_lives_77 : decode cX1_lives 77 = .ok (.iload 6, 2) := by decide +kernel
theorem dX1_lives_79 : decode cX1_lives 79 = .ok (.iaload, 1) := by decide +kernel
theorem dX1_lives_80 : decode cX1_lives 80 = .ok (.aload_n 0, 1) := by decide +kernel
theorem dX1_lives_81 : decode cX1_lives 81 = .ok (.getfield 25, 3) := by decide +kernel
theorem dX1_lives_84 : decode cX1_lives 84 = .ok (.iload_n 1, 1) := by decide +kernel
theorem dX1_lives_85 : decode cX1_lives 85 = .ok (.iaload, 1) := by decide +kernel
theorem dX1_lives_86 : decode cX1_lives 86 = .ok (.if_icmp .le 38, 3) := by decide +kernel
theorem dX1_lives_89 : decode cX1_lives 89 = .ok (.iload 4, 2) := by decide +kernel
theorem dX1_lives_91 : decode cX1_lives 91 = .ok (.ifCond .eq 18, 3) := by decide +kernel
theorem dX1_lives_94 : decode cX1_lives 94 = .ok (.iload 5, 2) := by decide +kernel
theorem dX1_lives_96 : decode cX1_lives 96 = .ok (.aload_n 0, 1) := by decide +kernel
theorem dX1_lives_97 : decode cX1_lives 97 = .ok (.getfield 25, 3) := by decide +kernel
theorem dX1_lives_100 : decode cX1_lives 100 = .ok (.iload 6, 2) := by decide +kernel
theorem dX1_lives_102 : decode cX1_lives 102 = .ok (.iaload, 1) := by decide +kernel
theorem dX1_lives_103 : decode cX1_lives 103 = .ok (.invokestatic 64, 3) := by decide +kernel
theorem dX1_lives_106 : decode cX1_lives 106 = .ok (.goto 10, 3) := by decide +kernel
theorem dX1_lives_109 : decode cX1_lives 109 = .ok (.aload_n 0, 1) := by decide +kernel
theorem dX1_lives_110 : decode cX1_lives 110 = .ok (.getfield 25, 3) := by decide +kernel
theorem dX1_lives_113 : decode cX1_lives 113 = .ok (.iload 6, 2) := by decide +kernel
theorem dX1_lives_115 : decode cX1_lives 115 = .ok (.iaload, 1) := by decide +kernel
theorem dX1_lives_116 : decode cX1_lives 116 = .ok (.istore 5, 2) := by decide +kernel
theorem dX1_lives_118 : decode cX1_lives 118 = .ok (.iconst 1, 1) := by decide +kernel
theorem dX1_lives_119 : decode cX1_lives 119 = .ok (.istore 4, 2) := by decide +kernel
theorem dX1_lives_121 : decode cX1_lives 121 = .ok (.goto 11, 3) := by decide +kernel
theorem dX1_lives_124 : decode cX1_lives 124 = .ok (.iload 6, 2) := by decide +kernel
theorem dX1_lives_126 : decode cX1_lives 126 = .ok (.iload_n 1, 1) := by decide +kernel
theorem dX1_lives_127 : decode cX1_lives 127 = .ok (.if_icmp .ge 5, 3) := by decide +kernel
theorem dX1_lives_130 : decode cX1_lives 130 = .ok (.iconst 0, 1) := by decide +kernel
theorem dX1_lives_131 : decode cX1_lives 131 = .ok (.ireturn, 1) := by decide +kernel
theorem dX1_lives_132 : decode cX1_lives 132 = .ok (.iinc 6 1, 3) := by decide +kernel
theorem dX1_lives_135 : decode cX1_lives 135 = .ok (.goto (-112), 3) := by decide +kernel
theorem dX1_lives_138 : decode cX1_lives 138 = .ok (.aload_n 0, 1) := by decide +kernel
theorem dX1_lives_139 : decode cX1_lives 139 = .ok (.getfield 31, 3) := by decide +kernel
theorem dX1_lives_142 : decode cX1_lives 142 = .ok (.iload_n 1, 1) := by decide +kernel
theorem dX1_lives_143 : decode cX1_lives 143 = .ok (.baload, 1) := by decide +kernel
theorem dX1_lives_144 : decode cX1_lives 144 = .ok (.ifCond .eq 9, 3) := by decide +kernel
theorem dX1_lives_147 : decode cX1_lives 147 = .ok (.iload_n 3, 1) := by decide +kernel
theorem dX1_lives_148 : decode cX1_lives 148 = .ok (.ifCond .ne 5, 3) := by decide +kernel
theorem dX1_lives_151 : decode cX1_lives 151 = .ok (.iconst 0, 1) := by decide +kernel
theorem dX1_lives_152 : decode cX1_lives 152 = .ok (.ireturn, 1) := by decide +kernel
theorem dX1_lives_153 : decode cX1_lives 153 = .ok (.iload 4, 2) := by decide +kernel
theorem dX1_lives_155 : decode cX1_lives 155 = .ok (.ifCond .eq 18, 3) := by decide +kernel
theorem dX1_lives_158 : decode cX1_lives 158 = .ok (.aload_n 2, 1) := by decide +kernel
theorem dX1_lives_159 : decode cX1_lives 159 = .ok (.aload_n 0, 1) := by decide +kernel
theorem dX1_lives_160 : decode cX1_lives 160 = .ok (.getfield 25, 3) := by decide +kernel
theorem dX1_lives_163 : decode cX1_lives 163 = .ok (.iload_n 1, 1) := by decide +kernel
theorem dX1_lives_164 : decode cX1_lives 164 = .ok (.iaload, 1) := by decide +kernel
theorem dX1_lives_165 : decode cX1_lives 165 = .ok (.iload 5, 2) := by decide +kernel
theorem dX1_lives_167 : decode cX1_lives 167 = .ok (.invokevirtual 69, 3) := by decide +kernel
theorem dX1_lives_170 : decode cX1_lives 170 = .ok (.ifCond .eq 7, 3) := by decide +kernel
theorem dX1_lives_173 : decode cX1_lives 173 = .ok (.iconst 1, 1) := by decide +kernel
theorem dX1_lives_174 : decode cX1_lives 174 = .ok (.goto 4, 3) := by decide +kernel
theorem dX1_lives_177 : decode cX1_lives 177 = .ok (.iconst 0, 1) := by decide +kernel
theorem dX1_lives_178 : decode cX1_lives 178 = .ok (.ireturn, 1) := by decide +kernel
theorem dX2_isKey_0 : decode cX2_isKey 0 = .ok (.iload_n 0, 1) := by decide +kernel
theorem dX2_isKey_1 : decode cX2_isKey 1 = .ok (.ifCond .lt 14, 3) := by decide +kernel
theorem dX2_isKey_4 : decode cX2_isKey 4 = .ok (.iload_n 0, 1) := by decide +kernel
theorem dX2_isKey_5 : decode cX2_isKey 5 = .ok (.sipush 1000, 3) := by decide +kernel
theorem dX2_isKey_8 : decode cX2_isKey 8 = .ok (.if_icmp .ge 7, 3) := by decide +kernel
theorem dX2_isKey_11 : decode cX2_isKey 11 = .ok (.iconst 1, 1) := by decide +kernel
theorem dX2_isKey_12 : decode cX2_isKey 12 = .ok (.goto 4, 3) := by decide +kernel
theorem dX2_isKey_15 : decode cX2_isKey 15 = .ok (.iconst 0, 1) := by decide +kernel
theorem dX2_isKey_16 : decode cX2_isKey 16 = .ok (.ireturn, 1) := by decide +kernel
theorem dX2_bytesWith_0 : decode cX2_bytesWith 0 = .ok (.bipush 8, 2) := by decide +kernel
theorem dX2_bytesWith_2 : decode cX2_bytesWith 2 = .ok (.iload_n 0, 1) := by decide +kernel
theorem dX2_bytesWith_3 : decode cX2_bytesWith 3 = .ok (.iadd, 1) := by decide +kernel
theorem dX2_bytesWith_4 : decode cX2_bytesWith 4 = .ok (.bipush 8, 2) := by decide +kernel
theorem dX2_bytesWith_6 : decode cX2_bytesWith 6 = .ok (.iadd, 1) := by decide +kernel
theorem dX2_bytesWith_7 : decode cX2_bytesWith 7 = .ok (.ireturn, 1) := by decide +kernel
theorem dX2_keyAt_0 : decode cX2_keyAt 0 = .ok (.aload_n 0, 1) := by decide +kernel
theorem dX2_keyAt_1 : decode cX2_keyAt 1 = .ok (.iload_n 1, 1) := by decide +kernel
theorem dX2_keyAt_2 : decode cX2_keyAt 2 = .ok (.iconst 1, 1) := by decide +kernel
theorem dX2_keyAt_3 : decode cX2_keyAt 3 = .ok (.iadd, 1) := by decide +kernel
theorem dX2_keyAt_4 : decode cX2_keyAt 4 = .ok (.iaload, 1) := by decide +kernel
theorem dX2_keyAt_5 : decode cX2_keyAt 5 = .ok (.bipush 8, 2) := by decide +kernel
theorem dX2_keyAt_7 : decode cX2_keyAt 7 = .ok (.ishl, 1) := by decide +kernel
theorem dX2_keyAt_8 : decode cX2_keyAt 8 = .ok (.aload_n 0, 1) := by decide +kernel
theorem dX2_keyAt_9 : decode cX2_keyAt 9 = .ok (.iload_n 1, 1) := by decide +kernel
theorem dX2_keyAt_10 : decode cX2_keyAt 10 = .ok (.iconst 2, 1) := by decide +kernel
theorem dX2_keyAt_11 : decode cX2_keyAt 11 = .ok (.iadd, 1) := by decide +kernel
theorem dX2_keyAt_12 : decode cX2_keyAt 12 = .ok (.iaload, 1) := by decide +kernel
theorem dX2_keyAt_13 : decode cX2_keyAt 13 = .ok (.ior, 1) := by decide +kernel
theorem dX2_keyAt_14 : decode cX2_keyAt 14 = .ok (.ireturn, 1) := by decide +kernel
theorem dX2_numberAt_0 : decode cX2_numberAt 0 = .ok (.aload_n 0, 1) := by decide +kernel
theorem dX2_numberAt_1 : decode cX2_numberAt 1 = .ok (.iload_n 1, 1) := by decide +kernel
theorem dX2_numberAt_2 : decode cX2_numberAt 2 = .ok (.iconst 3, 1) := by decide +kernel
theorem dX2_numberAt_3 : decode cX2_numberAt 3 = .ok (.iadd, 1) := by decide +kernel
theorem dX2_numberAt_4 : decode cX2_numberAt 4 = .ok (.iaload, 1) := by decide +kernel
theorem dX2_numberAt_5 : decode cX2_numberAt 5 = .ok (.bipush 24, 2) := by decide +kernel
theorem dX2_numberAt_7 : decode cX2_numberAt 7 = .ok (.ishl, 1) := by decide +kernel
theorem dX2_numberAt_8 : decode cX2_numberAt 8 = .ok (.aload_n 0, 1) := by decide +kernel
theorem dX2_numberAt_9 : decode cX2_numberAt 9 = .ok (.iload_n 1, 1) := by decide +kernel
theorem dX2_numberAt_10 : decode cX2_numberAt 10 = .ok (.iconst 4, 1) := by decide +kernel
theorem dX2_numberAt_11 : decode cX2_numberAt 11 = .ok (.iadd, 1) := by decide +kernel
theorem dX2_numberAt_12 : decode cX2_numberAt 12 = .ok (.iaload, 1) := by decide +kernel
theorem dX2_numberAt_13 : decode cX2_numberAt 13 = .ok (.bipush 16, 2) := by decide +kernel
theorem dX2_numberAt_15 : decode cX2_numberAt 15 = .ok (.ishl, 1) := by decide +kernel
theorem dX2_numberAt_16 : decode cX2_numberAt 16 = .ok (.ior, 1) := by decide +kernel
theorem dX2_numberAt_17 : decode cX2_numberAt 17 = .ok (.aload_n 0, 1) := by decide +kernel
theorem dX2_numberAt_18 : decode cX2_numberAt 18 = .ok (.iload_n 1, 1) := by decide +kernel
theorem dX2_numberAt_19 : decode cX2_numberAt 19 = .ok (.iconst 5, 1) := by decide +kernel
theorem dX2_numberAt_20 : decode cX2_numberAt 20 = .ok (.iadd, 1) := by decide +kernel
theorem dX2_numberAt_21 : decode cX2_numberAt 21 = .ok (.iaload, 1) := by decide +kernel
theorem dX2_numberAt_22 : decode cX2_numberAt 22 = .ok (.bipush 8, 2) := by decide +kernel
theorem dX2_numberAt_24 : decode cX2_numberAt 24 = .ok (.ishl, 1) := by decide +kernel
theorem dX2_numberAt_25 : decode cX2_numberAt 25 = .ok (.ior, 1) := by decide +kernel
theorem dX2_numberAt_26 : decode cX2_numberAt 26 = .ok (.aload_n 0, 1) := by decide +kernel
theorem dX2_numberAt_27 : decode cX2_numberAt 27 = .ok (.iload_n 1, 1) := by decide +kernel
theorem dX2_numberAt_28 : decode cX2_numberAt 28 = .ok (.bipush 6, 2) := by decide +kernel
theorem dX2_numberAt_30 : decode cX2_numberAt 30 = .ok (.iadd, 1) := by decide +kernel
theorem dX2_numberAt_31 : decode cX2_numberAt 31 = .ok (.iaload, 1) := by decide +kernel
theorem dX2_numberAt_32 : decode cX2_numberAt 32 = .ok (.ior, 1) := by decide +kernel
theorem dX2_numberAt_33 : decode cX2_numberAt 33 = .ok (.ireturn, 1) := by decide +kernel
theorem dX2_contentsCountAt_0 : decode cX2_contentsCountAt 0 = .ok (.aload_n 0, 1) := by decide +kernel
theorem dX2_contentsCountAt_1 : decode cX2_contentsCountAt 1 = .ok (.iload_n 1, 1) := by decide +kernel
theorem dX2_contentsCountAt_2 : decode cX2_contentsCountAt 2 = .ok (.bipush 7, 2) := by decide +kernel
theorem dX2_contentsCountAt_4 : decode cX2_contentsCountAt 4 = .ok (.iadd, 1) := by decide +kernel
theorem dX2_contentsCountAt_5 : decode cX2_contentsCountAt 5 = .ok (.iaload, 1) := by decide +kernel
theorem dX2_contentsCountAt_6 : decode cX2_contentsCountAt 6 = .ok (.ireturn, 1) := by decide +kernel
theorem dX2_sumOf_0 : decode cX2_sumOf 0 = .ok (.lconst 0, 1) := by decide +kernel
theorem dX2_sumOf_1 : decode cX2_sumOf 1 = .ok (.lstore_n 3, 1) := by decide +kernel
theorem dX2_sumOf_2 : decode cX2_sumOf 2 = .ok (.iload_n 1, 1) := by decide +kernel
theorem dX2_sumOf_3 : decode cX2_sumOf 3 = .ok (.istore 5, 2) := by decide +kernel
theorem dX2_sumOf_5 : decode cX2_sumOf 5 = .ok (.iload 5, 2) := by decide +kernel
theorem dX2_sumOf_7 : decode cX2_sumOf 7 = .ok (.iload_n 2, 1) := by decide +kernel
theorem dX2_sumOf_8 : decode cX2_sumOf 8 = .ok (.if_icmp .ge 34, 3) := by decide +kernel
theorem dX2_sumOf_11 : decode cX2_sumOf 11 = .ok (.lload_n 3, 1) := by decide +kernel
theorem dX2_sumOf_12 : decode cX2_sumOf 12 = .ok (.aload_n 0, 1) := by decide +kernel
theorem dX2_sumOf_13 : decode cX2_sumOf 13 = .ok (.iload 5, 2) := by decide +kernel
theorem dX2_sumOf_15 : decode cX2_sumOf 15 = .ok (.iaload, 1) := by decide +kernel
theorem dX2_sumOf_16 : decode cX2_sumOf 16 = .ok (.i2l, 1) := by decide +kernel
theorem dX2_sumOf_17 : decode cX2_sumOf 17 = .ok (.lxor, 1) := by decide +kernel
theorem dX2_sumOf_18 : decode cX2_sumOf 18 = .ok (.lstore 6, 2) := by decide +kernel
theorem dX2_sumOf_20 : decode cX2_sumOf 20 = .ok (.lload 6, 2) := by decide +kernel
theorem dX2_sumOf_22 : decode cX2_sumOf 22 = .ok (.bipush 45, 2) := by decide +kernel
theorem dX2_sumOf_24 : decode cX2_sumOf 24 = .ok (.lshl, 1) := by decide +kernel
theorem dX2_sumOf_25 : decode cX2_sumOf 25 = .ok (.lload 6, 2) := by decide +kernel
theorem dX2_sumOf_27 : decode cX2_sumOf 27 = .ok (.bipush 19, 2) := by decide +kernel
theorem dX2_sumOf_29 : decode cX2_sumOf 29 = .ok (.lushr, 1) := by decide +kernel
theorem dX2_sumOf_30 : decode cX2_sumOf 30 = .ok (.lor, 1) := by decide +kernel
theorem dX2_sumOf_31 : decode cX2_sumOf 31 = .ok (.ldc2_w 11, 3) := by decide +kernel
theorem dX2_sumOf_34 : decode cX2_sumOf 34 = .ok (.lmul, 1) := by decide +kernel
theorem dX2_sumOf_35 : decode cX2_sumOf 35 = .ok (.lstore_n 3, 1) := by decide +kernel
theorem dX2_sumOf_36 : decode cX2_sumOf 36 = .ok (.iinc 5 1, 3) := by decide +kernel
theorem dX2_sumOf_39 : decode cX2_sumOf 39 = .ok (.goto (-34), 3) := by decide +kernel
theorem dX2_sumOf_42 : decode cX2_sumOf 42 = .ok (.lload_n 3, 1) := by decide +kernel
theorem dX2_sumOf_43 : decode cX2_sumOf 43 = .ok (.lreturn, 1) := by decide +kernel
set_option maxRecDepth 20000 in
theorem ggX2_hasSum_X2_sumOf : GoodIn wsX2_hasSum wsX2_sumOf := goodIn_r _ [4, 5] (by decide +kernel) (by decide +kernel)
set_option maxRecDepth 20000 in
theorem gX2_hasSum_X2_sumOf : GoodIn wsX2_hasSum (va_wsS RX2 13 yX2_sumOf wsX2_sumOf) := goodIn_app (goodIn_of _ (by decide +kernel)) ggX2_hasSum_X2_sumOf
set_option maxRecDepth 20000 in
theorem ggX2_hasSum_X2_sumByte : GoodIn wsX2_hasSum wsX2_sumByte := goodIn_r _ [8] (by decide +kernel) (by decide +kernel)
set_option maxRecDepth 20000 in
theorem gX2_hasSum_X2_sumByte : GoodIn wsX2_hasSum (va_wsS RX2 17 yX2_sumByte wsX2_sumByte) := goodIn_app (goodIn_of _ (by decide +kernel)) ggX2_hasSum_X2_sumByte
theorem dX2_hasSum_0 : decode cX2_hasSum 0 = .ok (.aload_n 0, 1) := by decide +kernel
theorem dX2_hasSum_1 : decode cX2_hasSum 1 = .ok (.iload_n 1, 1) := by decide +kernel
theorem dX2_hasSum_2 : decode cX2_hasSum 2 = .ok (.iload_n 2, 1) := by decide +kernel
theorem dX2_hasSum_3 : decode cX2_hasSum 3 = .ok (.invokestatic 13, 3) := by decide +kernel
theorem dX2_hasSum_6 : decode cX2_hasSum 6 = .ok (.lstore_n 3, 1) := by decide +kernel
theorem dX2_hasSum_7 : decode cX2_hasSum 7 = .ok (.iconst 0, 1) := by decide +kernel
theorem dX2_hasSum_8 : decode cX2_hasSum 8 = .ok (.istore 5, 2) := by decide +kernel
theorem dX2_hasSum_10 : decode cX2_hasSum 10 = .ok (.iload 5, 2) := by decide +kernel
theorem dX2_hasSum_12 : decode cX2_hasSum 12 = .ok (.bipush 8, 2) := by decide +kernel
theorem dX2_hasSum_14 : decode cX2_hasSum 14 = .ok (.if_icmp .ge 26, 3) := by decide +kernel
theorem dX2_hasSum_17 : decode cX2_hasSum 17 = .ok (.aload_n 0, 1) := by decide +kernel
theorem dX2_hasSum_18 : decode cX2_hasSum 18 = .ok (.iload_n 2, 1) := by decide +kernel
theorem dX2_hasSum_19 : decode cX2_hasSum 19 = .ok (.iload 5, 2) := by decide +kernel
theorem dX2_hasSum_21 : decode cX2_hasSum 21 = .ok (.iadd, 1) := by decide +kernel
theorem dX2_hasSum_22 : decode cX2_hasSum 22 = .ok (.iaload, 1) := by decide +kernel
theorem dX2_hasSum_23 : decode cX2_hasSum 23 = .ok (.lload_n 3, 1) := by decide +kernel
theorem dX2_hasSum_24 : decode cX2_hasSum 24 = .ok (.iload 5, 2) := by decide +kernel
theorem dX2_hasSum_26 : decode cX2_hasSum 26 = .ok (.invokestatic 17, 3) := by decide +kernel
theorem dX2_hasSum_29 : decode cX2_hasSum 29 = .ok (.if_icmp .eq 5, 3) := by decide +kernel
theorem dX2_hasSum_32 : decode cX2_hasSum 32 = .ok (.iconst 0, 1) := by decide +kernel
theorem dX2_hasSum_33 : decode cX2_hasSum 33 = .ok (.ireturn, 1) := by decide +kernel
theorem dX2_hasSum_34 : decode cX2_hasSum 34 = .ok (.iinc 5 1, 3) := by decide +kernel
theorem dX2_hasSum_37 : decode cX2_hasSum 37 = .ok (.goto (-27), 3) := by decide +kernel
theorem dX2_hasSum_40 : decode cX2_hasSum 40 = .ok (.iconst 1, 1) := by decide +kernel
theorem dX2_hasSum_41 : decode cX2_hasSum 41 = .ok (.ireturn, 1) := by decide +kernel
theorem dX2_sumByte_0 : decode cX2_sumByte 0 = .ok (.lload_n 0, 1) := by decide +kernel
theorem dX2_sumByte_1 : decode cX2_sumByte 1 = .ok (.bipush 8, 2) := by decide +kernel
theorem dX2_sumByte_3 : decode cX2_sumByte 3 = .ok (.bipush 7, 2) := by decide +kernel
theorem dX2_sumByte_5 : decode cX2_sumByte 5 = .ok (.iload_n 2, 1) := by decide +kernel
theorem dX2_sumByte_6 : decode cX2_sumByte 6 = .ok (.isub, 1) := by decide +kernel
theorem dX2_sumByte_7 : decode cX2_sumByte 7 = .ok (.imul, 1) := by decide +kernel
theorem dX2_sumByte_8 : decode cX2_sumByte 8 = .ok (.lushr, 1) := by decide +kernel
theorem dX2_sumByte_9 : decode cX2_sumByte 9 = .ok (.l2i, 1) := by decide +kernel
theorem dX2_sumByte_10 : decode cX2_sumByte 10 = .ok (.sipush 255, 3) := by decide +kernel
theorem dX2_sumByte_13 : decode cX2_sumByte 13 = .ok (.iand, 1) := by decide +kernel
theorem dX2_sumByte_14 : decode cX2_sumByte 14 = .ok (.ireturn, 1) := by decide +kernel
set_option maxRecDepth 20000 in
theorem ggX2_behind_X2_contentsCountAt : GoodIn wsX2_behind wsX2_contentsCountAt := goodIn_r _ [4] (by decide +kernel) (by decide +kernel)
set_option maxRecDepth 20000 in
theorem gX2_behind_X2_contentsCountAt : GoodIn wsX2_behind (va_wsS RX2 21 yX2_contentsCountAt wsX2_contentsCountAt) := goodIn_app (goodIn_of _ (by decide +kernel)) ggX2_behind_X2_contentsCountAt
set_option maxRecDepth 20000 in
theorem ggX2_behind_X2_bytesWith : GoodIn wsX2_behind wsX2_bytesWith := goodIn_r _ [7] (by decide +kernel) (by decide +kernel)
set_option maxRecDepth 20000 in
theorem gX2_behind_X2_bytesWith : GoodIn wsX2_behind (va_wsS RX2 25 yX2_bytesWith wsX2_bytesWith) := goodIn_app (goodIn_of _ (by decide +kernel)) ggX2_behind_X2_bytesWith
theorem dX2_behind_0 : decode cX2_behind 0 = .ok (.aload_n 0, 1) := by decide +kernel
theorem dX2_behind_1 : decode cX2_behind 1 = .ok (.iload_n 1, 1) := by decide +kernel
theorem dX2_behind_2 : decode cX2_behind 2 = .ok (.iaload, 1) := by decide +kernel
theorem dX2_behind_3 : decode cX2_behind 3 = .ok (.iconst 1, 1) := by decide +kernel
theorem dX2_behind_4 : decode cX2_behind 4 = .ok (.if_icmp .eq 10, 3) := by decide +kernel
theorem dX2_behind_7 : decode cX2_behind 7 = .ok (.aload_n 0, 1) := by decide +kernel
theorem dX2_behind_8 : decode cX2_behind 8 = .ok (.iload_n 1, 1) := by decide +kernel
theorem dX2_behind_9 : decode cX2_behind 9 = .ok (.iaload, 1) := by decide +kernel
theorem dX2_behind_10 : decode cX2_behind 10 = .ok (.iconst 2, 1) := by decide +kernel
theorem dX2_behind_11 : decode cX2_behind 11 = .ok (.if_icmp .ne 11, 3) := by decide +kernel
theorem dX2_behind_14 : decode cX2_behind 14 = .ok (.iload_n 1, 1) := by decide +kernel
theorem dX2_behind_15 : decode cX2_behind 15 = .ok (.bipush 8, 2) := by decide +kernel
theorem dX2_behind_17 : decode cX2_behind 17 = .ok (.iadd, 1) := by decide +kernel
theorem dX2_behind_18 : decode cX2_behind 18 = .ok (.iload_n 2, 1) := by decide +kernel
theorem dX2_behind_19 : decode cX2_behind 19 = .ok (.if_icmp .le 5, 3) := by decide +kernel
theorem dX2_behind_22 : decode cX2_behind 22 = .ok (.iconst (-1), 1) := by decide +kernel
theorem dX2_behind_23 : decode cX2_behind 23 = .ok (.ireturn, 1) := by decide +kernel
theorem dX2_behind_24 : decode cX2_behind 24 = .ok (.aload_n 0, 1) := by decide +kernel
theorem dX2_behind_25 : decode cX2_behind 25 = .ok (.iload_n 1, 1) := by decide +kernel
theorem dX2_behind_26 : decode cX2_behind 26 = .ok (.invokestatic 21, 3) := by decide +kernel
theorem dX2_behind_29 : decode cX2_behind 29 = .ok (.istore_n 3, 1) := by decide +kernel
theorem dX2_behind_30 : decode cX2_behind 30 = .ok (.iload_n 3, 1) := by decide +kernel
theorem dX2_behind_31 : decode cX2_behind 31 = .ok (.bipush 20, 2) := by decide +kernel
theorem dX2_behind_33 : decode cX2_behind 33 = .ok (.if_icmp .gt 13, 3) := by decide +kernel
theorem dX2_behind_36 : decode cX2_behind 36 = .ok (.iload_n 1, 1) := by decide +kernel
theorem dX2_behind_37 : decode cX2_behind 37 = .ok (.iload_n 3, 1) := by decide +kernel
theorem dX2_behind_38 : decode cX2_behind 38 = .ok (.invokestatic 25, 3) := by decide +kernel
theorem dX2_behind_41 : decode cX2_behind 41 = .ok (.iadd, 1) := by decide +kernel
theorem dX2_behind_42 : decode cX2_behind 42 = .ok (.iload_n 2, 1) := by decide +kernel
theorem dX2_behind_43 : decode cX2_behind 43 = .ok (.if_icmp .le 5, 3) := by decide +kernel
theorem dX2_behind_46 : decode cX2_behind 46 = .ok (.iconst (-1), 1) := by decide +kernel
theorem dX2_behind_47 : decode cX2_behind 47 = .ok (.ireturn, 1) := by decide +kernel
theorem dX2_behind_48 : decode cX2_behind 48 = .ok (.iload_n 1, 1) := by decide +kernel
theorem dX2_behind_49 : decode cX2_behind 49 = .ok (.iload_n 3, 1) := by decide +kernel
theorem dX2_behind_50 : decode cX2_behind 50 = .ok (.invokestatic 25, 3) := by decide +kernel
theorem dX2_behind_53 : decode cX2_behind 53 = .ok (.iadd, 1) := by decide +kernel
theorem dX2_behind_54 : decode cX2_behind 54 = .ok (.ireturn, 1) := by decide +kernel
set_option maxRecDepth 20000 in
theorem ggX2_isGood_X2_behind : GoodIn wsX2_isGood wsX2_behind := goodIn_r _ [4, 5, 6, 3, 7, 8, 9, 10] (by decide +kernel) (by decide +kernel)
set_option maxRecDepth 20000 in
theorem gX2_isGood_X2_behind : GoodIn wsX2_isGood (va_wsS RX2 29 yX2_behind wsX2_behind) := goodIn_app (goodIn_of _ (by decide +kernel)) ggX2_isGood_X2_behind
set_option maxRecDepth 20000 in
theorem ggX2_isGood_X2_keyAt : GoodIn wsX2_isGood wsX2_keyAt := goodIn_r _ [13] (by decide +kernel) (by decide +kernel)
set_option maxRecDepth 20000 in
theorem gX2_isGood_X2_keyAt : GoodIn wsX2_isGood (va_wsS RX2 33 yX2_keyAt wsX2_keyAt) := goodIn_app (goodIn_of _ (by decide +kernel)) ggX2_isGood_X2_keyAt
set_option maxRecDepth 20000 in
theorem ggX2_isGood_X2_isKey : GoodIn wsX2_isGood wsX2_isKey := goodIn_r _ [16] (by decide +kernel) (by decide +kernel)
set_option maxRecDepth 20000 in
theorem gX2_isGood_X2_isKey : GoodIn wsX2_isGood (va_wsS RX2 36 yX2_isKey wsX2_isKey) := goodIn_app (goodIn_of _ (by decide +kernel)) ggX2_isGood_X2_isKey
set_option maxRecDepth 20000 in
theorem ggX2_isGood_X2_numberAt : GoodIn wsX2_isGood wsX2_numberAt := goodIn_r _ [19] (by decide +kernel) (by decide +kernel)
set_option maxRecDepth 20000 in
theorem gX2_isGood_X2_numberAt : GoodIn wsX2_isGood (va_wsS RX2 40 yX2_numberAt wsX2_numberAt) := goodIn_app (goodIn_of _ (by decide +kernel)) ggX2_isGood_X2_numberAt
set_option maxRecDepth 20000 in
theorem ggX2_isGood_X2_contentsCountAt : GoodIn wsX2_isGood wsX2_contentsCountAt := goodIn_r _ [7] (by decide +kernel) (by decide +kernel)
set_option maxRecDepth 20000 in
theorem gX2_isGood_X2_contentsCountAt : GoodIn wsX2_isGood (va_wsS RX2 21 yX2_contentsCountAt wsX2_contentsCountAt) := goodIn_app (goodIn_of _ (by decide +kernel)) ggX2_isGood_X2_contentsCountAt
set_option maxRecDepth 20000 in
theorem ggX2_isGood_X2_hasSum : GoodIn wsX2_isGood wsX2_hasSum := goodIn_r _ [22, 23, 24, 3, 25, 26, 27, 28, 29] (by decide +kernel) (by decide +kernel)
set_option maxRecDepth 20000 in
theorem gX2_isGood_X2_hasSum : GoodIn wsX2_isGood (va_wsS RX2 43 yX2_hasSum wsX2_hasSum) := goodIn_app (goodIn_of _ (by decide +kernel)) ggX2_isGood_X2_hasSum
theorem dX2_isGood_0 : decode cX2_isGood 0 = .ok (.aload_n 0, 1) := by decide +kernel
theorem dX2_isGood_1 : decode cX2_isGood 1 = .ok (.iload_n 1, 1) := by decide +kernel
theorem dX2_isGood_2 : decode cX2_isGood 2 = .ok (.iload_n 2, 1) := by decide +kernel
theorem dX2_isGood_3 : decode cX2_isGood 3 = .ok (.invokestatic 29, 3) := by decide +kernel
theorem dX2_isGood_6 : decode cX2_isGood 6 = .ok (.istore_n 3, 1) := by decide +kernel
theorem dX2_isGood_7 : decode cX2_isGood 7 = .ok (.iload_n 3, 1) := by decide +kernel
theorem dX2_isGood_8 : decode cX2_isGood 8 = .ok (.iconst (-1), 1) := by decide +kernel
theorem dX2_isGood_9 : decode cX2_isGood 9 = .ok (.if_icmp .eq 22, 3) := by decide +kernel
theorem dX2_isGood_12 : decode cX2_isGood 12 = .ok (.aload_n 0, 1) := by decide +kernel
theorem dX2_isGood_13 : decode cX2_isGood 13 = .ok (.iload_n 1, 1) := by decide +kernel
theorem dX2_isGood_14 : decode cX2_isGood 14 = .ok (.invokestatic 33, 3) := by decide +kernel
theorem dX2_isGood_17 : decode cX2_isGood 17 = .ok (.invokestatic 36, 3) := by decide +kernel
theorem dX2_isGood_20 : decode cX2_isGood 20 = .ok (.ifCond .eq 11, 3) := by decide +kernel
theorem dX2_isGood_23 : decode cX2_isGood 23 = .ok (.aload_n 0, 1) := by decide +kernel
theorem dX2_isGood_24 : decode cX2_isGood 24 = .ok (.iload_n 1, 1) := by decide +kernel
theorem dX2_isGood_25 : decode cX2_isGood 25 = .ok (.invokestatic 40, 3) := by decide +kernel
theorem dX2_isGood_28 : decode cX2_isGood 28 = .ok (.ifCond .gt 5, 3) := by decide +kernel
theorem dX2_isGood_31 : decode cX2_isGood 31 = .ok (.iconst 0, 1) := by decide +kernel
theorem dX2_isGood_32 : decode cX2_isGood 32 = .ok (.ireturn, 1) := by decide +kernel
theorem dX2_isGood_33 : decode cX2_isGood 33 = .ok (.aload_n 0, 1) := by decide +kernel
theorem dX2_isGood_34 : decode cX2_isGood 34 = .ok (.iload_n 1, 1) := by decide +kernel
theorem dX2_isGood_35 : decode cX2_isGood 35 = .ok (.iaload, 1) := by decide +kernel
theorem dX2_isGood_36 : decode cX2_isGood 36 = .ok (.iconst 2, 1) := by decide +kernel
theorem dX2_isGood_37 : decode cX2_isGood 37 = .ok (.if_icmp .ne 13, 3) := by decide +kernel
theorem dX2_isGood_40 : decode cX2_isGood 40 = .ok (.aload_n 0, 1) := by decide +kernel
theorem dX2_isGood_41 : decode cX2_isGood 41 = .ok (.iload_n 1, 1) := by decide +kernel
theorem dX2_isGood_42 : decode cX2_isGood 42 = .ok (.invokestatic 21, 3) := by decide +kernel
theorem dX2_isGood_45 : decode cX2_isGood 45 = .ok (.ifCond .eq 5, 3) := by decide +kernel
theorem dX2_isGood_48 : decode cX2_isGood 48 = .ok (.iconst 0, 1) := by decide +kernel
theorem dX2_isGood_49 : decode cX2_isGood 49 = .ok (.ireturn, 1) := by decide +kernel
theorem dX2_isGood_50 : decode cX2_isGood 50 = .ok (.aload_n 0, 1) := by decide +kernel
theorem dX2_isGood_51 : decode cX2_isGood 51 = .ok (.iload_n 1, 1) := by decide +kernel
theorem dX2_isGood_52 : decode cX2_isGood 52 = .ok (.iload_n 3, 1) := by decide +kernel
theorem dX2_isGood_53 : decode cX2_isGood 53 = .ok (.bipush 8, 2) := by decide +kernel
theorem dX2_isGood_55 : decode cX2_isGood 55 = .ok (.isub, 1) := by decide +kernel
theorem dX2_isGood_56 : decode cX2_isGood 56 = .ok (.invokestatic 43, 3) := by decide +kernel
theorem dX2_isGood_59 : decode cX2_isGood 59 = .ok (.ireturn, 1) := by decide +kernel
theorem dX3_init_0 : decode cX3_init 0 = .ok (.aload_n 0, 1) := by decide +kernel
theorem dX3_init_1 : decode cX3_init 1 = .ok (.invokespecial 3, 3) := by decide +kernel
theorem dX3_init_4 : decode cX3_init 4 = .ok (.aload_n 0, 1) := by decide +kernel
theorem dX3_init_5 : decode cX3_init 5 = .ok (.iconst (-1), 1) := by decide +kernel
theorem dX3_init_6 : decode cX3_init 6 = .ok (.putfield 9, 3) := by decide +kernel
theorem dX3_init_9 : decode cX3_init 9 = .ok (.aload_n 0, 1) := by decide +kernel
theorem dX3_init_10 : decode cX3_init 10 = .ok (.iload_n 1, 1) := by decide +kernel
theorem dX3_init_11 : decode cX3_init 11 = .ok (.putfield 15, 3) := by decide +kernel
theorem dX3_init_14 : decode cX3_init 14 = .ok (.aload_n 0, 1) := by decide +kernel
theorem dX3_init_15 : decode cX3_init 15 = .ok (.iload_n 1, 1) := by decide +kernel
theorem dX3_init_16 : decode cX3_init 16 = .ok (.sipush 200, 3) := by decide +kernel
theorem dX3_init_19 : decode cX3_init 19 = .ok (.imul, 1) := by decide +kernel
theorem dX3_init_20 : decode cX3_init 20 = .ok (.newarray .int, 2) := by decide +kernel
theorem dX3_init_22 : decode cX3_init 22 = .ok (.putfield 18, 3) := by decide +kernel
theorem dX3_init_25 : decode cX3_init 25 = .ok (.aload_n 0, 1) := by decide +kernel
theorem dX3_init_26 : decode cX3_init 26 = .ok (.iload_n 1, 1) := by decide +kernel
theorem dX3_init_27 : decode cX3_init 27 = .ok (.newarray .int, 2) := by decide +kernel
theorem dX3_init_29 : decode cX3_init 29 = .ok (.putfield 22, 3) := by decide +kernel
theorem dX3_init_32 : decode cX3_init 32 = .ok (.aload_n 0, 1) := by decide +kernel
theorem dX3_init_33 : decode cX3_init 33 = .ok (.iload_n 1, 1) := by decide +kernel
theorem dX3_init_34 : decode cX3_init 34 = .ok (.sipush 200, 3) := by decide +kernel
theorem dX3_init_37 : decode cX3_init 37 = .ok (.imul, 1) := by decide +kernel
theorem dX3_init_38 : decode cX3_init 38 = .ok (.newarray .int, 2) := by decide +kernel
theorem dX3_init_40 : decode cX3_init 40 = .ok (.putfield 25, 3) := by decide +kernel
theorem dX3_init_43 : decode cX3_init 43 = .ok (.return_, 1) := by decide +kernel
theorem dX3_has_0 : decode cX3_has 0 = .ok (.iload_n 1, 1) := by decide +kernel
theorem dX3_has_1 : decode cX3_has 1 = .ok (.ifCond .lt 15, 3) := by decide +kernel
theorem dX3_has_4 : decode cX3_has 4 = .ok (.iload_n 1, 1) := by decide +kernel
theorem dX3_has_5 : decode cX3_has 5 = .ok (.aload_n 0, 1) := by decide +kernel
theorem dX3_has_6 : decode cX3_has 6 = .ok (.getfield 15, 3) := by decide +kernel
theorem dX3_has_9 : decode cX3_has 9 = .ok (.if_icmp .ge 7, 3) := by decide +kernel
theorem dX3_has_12 : decode cX3_has 12 = .ok (.iconst 1, 1) := by decide +kernel
theorem dX3_has_13 : decode cX3_has 13 = .ok (.goto 4, 3) := by decide +kernel
theorem dX3_has_16 : decode cX3_has 16 = .ok (.iconst 0, 1) := by decide +kernel
theorem dX3_has_17 : decode cX3_has 17 = .ok (.ireturn, 1) := by decide +kernel
theorem dX3_isFree_0 : decode cX3_isFree 0 = .ok (.aload_n 0, 1) := by decide +kernel
theorem dX3_isFree_1 : decode cX3_isFree 1 = .ok (.getfield 18, 3) := by decide +kernel
theorem dX3_isFree_4 : decode cX3_isFree 4 = .ok (.iload_n 1, 1) := by decide +kernel
theorem dX3_isFree_5 : decode cX3_isFree 5 = .ok (.sipush 200, 3) := by decide +kernel
theorem dX3_isFree_8 : decode cX3_isFree 8 = .ok (.imul, 1) := by decide +kernel
theorem dX3_isFree_9 : decode cX3_isFree 9 = .ok (.iaload, 1) := by decide +kernel
theorem dX3_isFree_10 : decode cX3_isFree 10 = .ok (.ifCond .ne 7, 3) := by decide +kernel
theorem dX3_isFree_13 : decode cX3_isFree 13 = .ok (.iconst 1, 1) := by decide +kernel
theorem dX3_isFree_14 : decode cX3_isFree 14 = .ok (.goto 4, 3) := by decide +kernel
theorem dX3_isFree_17 : decode cX3_isFree 17 = .ok (.iconst 0, 1) := by decide +kernel
theorem dX3_isFree_18 : decode cX3_isFree 18 = .ok (.ireturn, 1) := by decide +kernel
set_option maxRecDepth 20000 in
theorem ggX3_leastFree_X3_isFree : GoodIn wsX3_leastFree wsX3_isFree := goodIn_r _ [6, 7, 8, 9, 10, 11, 12, 13] (by decide +kernel) (by decide +kernel)
set_option maxRecDepth 20000 in
theorem gX3_leastFree_X3_isFree : GoodIn wsX3_leastFree (wsV RX3 28 RX3 yX3_isFree wsX3_isFree) := goodIn_app (goodIn_of _ (by decide +kernel)) ggX3_leastFree_X3_isFree
theorem dX3_leastFree_0 : decode cX3_leastFree 0 = .ok (.iconst 0, 1) := by decide +kernel
theorem dX3_leastFree_1 : decode cX3_leastFree 1 = .ok (.istore_n 1, 1) := by decide +kernel
theorem dX3_leastFree_2 : decode cX3_leastFree 2 = .ok (.iload_n 1, 1) := by decide +kernel
theorem dX3_leastFree_3 : decode cX3_leastFree 3 = .ok (.aload_n 0, 1) := by decide +kernel
theorem dX3_leastFree_4 : decode cX3_leastFree 4 = .ok (.getfield 15, 3) := by decide +kernel
theorem dX3_leastFree_7 : decode cX3_leastFree 7 = .ok (.if_icmp .ge 19, 3) := by decide +kernel
theorem dX3_leastFree_10 : decode cX3_leastFree 10 = .ok (.aload_n 0, 1) := by decide +kernel
theorem dX3_leastFree_11 : decode cX3_leastFree 11 = .ok (.iload_n 1, 1) := by decide +kernel
theorem dX3_leastFree_12 : decode cX3_leastFree 12 = .ok (.invokevirtual 28, 3) := by decide +kernel
theorem dX3_leastFree_15 : decode cX3_leastFree 15 = .ok (.ifCond .eq 5, 3) := by decide +kernel
theorem dX3_leastFree_18 : decode cX3_leastFree 18 = .ok (.iload_n 1, 1) := by decide +kernel
theorem dX3_leastFree_19 : decode cX3_leastFree 19 = .ok (.ireturn, 1) := by decide +kernel
theorem dX3_leastFree_20 : decode cX3_leastFree 20 = .ok (.iinc 1 1, 3) := by decide +kernel
theorem dX3_leastFree_23 : decode cX3_leastFree 23 = .ok (.goto (-21), 3) := by decide +kernel
theorem dX3_leastFree_26 : decode cX3_leastFree 26 = .ok (.iconst (-1), 1) := by decide +kernel
theorem dX3_leastFree_27 : decode cX3_leastFree 27 = .ok (.ireturn, 1) := by decide +kernel
set_option maxRecDepth 20000 in
theorem ggX3_inUseCount_X3_isFree : GoodIn wsX3_inUseCount wsX3_isFree := goodIn_r _ [6, 7, 8, 9, 10, 11, 12, 13] (by decide +kernel) (by decide +kernel)
set_option maxRecDepth 20000 in
theorem gX3_inUseCount_X3_isFree : GoodIn wsX3_inUseCount (wsV RX3 28 RX3 yX3_isFree wsX3_isFree) := goodIn_app (goodIn_of _ (by decide +kernel)) ggX3_inUseCount_X3_isFree
theorem dX3_inUseCount_0 : decode cX3_inUseCount 0 = .ok (.iconst 0, 1) := by decide +kernel
theorem dX3_inUseCount_1 : decode cX3_inUseCount 1 = .ok (.istore_n 1, 1) := by decide +kernel
theorem dX3_inUseCount_2 : decode cX3_inUseCount 2 = .ok (.iconst 0, 1) := by decide +kernel
theorem dX3_inUseCount_3 : decode cX3_inUseCount 3 = .ok (.istore_n 2, 1) := by decide +kernel
theorem dX3_inUseCount_4 : decode cX3_inUseCount 4 = .ok (.iload_n 2, 1) := by decide +kernel
theorem dX3_inUseCount_5 : decode cX3_inUseCount 5 = .ok (.aload_n 0, 1) := by decide +kernel
theorem dX3_inUseCount_6 : decode cX3_inUseCount 6 = .ok (.getfield 15, 3) := by decide +kernel
theorem dX3_inUseCount_9 : decode cX3_inUseCount 9 = .ok (.if_icmp .ge 20, 3) := by decide +kernel
theorem dX3_inUseCount_12 : decode cX3_inUseCount 12 = .ok (.aload_n 0, 1) := by decide +kernel
theorem dX3_inUseCount_13 : decode cX3_inUseCount 13 = .ok (.iload_n 2, 1) := by decide +kernel
theorem dX3_inUseCount_14 : decode cX3_inUseCount 14 = .ok (.invokevirtual 28, 3) := by decide +kernel
theorem dX3_inUseCount_17 : decode cX3_inUseCount 17 = .ok (.ifCond .ne 6, 3) := by decide +kernel
theorem dX3_inUseCount_20 : decode cX3_inUseCount 20 = .ok (.iinc 1 1, 3) := by decide +kernel
theorem dX3_inUseCount_23 : decode cX3_inUseCount 23 = .ok (.iinc 2 1, 3) := by decide +kernel
theorem dX3_inUseCount_26 : decode cX3_inUseCount 26 = .ok (.goto (-22), 3) := by decide +kernel
theorem dX3_inUseCount_29 : decode cX3_inUseCount 29 = .ok (.iload_n 1, 1) := by decide +kernel
theorem dX3_inUseCount_30 : decode cX3_inUseCount 30 = .ok (.ireturn, 1) := by decide +kernel
theorem dX3_endOf_0 : decode cX3_endOf 0 = .ok (.iload_n 1, 1) := by decide +kernel
theorem dX3_endOf_1 : decode cX3_endOf 1 = .ok (.sipush 200, 3) := by decide +kernel
theorem dX3_endOf_4 : decode cX3_endOf 4 = .ok (.imul, 1) := by decide +kernel
theorem dX3_endOf_5 : decode cX3_endOf 5 = .ok (.aload_n 0, 1) := by decide +kernel
theorem dX3_endOf_6 : decode cX3_endOf 6 = .ok (.getfield 22, 3) := by decide +kernel
theorem dX3_endOf_9 : decode cX3_endOf 9 = .ok (.iload_n 1, 1) := by decide +kernel
theorem dX3_endOf_10 : decode cX3_endOf 10 = .ok (.iaload, 1) := by decide +kernel
theorem dX3_endOf_11 : decode cX3_endOf 11 = .ok (.iadd, 1) := by decide +kernel
theorem dX3_endOf_12 : decode cX3_endOf 12 = .ok (.ireturn, 1) := by decide +kernel
theorem dX3_roomInWritten_0 : decode cX3_roomInWritten 0 = .ok (.aload_n 0, 1) := by decide +kernel
theorem dX3_roomInWritten_1 : decode cX3_roomInWritten 1 = .ok (.getfield 9, 3) := by decide +kernel
theorem dX3_roomInWritten_4 : decode cX3_roomInWritten 4 = .ok (.iconst (-1), 1) := by decide +kernel
theorem dX3_roomInWritten_5 : decode cX3_roomInWritten 5 = .ok (.if_icmp .ne 7, 3) := by decide +kernel
theorem dX3_roomInWritten_8 : decode cX3_roomInWritten 8 = .ok (.iconst 0, 1) := by decide +kernel
theorem dX3_roomInWritten_9 : decode cX3_roomInWritten 9 = .ok (.goto 16, 3) := by decide +kernel
theorem dX3_roomInWritten_12 : decode cX3_roomInWritten 12 = .ok (.sipush 200, 3) := by decide +kernel
theorem dX3_roomInWritten_15 : decode cX3_roomInWritten 15 = .ok (.aload_n 0, 1) := by decide +kernel
theorem dX3_roomInWritten_16 : decode cX3_roomInWritten 16 = .ok (.getfield 22, 3) := by decide +kernel
theorem dX3_roomInWritten_19 : decode cX3_roomInWritten 19 = .ok (.aload_n 0, 1) := by decide +kernel
theorem dX3_roomInWritten_20 : decode cX3_roomInWritten 20 = .ok (.getfield 9, 3) := by decide +kernel
theorem dX3_roomInWritten_23 : decode cX3_roomInWritten 23 = .ok (.iaload, 1) := by decide +kernel
theorem dX3_roomInWritten_24 : decode cX3_roomInWritten 24 = .ok (.isub, 1) := by decide +kernel
theorem dX3_roomInWritten_25 : decode cX3_roomInWritten 25 = .ok (.ireturn, 1) := by decide +kernel
set_option maxRecDepth 20000 in
theorem ggX3_segmentFor_X3_roomInWritten : GoodIn wsX3_segmentFor wsX3_roomInWritten := goodIn_r _ [6, 1, 7, 18, 19, 20, 21, 22, 23] (by decide +kernel) (by decide +kernel)
set_option maxRecDepth 20000 in
theorem gX3_segmentFor_X3_roomInWritten : GoodIn wsX3_segmentFor (wsV RX3 32 RX3 yX3_roomInWritten wsX3_roomInWritten) := goodIn_app (goodIn_of _ (by decide +kernel)) ggX3_segmentFor_X3_roomInWritten
set_option maxRecDepth 20000 in
theorem ggX3_segmentFor_X3_leastFree : GoodIn wsX3_segmentFor wsX3_leastFree := goodIn_r _ [11, 12, 13, 14, 15, 5, 16, 17, 18, 19, 20, 21, 22, 23] (by decide +kernel) (by decide +kernel)
set_option maxRecDepth 20000 in
theorem gX3_segmentFor_X3_leastFree : GoodIn wsX3_segmentFor (wsV RX3 36 RX3 yX3_leastFree wsX3_leastFree) := goodIn_app (goodIn_of _ (by decide +kernel)) ggX3_segmentFor_X3_leastFree
theorem dX3_segmentFor_0 : decode cX3_segmentFor 0 = .ok (.iload_n 1, 1) := by decide +kernel
theorem dX3_segmentFor_1 : decode cX3_segmentFor 1 = .ok (.aload_n 0, 1) := by decide +kernel
theorem dX3_segmentFor_2 : decode cX3_segmentFor 2 = .ok (.invokevirtual 32, 3) := by decide +kernel
theorem dX3_segmentFor_5 : decode cX3_segmentFor 5 = .ok (.if_icmp .gt 10, 3) := by decide +kernel
theorem dX3_segmentFor_8 : decode cX3_segmentFor 8 = .ok (.aload_n 0, 1) := by decide +kernel
theorem dX3_segmentFor_9 : decode cX3_segmentFor 9 = .ok (.getfield 9, 3) := by decide +kernel
theorem dX3_segmentFor_12 : decode cX3_segmentFor 12 = .ok (.goto 7, 3) := by decide +kernel
theorem dX3_segmentFor_15 : decode cX3_segmentFor 15 = .ok (.aload_n 0, 1) := by decide +kernel
theorem dX3_segmentFor_16 : decode cX3_segmentFor 16 = .ok (.invokevirtual 36, 3) := by decide +kernel
theorem dX3_segmentFor_19 : decode cX3_segmentFor 19 = .ok (.ireturn, 1) := by decide +kernel
set_option maxRecDepth 20000 in
theorem ggX3_append_X3_roomInWritten : GoodIn wsX3_append wsX3_roomInWritten := goodIn_r _ [10, 3, 5, 15, 16, 17, 18, 19, 20] (by decide +kernel) (by decide +kernel)
set_option maxRecDepth 20000 in
theorem gX3_append_X3_roomInWritten : GoodIn wsX3_append (wsV RX3 32 RX3 yX3_roomInWritten wsX3_roomInWritten) := goodIn_app (goodIn_of _ (by decide +kernel)) ggX3_append_X3_roomInWritten
set_option maxRecDepth 20000 in
theorem ggX3_append_X3_endOf : GoodIn wsX3_append wsX3_endOf := goodIn_r _ [14, 5, 15, 16, 17, 18, 19, 20] (by decide +kernel) (by decide +kernel)
set_option maxRecDepth 20000 in
theorem gX3_append_X3_endOf : GoodIn wsX3_append (wsV RX3 42 RX3 yX3_endOf wsX3_endOf) := goodIn_app (goodIn_of _ (by decide +kernel)) ggX3_append_X3_endOf
theorem dX3_append_0 : decode cX3_append 0 = .ok (.aload_n 0, 1) := by decide +kernel
theorem dX3_append_1 : decode cX3_append 1 = .ok (.invokevirtual 32, 3) := by decide +kernel
theorem dX3_append_4 : decode cX3_append 4 = .ok (.ifCond .eq 15, 3) := by decide +kernel
theorem dX3_append_7 : decode cX3_append 7 = .ok (.aload_n 0, 1) := by decide +kernel
theorem dX3_append_8 : decode cX3_append 8 = .ok (.getfield 39, 3) := by decide +kernel
theorem dX3_append_11 : decode cX3_append 11 = .ok (.aload_n 0, 1) := by decide +kernel
theorem dX3_append_12 : decode cX3_append 12 = .ok (.getfield 25, 3) := by decide +kernel
theorem dX3_append_15 : decode cX3_append 15 = .ok (.arraylength, 1) := by decide +kernel
theorem dX3_append_16 : decode cX3_append 16 = .ok (.if_icmp .ne 4, 3) := by decide +kernel
theorem dX3_append_19 : decode cX3_append 19 = .ok (.return_, 1) := by decide +kernel
theorem dX3_append_20 : decode cX3_append 20 = .ok (.aload_n 0, 1) := by decide +kernel
theorem dX3_append_21 : decode cX3_append 21 = .ok (.aload_n 0, 1) := by decide +kernel
theorem dX3_append_22 : decode cX3_append 22 = .ok (.getfield 9, 3) := by decide +kernel
theorem dX3_append_25 : decode cX3_append 25 = .ok (.invokevirtual 42, 3) := by decide +kernel
theorem dX3_append_28 : decode cX3_append 28 = .ok (.istore_n 2, 1) := by decide +kernel
theorem dX3_append_29 : decode cX3_append 29 = .ok (.aload_n 0, 1) := by decide +kernel
theorem dX3_append_30 : decode cX3_append 30 = .ok (.getfield 18, 3) := by decide +kernel
theorem dX3_append_33 : decode cX3_append 33 = .ok (.iload_n 2, 1) := by decide +kernel
theorem dX3_append_34 : decode cX3_append 34 = .ok (.iload_n 1, 1) := by decide +kernel
theorem dX3_append_35 : decode cX3_append 35 = .ok (.iastore, 1) := by decide +kernel
theorem dX3_append_36 : decode cX3_append 36 = .ok (.aload_n 0, 1) := by decide +kernel
theorem dX3_append_37 : decode cX3_append 37 = .ok (.getfield 25, 3) := by decide +kernel
theorem dX3_append_40 : decode cX3_append 40 = .ok (.aload_n 0, 1) := by decide +kernel
theorem dX3_append_41 : decode cX3_append 41 = .ok (.getfield 39, 3) := by decide +kernel
theorem dX3_append_44 : decode cX3_append 44 = .ok (.iload_n 2, 1) := by decide +kernel
theorem dX3_append_45 : decode cX3_append 45 = .ok (.iastore, 1) := by decide +kernel
theorem dX3_append_46 : decode cX3_append 46 = .ok (.aload_n 0, 1) := by decide +kernel
theorem dX3_append_47 : decode cX3_append 47 = .ok (.dup, 1) := by decide +kernel
theorem dX3_append_48 : decode cX3_append 48 = .ok (.getfield 39, 3) := by decide +kernel
theorem dX3_append_51 : decode cX3_append 51 = .ok (.iconst 1, 1) := by decide +kernel
theorem dX3_append_52 : decode cX3_append 52 = .ok (.iadd, 1) := by decide +kernel
theorem dX3_append_53 : decode cX3_append 53 = .ok (.putfield 39, 3) := by decide +kernel
theorem dX3_append_56 : decode cX3_append 56 = .ok (.aload_n 0, 1) := by decide +kernel
theorem dX3_append_57 : decode cX3_append 57 = .ok (.getfield 22, 3) := by decide +kernel
theorem dX3_append_60 : decode cX3_append 60 = .ok (.aload_n 0, 1) := by decide +kernel
theorem dX3_append_61 : decode cX3_append 61 = .ok (.getfield 9, 3) := by decide +kernel
theorem dX3_append_64 : decode cX3_append 64 = .ok (.dup2, 1) := by decide +kernel
theorem dX3_append_65 : decode cX3_append 65 = .ok (.iaload, 1) := by decide +kernel
theorem dX3_append_66 : decode cX3_append 66 = .ok (.iconst 1, 1) := by decide +kernel
theorem dX3_append_67 : decode cX3_append 67 = .ok (.iadd, 1) := by decide +kernel
theorem dX3_append_68 : decode cX3_append 68 = .ok (.iastore, 1) := by decide +kernel
theorem dX3_append_69 : decode cX3_append 69 = .ok (.return_, 1) := by decide +kernel
theorem dX3_settle_0 : decode cX3_settle 0 = .ok (.aload_n 0, 1) := by decide +kernel
theorem dX3_settle_1 : decode cX3_settle 1 = .ok (.getfield 39, 3) := by decide +kernel
theorem dX3_settle_4 : decode cX3_settle 4 = .ok (.istore_n 1, 1) := by decide +kernel
theorem dX3_settle_5 : decode cX3_settle 5 = .ok (.aload_n 0, 1) := by decide +kernel
theorem dX3_settle_6 : decode cX3_settle 6 = .ok (.iconst 0, 1) := by decide +kernel
theorem dX3_settle_7 : decode cX3_settle 7 = .ok (.putfield 39, 3) := by decide +kernel
theorem dX3_settle_10 : decode cX3_settle 10 = .ok (.iload_n 1, 1) := by decide +kernel
theorem dX3_settle_11 : decode cX3_settle 11 = .ok (.ireturn, 1) := by decide +kernel
theorem dX3_loseBehind_0 : decode cX3_loseBehind 0 = .ok (.iconst 0, 1) := by decide +kernel
theorem dX3_loseBehind_1 : decode cX3_loseBehind 1 = .ok (.istore_n 2, 1) := by decide +kernel
theorem dX3_loseBehind_2 : decode cX3_loseBehind 2 = .ok (.iload_n 1, 1) := by decide +kernel
theorem dX3_loseBehind_3 : decode cX3_loseBehind 3 = .ok (.istore_n 3, 1) := by decide +kernel
theorem dX3_loseBehind_4 : decode cX3_loseBehind 4 = .ok (.iload_n 3, 1) := by decide +kernel
theorem dX3_loseBehind_5 : decode cX3_loseBehind 5 = .ok (.aload_n 0, 1) := by decide +kernel
theorem dX3_loseBehind_6 : decode cX3_loseBehind 6 = .ok (.getfield 39, 3) := by decide +kernel
theorem dX3_loseBehind_9 : decode cX3_loseBehind 9 = .ok (.if_icmp .ge 24, 3) := by decide +kernel
theorem dX3_loseBehind_12 : decode cX3_loseBehind 12 = .ok (.aload_n 0, 1) := by decide +kernel
theorem dX3_loseBehind_13 : decode cX3_loseBehind 13 = .ok (.getfield 18, 3) := by decide +kernel
theorem dX3_loseBehind_16 : decode cX3_loseBehind 16 = .ok (.aload_n 0, 1) := by decide +kernel
theorem dX3_loseBehind_17 : decode cX3_loseBehind 17 = .ok (.getfield 25, 3) := by decide +kernel
theorem dX3_loseBehind_20 : decode cX3_loseBehind 20 = .ok (.iload_n 3, 1) := by decide +kernel
theorem dX3_loseBehind_21 : decode cX3_loseBehind 21 = .ok (.iaload, 1) := by decide +kernel
theorem dX3_loseBehind_22 : decode cX3_loseBehind 22 = .ok (.iconst 0, 1) := by decide +kernel
theorem dX3_loseBehind_23 : decode cX3_loseBehind 23 = .ok (.iastore, 1) := by decide +kernel
theorem dX3_loseBehind_24 : decode cX3_loseBehind 24 = .ok (.iinc 2 1, 3) := by decide +kernel
theorem dX3_loseBehind_27 : decode cX3_loseBehind 27 = .ok (.iinc 3 1, 3) := by decide +kernel
theorem dX3_loseBehind_30 : decode cX3_loseBehind 30 = .ok (.goto (-26), 3) := by decide +kernel
theorem dX3_loseBehind_33 : decode cX3_loseBehind 33 = .ok (.iload_n 2, 1) := by decide +kernel
theorem dX3_loseBehind_34 : decode cX3_loseBehind 34 = .ok (.ireturn, 1) := by decide +kernel
theorem dX3_wipe_0 : decode cX3_wipe 0 = .ok (.iconst 0, 1) := by decide +kernel
theorem dX3_wipe_1 : decode cX3_wipe 1 = .ok (.istore_n 2, 1) := by decide +kernel
theorem dX3_wipe_2 : decode cX3_wipe 2 = .ok (.iload_n 2, 1) := by decide +kernel
theorem dX3_wipe_3 : decode cX3_wipe 3 = .ok (.sipush 200, 3) := by decide +kernel
theorem dX3_wipe_6 : decode cX3_wipe 6 = .ok (.if_icmp .ge 22, 3) := by decide +kernel
theorem dX3_wipe_9 : decode cX3_wipe 9 = .ok (.aload_n 0, 1) := by decide +kernel
theorem dX3_wipe_10 : decode cX3_wipe 10 = .ok (.getfield 18, 3) := by decide +kernel
theorem dX3_wipe_13 : decode cX3_wipe 13 = .ok (.iload_n 1, 1) := by decide +kernel
theorem dX3_wipe_14 : decode cX3_wipe 14 = .ok (.sipush 200, 3) := by decide +kernel
theorem dX3_wipe_17 : decode cX3_wipe 17 = .ok (.imul, 1) := by decide +kernel
theorem dX3_wipe_18 : decode cX3_wipe 18 = .ok (.iload_n 2, 1) := by decide +kernel
theorem dX3_wipe_19 : decode cX3_wipe 19 = .ok (.iadd, 1) := by decide +kernel
theorem dX3_wipe_20 : decode cX3_wipe 20 = .ok (.iconst 0, 1) := by decide +kernel
theorem dX3_wipe_21 : decode cX3_wipe 21 = .ok (.iastore, 1) := by decide +kernel
theorem dX3_wipe_22 : decode cX3_wipe 22 = .ok (.iinc 2 1, 3) := by decide +kernel
theorem dX3_wipe_25 : decode cX3_wipe 25 = .ok (.goto (-23), 3) := by decide +kernel
theorem dX3_wipe_28 : decode cX3_wipe 28 = .ok (.aload_n 0, 1) := by decide +kernel
theorem dX3_wipe_29 : decode cX3_wipe 29 = .ok (.getfield 22, 3) := by decide +kernel
theorem dX3_wipe_32 : decode cX3_wipe 32 = .ok (.iload_n 1, 1) := by decide +kernel
theorem dX3_wipe_33 : decode cX3_wipe 33 = .ok (.iconst 0, 1) := by decide +kernel
theorem dX3_wipe_34 : decode cX3_wipe 34 = .ok (.iastore, 1) := by decide +kernel
theorem dX3_wipe_35 : decode cX3_wipe 35 = .ok (.return_, 1) := by decide +kernel
theorem dX4_init_0 : decode cX4_init 0 = .ok (.aload_n 0, 1) := by decide +kernel
theorem dX4_init_1 : decode cX4_init 1 = .ok (.invokespecial 3, 3) := by decide +kernel
theorem dX4_init_4 : decode cX4_init 4 = .ok (.aload_n 0, 1) := by decide +kernel
theorem dX4_init_5 : decode cX4_init 5 = .ok (.iconst 4, 1) := by decide +kernel
theorem dX4_init_6 : decode cX4_init 6 = .ok (.newarray .boolean, 2) := by decide +kernel
theorem dX4_init_8 : decode cX4_init 8 = .ok (.putfield 11, 3) := by decide +kernel
theorem dX4_init_11 : decode cX4_init 11 = .ok (.aload_n 0, 1) := by decide +kernel
theorem dX4_init_12 : decode cX4_init 12 = .ok (.iconst 4, 1) := by decide +kernel
theorem dX4_init_13 : decode cX4_init 13 = .ok (.newarray .int, 2) := by decide +kernel
theorem dX4_init_15 : decode cX4_init 15 = .ok (.putfield 15, 3) := by decide +kernel
theorem dX4_init_18 : decode cX4_init 18 = .ok (.return_, 1) := by decide +kernel
theorem dX4_isOpen_0 : decode cX4_isOpen 0 = .ok (.iload_n 1, 1) := by decide +kernel
theorem dX4_isOpen_1 : decode cX4_isOpen 1 = .ok (.ifCond .lt 21, 3) := by decide +kernel
theorem dX4_isOpen_4 : decode cX4_isOpen 4 = .ok (.iload_n 1, 1) := by decide +kernel
theorem dX4_isOpen_5 : decode cX4_isOpen 5 = .ok (.iconst 4, 1) := by decide +kernel
theorem dX4_isOpen_6 : decode cX4_isOpen 6 = .ok (.if_icmp .ge 16, 3) := by decide +kernel
theorem dX4_isOpen_9 : decode cX4_isOpen 9 = .ok (.aload_n 0, 1) := by decide +kernel
theorem dX4_isOpen_10 : decode cX4_isOpen 10 = .ok (.getfield 11, 3) := by decide +kernel
theorem dX4_isOpen_13 : decode cX4_isOpen 13 = .ok (.iload_n 1, 1) := by decide +kernel
theorem dX4_isOpen_14 : decode cX4_isOpen 14 = .ok (.baload, 1) := by decide +kernel
theorem dX4_isOpen_15 : decode cX4_isOpen 15 = .ok (.ifCond .eq 7, 3) := by decide +kernel
theorem dX4_isOpen_18 : decode cX4_isOpen 18 = .ok (.iconst 1, 1) := by decide +kernel
theorem dX4_isOpen_19 : decode cX4_isOpen 19 = .ok (.goto 4, 3) := by decide +kernel
theorem dX4_isOpen_22 : decode cX4_isOpen 22 = .ok (.iconst 0, 1) := by decide +kernel
theorem dX4_isOpen_23 : decode cX4_isOpen 23 = .ok (.ireturn, 1) := by decide +kernel
theorem dX4_leastNotOpen_0 : decode cX4_leastNotOpen 0 = .ok (.iconst 0, 1) := by decide +kernel
theorem dX4_leastNotOpen_1 : decode cX4_leastNotOpen 1 = .ok (.istore_n 1, 1) := by decide +kernel
theorem dX4_leastNotOpen_2 : decode cX4_leastNotOpen 2 = .ok (.iload_n 1, 1) := by decide +kernel
theorem dX4_leastNotOpen_3 : decode cX4_leastNotOpen 3 = .ok (.iconst 4, 1) := by decide +kernel
theorem dX4_leastNotOpen_4 : decode cX4_leastNotOpen 4 = .ok (.if_icmp .ge 20, 3) := by decide +kernel
theorem dX4_leastNotOpen_7 : decode cX4_leastNotOpen 7 = .ok (.aload_n 0, 1) := by decide +kernel
theorem dX4_leastNotOpen_8 : decode cX4_leastNotOpen 8 = .ok (.getfield 11, 3) := by decide +kernel
theorem dX4_leastNotOpen_11 : decode cX4_leastNotOpen 11 = .ok (.iload_n 1, 1) := by decide +kernel
theorem dX4_leastNotOpen_12 : decode cX4_leastNotOpen 12 = .ok (.baload, 1) := by decide +kernel
theorem dX4_leastNotOpen_13 : decode cX4_leastNotOpen 13 = .ok (.ifCond .ne 5, 3) := by decide +kernel
theorem dX4_leastNotOpen_16 : decode cX4_leastNotOpen 16 = .ok (.iload_n 1, 1) := by decide +kernel
theorem dX4_leastNotOpen_17 : decode cX4_leastNotOpen 17 = .ok (.ireturn, 1) := by decide +kernel
theorem dX4_leastNotOpen_18 : decode cX4_leastNotOpen 18 = .ok (.iinc 1 1, 3) := by decide +kernel
theorem dX4_leastNotOpen_21 : decode cX4_leastNotOpen 21 = .ok (.goto (-19), 3) := by decide +kernel
theorem dX4_leastNotOpen_24 : decode cX4_leastNotOpen 24 = .ok (.iconst (-1), 1) := by decide +kernel
theorem dX4_leastNotOpen_25 : decode cX4_leastNotOpen 25 = .ok (.ireturn, 1) := by decide +kernel
theorem dX4_openCount_0 : decode cX4_openCount 0 = .ok (.iconst 0, 1) := by decide +kernel
theorem dX4_openCount_1 : decode cX4_openCount 1 = .ok (.istore_n 1, 1) := by decide +kernel
theorem dX4_openCount_2 : decode cX4_openCount 2 = .ok (.iconst 0, 1) := by decide +kernel
theorem dX4_openCount_3 : decode cX4_openCount 3 = .ok (.istore_n 2, 1) := by decide +kernel
theorem dX4_openCount_4 : decode cX4_openCount 4 = .ok (.iload_n 2, 1) := by decide +kernel
theorem dX4_openCount_5 : decode cX4_openCount 5 = .ok (.iconst 4, 1) := by decide +kernel
theorem dX4_openCount_6 : decode cX4_openCount 6 = .ok (.if_icmp .ge 21, 3) := by decide +kernel
theorem dX4_openCount_9 : decode cX4_openCount 9 = .ok (.aload_n 0, 1) := by decide +kernel
theorem dX4_openCount_10 : decode cX4_openCount 10 = .ok (.getfield 11, 3) := by decide +kernel
theorem dX4_openCount_13 : decode cX4_openCount 13 = .ok (.iload_n 2, 1) := by decide +kernel
theorem dX4_openCount_14 : decode cX4_openCount 14 = .ok (.baload, 1) := by decide +kernel
theorem dX4_openCount_15 : decode cX4_openCount 15 = .ok (.ifCond .eq 6, 3) := by decide +kernel
theorem dX4_openCount_18 : decode cX4_openCount 18 = .ok (.iinc 1 1, 3) := by decide +kernel
theorem dX4_openCount_21 : decode cX4_openCount 21 = .ok (.iinc 2 1, 3) := by decide +kernel
theorem dX4_openCount_24 : decode cX4_openCount 24 = .ok (.goto (-20), 3) := by decide +kernel
theorem dX4_openCount_27 : decode cX4_openCount 27 = .ok (.iload_n 1, 1) := by decide +kernel
theorem dX4_openCount_28 : decode cX4_openCount 28 = .ok (.ireturn, 1) := by decide +kernel
theorem dX4_anyWithin_0 : decode cX4_anyWithin 0 = .ok (.iconst 0, 1) := by decide +kernel
theorem dX4_anyWithin_1 : decode cX4_anyWithin 1 = .ok (.istore_n 3, 1) := by decide +kernel
theorem dX4_anyWithin_2 : decode cX4_anyWithin 2 = .ok (.iload_n 3, 1) := by decide +kernel
theorem dX4_anyWithin_3 : decode cX4_anyWithin 3 = .ok (.iconst 4, 1) := by decide +kernel
theorem dX4_anyWithin_4 : decode cX4_anyWithin 4 = .ok (.if_icmp .ge 40, 3) := by decide +kernel
theorem dX4_anyWithin_7 : decode cX4_anyWithin 7 = .ok (.aload_n 0, 1) := by decide +kernel
theorem dX4_anyWithin_8 : decode cX4_anyWithin 8 = .ok (.getfield 11, 3) := by decide +kernel
theorem dX4_anyWithin_11 : decode cX4_anyWithin 11 = .ok (.iload_n 3, 1) := by decide +kernel
theorem dX4_anyWithin_12 : decode cX4_anyWithin 12 = .ok (.baload, 1) := by decide +kernel
theorem dX4_anyWithin_13 : decode cX4_anyWithin 13 = .ok (.ifCond .eq 25, 3) := by decide +kernel
theorem dX4_anyWithin_16 : decode cX4_anyWithin 16 = .ok (.aload_n 0, 1) := by decide +kernel
theorem dX4_anyWithin_17 : decode cX4_anyWithin 17 = .ok (.getfield 15, 3) := by decide +kernel
theorem dX4_anyWithin_20 : decode cX4_anyWithin 20 = .ok (.iload_n 3, 1) := by decide +kernel
theorem dX4_anyWithin_21 : decode cX4_anyWithin 21 = .ok (.iaload, 1) := by decide +kernel
theorem dX4_anyWithin_22 : decode cX4_anyWithin 22 = .ok (.iload_n 1, 1) := by decide +kernel
theorem dX4_anyWithin_23 : decode cX4_anyWithin 23 = .ok (.if_icmp .lt 15, 3) := by decide +kernel
theorem dX4_anyWithin_26 : decode cX4_anyWithin 26 = .ok (.aload_n 0, 1) := by decide +kernel
theorem dX4_anyWithin_27 : decode cX4_anyWithin 27 = .ok (.getfield 15, 3) := by decide +kernel
theorem dX4_anyWithin_30 : decode cX4_anyWithin 30 = .ok (.iload_n 3, 1) := by decide +kernel
theorem dX4_anyWithin_31 : decode cX4_anyWithin 31 = .ok (.iaload, 1) := by decide +kernel
theorem dX4_anyWithin_32 : decode cX4_anyWithin 32 = .ok (.iload_n 2, 1) := by decide +kernel
theorem dX4_anyWithin_33 : decode cX4_anyWithin 33 = .ok (.if_icmp .ge 5, 3) := by decide +kernel
theorem dX4_anyWithin_36 : decode cX4_anyWithin 36 = .ok (.iconst 1, 1) := by decide +kernel
theorem dX4_anyWithin_37 : decode cX4_anyWithin 37 = .ok (.ireturn, 1) := by decide +kernel
theorem dX4_anyWithin_38 : decode cX4_anyWithin 38 = .ok (.iinc 3 1, 3) := by decide +kernel
theorem dX4_anyWithin_41 : decode cX4_anyWithin 41 = .ok (.goto (-39), 3) := by decide +kernel
theorem dX4_anyWithin_44 : decode cX4_anyWithin 44 = .ok (.iconst 0, 1) := by decide +kernel
theorem dX4_anyWithin_45 : decode cX4_anyWithin 45 = .ok (.ireturn, 1) := by decide +kernel
theorem dX4_open_0 : decode cX4_open 0 = .ok (.aload_n 0, 1) := by decide +kernel
theorem dX4_open_1 : decode cX4_open 1 = .ok (.getfield 11, 3) := by decide +kernel
theorem dX4_open_4 : decode cX4_open 4 = .ok (.iload_n 1, 1) := by decide +kernel
theorem dX4_open_5 : decode cX4_open 5 = .ok (.iconst 1, 1) := by decide +kernel
theorem dX4_open_6 : decode cX4_open 6 = .ok (.bastore, 1) := by decide +kernel
theorem dX4_open_7 : decode cX4_open 7 = .ok (.aload_n 0, 1) := by decide +kernel
theorem dX4_open_8 : decode cX4_open 8 = .ok (.getfield 15, 3) := by decide +kernel
theorem dX4_open_11 : decode cX4_open 11 = .ok (.iload_n 1, 1) := by decide +kernel
theorem dX4_open_12 : decode cX4_open 12 = .ok (.iload_n 2, 1) := by decide +kernel
theorem dX4_open_13 : decode cX4_open 13 = .ok (.iastore, 1) := by decide +kernel
theorem dX4_open_14 : decode cX4_open 14 = .ok (.return_, 1) := by decide +kernel
theorem dX4_close_0 : decode cX4_close 0 = .ok (.aload_n 0, 1) := by decide +kernel
theorem dX4_close_1 : decode cX4_close 1 = .ok (.getfield 11, 3) := by decide +kernel
theorem dX4_close_4 : decode cX4_close 4 = .ok (.iload_n 1, 1) := by decide +kernel
theorem dX4_close_5 : decode cX4_close 5 = .ok (.iconst 0, 1) := by decide +kernel
theorem dX4_close_6 : decode cX4_close 6 = .ok (.bastore, 1) := by decide +kernel
theorem dX4_close_7 : decode cX4_close 7 = .ok (.return_, 1) := by decide +kernel
set_option maxRecDepth 20000 in
theorem ggX4_closeAll_X4_close : GoodIn wsX4_closeAll wsX4_close := goodIn_r _ [5, 6, 7, 8] (by decide +kernel) (by decide +kernel)
set_option maxRecDepth 20000 in
theorem gX4_closeAll_X4_close : GoodIn wsX4_closeAll (wsV RX4 19 RX4 yX4_close wsX4_close) := goodIn_app (goodIn_of _ (by decide +kernel)) ggX4_closeAll_X4_close
theorem dX4_closeAll_0 : decode cX4_closeAll 0 = .ok (.iconst 0, 1) := by decide +kernel
theorem dX4_closeAll_1 : decode cX4_closeAll 1 = .ok (.istore_n 1, 1) := by decide +kernel
theorem dX4_closeAll_2 : decode cX4_closeAll 2 = .ok (.iload_n 1, 1) := by decide +kernel
theorem dX4_closeAll_3 : decode cX4_closeAll 3 = .ok (.iconst 4, 1) := by decide +kernel
theorem dX4_closeAll_4 : decode cX4_closeAll 4 = .ok (.if_icmp .ge 14, 3) := by decide +kernel
theorem dX4_closeAll_7 : decode cX4_closeAll 7 = .ok (.aload_n 0, 1) := by decide +kernel
theorem dX4_closeAll_8 : decode cX4_closeAll 8 = .ok (.iload_n 1, 1) := by decide +kernel
theorem dX4_closeAll_9 : decode cX4_closeAll 9 = .ok (.invokevirtual 19, 3) := by decide +kernel
theorem dX4_closeAll_12 : decode cX4_closeAll 12 = .ok (.iinc 1 1, 3) := by decide +kernel
theorem dX4_closeAll_15 : decode cX4_closeAll 15 = .ok (.goto (-13), 3) := by decide +kernel
theorem dX4_closeAll_18 : decode cX4_closeAll 18 = .ok (.return_, 1) := by decide +kernel
set_option maxRecDepth 20000 in
theorem ggX5_init_X3_init : GoodIn wsX5_init wsX3_init := goodIn_r _ [32, 33, 2, 3, 34, 35, 27, 36, 37, 38, 59, 60, 61, 62, 63, 64] (by decide +kernel) (by decide +kernel)
set_option maxRecDepth 20000 in
theorem gX5_init_X3_init : GoodIn wsX5_init (wsX3_init) := ggX5_init_X3_init
set_option maxRecDepth 20000 in
theorem ggX5_init_X1_init : GoodIn wsX5_init wsX1_init := goodIn_r _ [41, 42, 2, 3, 27, 43, 44, 45, 46, 47, 48, 49, 77, 78, 79, 80, 81, 82] (by decide +kernel) (by decide +kernel)
set_option maxRecDepth 20000 in
theorem gX5_init_X1_init : GoodIn wsX5_init (wsX1_init) := ggX5_init_X1_init
set_option maxRecDepth 20000 in
theorem ggX5_init_X4_init : GoodIn wsX5_init wsX4_init := goodIn_r _ [51, 52, 2, 3, 48, 53, 27, 54, 83, 84] (by decide +kernel) (by decide +kernel)
