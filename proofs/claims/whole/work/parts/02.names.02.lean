set_option maxRecDepth 20000 in
theorem gX5_init_X4_init_n36 : GoodIn wsX5_init (wsX4_init) := ggX5_init_X4_init
set_option maxRecDepth 20000 in
theorem ggX5_init_X0_init : GoodIn wsX5_init wsX0_init := goodIn_r _ [56, 57, 2, 3, 27, 58, 85, 86] (by decide +kernel) (by decide +kernel)
set_option maxRecDepth 20000 in
theorem gX5_init_X0_init_n43 : GoodIn wsX5_init (wsX0_init) := ggX5_init_X0_init
theorem dX5_init_0 : decode cX5_init 0 = .ok (.aload_n 0, 1) := by decide +kernel
theorem dX5_init_1 : decode cX5_init 1 = .ok (.invokespecial 1, 3) := by decide +kernel
theorem dX5_init_4 : decode cX5_init 4 = .ok (.iconst 1, 1) := by decide +kernel
theorem dX5_init_5 : decode cX5_init 5 = .ok (.bipush 12, 2) := by decide +kernel
theorem dX5_init_7 : decode cX5_init 7 = .ok (.iload_n 1, 1) := by decide +kernel
theorem dX5_init_8 : decode cX5_init 8 = .ok (.invokestatic 9, 3) := by decide +kernel
theorem dX5_init_11 : decode cX5_init 11 = .ok (.invokestatic 15, 3) := by decide +kernel
theorem dX5_init_14 : decode cX5_init 14 = .ok (.istore_n 2, 1) := by decide +kernel
theorem dX5_init_15 : decode cX5_init 15 = .ok (.aload_n 0, 1) := by decide +kernel
theorem dX5_init_16 : decode cX5_init 16 = .ok (.new 18, 3) := by decide +kernel
theorem dX5_init_19 : decode cX5_init 19 = .ok (.dup, 1) := by decide +kernel
theorem dX5_init_20 : decode cX5_init 20 = .ok (.iload_n 2, 1) := by decide +kernel
theorem dX5_init_21 : decode cX5_init 21 = .ok (.invokespecial 20, 3) := by decide +kernel
theorem dX5_init_24 : decode cX5_init 24 = .ok (.putfield 23, 3) := by decide +kernel
theorem dX5_init_27 : decode cX5_init 27 = .ok (.aload_n 0, 1) := by decide +kernel
theorem dX5_init_28 : decode cX5_init 28 = .ok (.new 27, 3) := by decide +kernel
theorem dX5_init_31 : decode cX5_init 31 = .ok (.dup, 1) := by decide +kernel
theorem dX5_init_32 : decode cX5_init 32 = .ok (.iload_n 2, 1) := by decide +kernel
theorem dX5_init_33 : decode cX5_init 33 = .ok (.invokespecial 29, 3) := by decide +kernel
theorem dX5_init_36 : decode cX5_init 36 = .ok (.putfield 30, 3) := by decide +kernel
theorem dX5_init_39 : decode cX5_init 39 = .ok (.aload_n 0, 1) := by decide +kernel
theorem dX5_init_40 : decode cX5_init 40 = .ok (.new 34, 3) := by decide +kernel
theorem dX5_init_43 : decode cX5_init 43 = .ok (.dup, 1) := by decide +kernel
theorem dX5_init_44 : decode cX5_init 44 = .ok (.invokespecial 36, 3) := by decide +kernel
theorem dX5_init_47 : decode cX5_init 47 = .ok (.putfield 37, 3) := by decide +kernel
theorem dX5_init_50 : decode cX5_init 50 = .ok (.aload_n 0, 1) := by decide +kernel
theorem dX5_init_51 : decode cX5_init 51 = .ok (.new 41, 3) := by decide +kernel
theorem dX5_init_54 : decode cX5_init 54 = .ok (.dup, 1) := by decide +kernel
theorem dX5_init_55 : decode cX5_init 55 = .ok (.invokespecial 43, 3) := by decide +kernel
theorem dX5_init_58 : decode cX5_init 58 = .ok (.putfield 44, 3) := by decide +kernel
theorem dX5_init_61 : decode cX5_init 61 = .ok (.aload_n 0, 1) := by decide +kernel
theorem dX5_init_62 : decode cX5_init 62 = .ok (.bipush 20, 2) := by decide +kernel
theorem dX5_init_64 : decode cX5_init 64 = .ok (.newarray .int, 2) := by decide +kernel
theorem dX5_init_66 : decode cX5_init 66 = .ok (.putfield 50, 3) := by decide +kernel
theorem dX5_init_69 : decode cX5_init 69 = .ok (.aload_n 0, 1) := by decide +kernel
theorem dX5_init_70 : decode cX5_init 70 = .ok (.bipush 12, 2) := by decide +kernel
theorem dX5_init_72 : decode cX5_init 72 = .ok (.newarray .int, 2) := by decide +kernel
theorem dX5_init_74 : decode cX5_init 74 = .ok (.putfield 54, 3) := by decide +kernel
theorem dX5_init_77 : decode cX5_init 77 = .ok (.return_, 1) := by decide +kernel
theorem dX5_feed_0 : decode cX5_feed 0 = .ok (.iload_n 2, 1) := by decide +kernel
theorem dX5_feed_1 : decode cX5_feed 1 = .ok (.ifCond .lt 8, 3) := by decide +kernel
theorem dX5_feed_4 : decode cX5_feed 4 = .ok (.iload_n 2, 1) := by decide +kernel
theorem dX5_feed_5 : decode cX5_feed 5 = .ok (.iconst 4, 1) := by decide +kernel
theorem dX5_feed_6 : decode cX5_feed 6 = .ok (.if_icmp .le 6, 3) := by decide +kernel
theorem dX5_feed_9 : decode cX5_feed 9 = .ok (.bipush (-2), 2) := by decide +kernel
theorem dX5_feed_11 : decode cX5_feed 11 = .ok (.ireturn, 1) := by decide +kernel
theorem dX5_feed_12 : decode cX5_feed 12 = .ok (.aload_n 0, 1) := by decide +kernel
theorem dX5_feed_13 : decode cX5_feed 13 = .ok (.getfield 57, 3) := by decide +kernel
theorem dX5_feed_16 : decode cX5_feed 16 = .ok (.iload_n 2, 1) := by decide +kernel
theorem dX5_feed_17 : decode cX5_feed 17 = .ok (.iadd, 1) := by decide +kernel
theorem dX5_feed_18 : decode cX5_feed 18 = .ok (.bipush 20, 2) := by decide +kernel
theorem dX5_feed_20 : decode cX5_feed 20 = .ok (.if_icmp .le 6, 3) := by decide +kernel
theorem dX5_feed_23 : decode cX5_feed 23 = .ok (.bipush (-4), 2) := by decide +kernel
theorem dX5_feed_25 : decode cX5_feed 25 = .ok (.ireturn, 1) := by decide +kernel
theorem dX5_feed_26 : decode cX5_feed 26 = .ok (.iload_n 2, 1) := by decide +kernel
theorem dX5_feed_27 : decode cX5_feed 27 = .ok (.iconst 1, 1) := by decide +kernel
theorem dX5_feed_28 : decode cX5_feed 28 = .ok (.isub, 1) := by decide +kernel
theorem dX5_feed_29 : decode cX5_feed 29 = .ok (.istore_n 3, 1) := by decide +kernel
theorem dX5_feed_30 : decode cX5_feed 30 = .ok (.iload_n 3, 1) := by decide +kernel
theorem dX5_feed_31 : decode cX5_feed 31 = .ok (.ifCond .lt 38, 3) := by decide +kernel
theorem dX5_feed_34 : decode cX5_feed 34 = .ok (.aload_n 0, 1) := by decide +kernel
theorem dX5_feed_35 : decode cX5_feed 35 = .ok (.getfield 50, 3) := by decide +kernel
theorem dX5_feed_38 : decode cX5_feed 38 = .ok (.aload_n 0, 1) := by decide +kernel
theorem dX5_feed_39 : decode cX5_feed 39 = .ok (.getfield 57, 3) := by decide +kernel
theorem dX5_feed_42 : decode cX5_feed 42 = .ok (.iload_n 1, 1) := by decide +kernel
theorem dX5_feed_43 : decode cX5_feed 43 = .ok (.bipush 8, 2) := by decide +kernel
theorem dX5_feed_45 : decode cX5_feed 45 = .ok (.iload_n 3, 1) := by decide +kernel
theorem dX5_feed_46 : decode cX5_feed 46 = .ok (.imul, 1) := by decide +kernel
theorem dX5_feed_47 : decode cX5_feed 47 = .ok (.iushr, 1) := by decide +kernel
theorem dX5_feed_48 : decode cX5_feed 48 = .ok (.sipush 255, 3) := by decide +kernel
theorem dX5_feed_51 : decode cX5_feed 51 = .ok (.iand, 1) := by decide +kernel
theorem dX5_feed_52 : decode cX5_feed 52 = .ok (.iastore, 1) := by decide +kernel
theorem dX5_feed_53 : decode cX5_feed 53 = .ok (.aload_n 0, 1) := by decide +kernel
theorem dX5_feed_54 : decode cX5_feed 54 = .ok (.dup, 1) := by decide +kernel
theorem dX5_feed_55 : decode cX5_feed 55 = .ok (.getfield 57, 3) := by decide +kernel
theorem dX5_feed_58 : decode cX5_feed 58 = .ok (.iconst 1, 1) := by decide +kernel
theorem dX5_feed_59 : decode cX5_feed 59 = .ok (.iadd, 1) := by decide +kernel
theorem dX5_feed_60 : decode cX5_feed 60 = .ok (.putfield 57, 3) := by decide +kernel
theorem dX5_feed_63 : decode cX5_feed 63 = .ok (.iinc 3 (-1), 3) := by decide +kernel
theorem dX5_feed_66 : decode cX5_feed 66 = .ok (.goto (-36), 3) := by decide +kernel
theorem dX5_feed_69 : decode cX5_feed 69 = .ok (.aload_n 0, 1) := by decide +kernel
theorem dX5_feed_70 : decode cX5_feed 70 = .ok (.getfield 57, 3) := by decide +kernel
theorem dX5_feed_73 : decode cX5_feed 73 = .ok (.ireturn, 1) := by decide +kernel
set_option maxRecDepth 20000 in
theorem ggX5_put_X2_isKey : GoodIn wsX5_put wsX2_isKey := goodIn_r _ [6] (by decide +kernel) (by decide +kernel)
set_option maxRecDepth 20000 in
theorem gX5_put_X2_isKey : GoodIn wsX5_put (va_wsS RX5 65 yX2_isKey wsX2_isKey) := goodIn_app (goodIn_of _ (by decide +kernel)) ggX5_put_X2_isKey
set_option maxRecDepth 20000 in
theorem ggX5_put_X5_writeRow : GoodIn wsX5_put wsX5_writeRow := goodIn_r _ [11, 12, 13, 14, 15, 16, 17, 18, 19, 20, 21, 22, 23, 5, 24, 25, 26, 27, 28, 29, 30, 31, 32, 33, 34, 35, 36, 37, 38, 39, 40, 41, 42, 43, 44, 45, 46, 47, 48, 49, 50, 51, 52, 53, 54, 55, 56, 57, 58, 59, 60, 61, 62, 63, 64, 65, 66, 67, 68, 69, 70, 71, 72, 73, 74, 75, 76, 77, 78, 79, 80, 81, 82, 83, 84, 85, 86, 87, 88, 89, 90, 91, 92, 93, 94, 95, 96, 97, 98, 99, 100, 101, 102, 103, 104, 105, 106, 107, 108, 109, 110, 111, 112, 113, 114, 115, 116, 117, 118, 119, 120] (by decide +kernel) (by decide +kernel)
set_option maxRecDepth 20000 in
theorem gX5_put_X5_writeRow : GoodIn wsX5_put (wsV RX5 69 RX5 yX5_writeRow wsX5_writeRow) := goodIn_app (goodIn_of _ (by decide +kernel)) ggX5_put_X5_writeRow
theorem dX5_put_0 : decode cX5_put 0 = .ok (.aload_n 0, 1) := by decide +kernel
theorem dX5_put_1 : decode cX5_put 1 = .ok (.getfield 61, 3) := by decide +kernel
theorem dX5_put_4 : decode cX5_put 4 = .ok (.ifCond .eq 6, 3) := by decide +kernel
theorem dX5_put_7 : decode cX5_put 7 = .ok (.bipush (-3), 2) := by decide +kernel
theorem dX5_put_9 : decode cX5_put 9 = .ok (.ireturn, 1) := by decide +kernel
theorem dX5_put_10 : decode cX5_put 10 = .ok (.iload_n 1, 1) := by decide +kernel
theorem dX5_put_11 : decode cX5_put 11 = .ok (.invokestatic 65, 3) := by decide +kernel
theorem dX5_put_14 : decode cX5_put 14 = .ok (.ifCond .ne 6, 3) := by decide +kernel
theorem dX5_put_17 : decode cX5_put 17 = .ok (.bipush (-2), 2) := by decide +kernel
theorem dX5_put_19 : decode cX5_put 19 = .ok (.ireturn, 1) := by decide +kernel
theorem dX5_put_20 : decode cX5_put 20 = .ok (.aload_n 0, 1) := by decide +kernel
theorem dX5_put_21 : decode cX5_put 21 = .ok (.iconst 1, 1) := by decide +kernel
theorem dX5_put_22 : decode cX5_put 22 = .ok (.iload_n 1, 1) := by decide +kernel
theorem dX5_put_23 : decode cX5_put 23 = .ok (.aload_n 0, 1) := by decide +kernel
theorem dX5_put_24 : decode cX5_put 24 = .ok (.getfield 57, 3) := by decide +kernel
theorem dX5_put_27 : decode cX5_put 27 = .ok (.invokevirtual 69, 3) := by decide +kernel
theorem dX5_put_30 : decode cX5_put 30 = .ok (.istore_n 2, 1) := by decide +kernel
theorem dX5_put_31 : decode cX5_put 31 = .ok (.iload_n 2, 1) := by decide +kernel
theorem dX5_put_32 : decode cX5_put 32 = .ok (.bipush (-4), 2) := by decide +kernel
theorem dX5_put_34 : decode cX5_put 34 = .ok (.if_icmp .eq 8, 3) := by decide +kernel
theorem dX5_put_37 : decode cX5_put 37 = .ok (.aload_n 0, 1) := by decide +kernel
theorem dX5_put_38 : decode cX5_put 38 = .ok (.iconst 0, 1) := by decide +kernel
theorem dX5_put_39 : decode cX5_put 39 = .ok (.putfield 57, 3) := by decide +kernel
theorem dX5_put_42 : decode cX5_put 42 = .ok (.iload_n 2, 1) := by decide +kernel
theorem dX5_put_43 : decode cX5_put 43 = .ok (.ireturn, 1) := by decide +kernel
set_option maxRecDepth 20000 in
theorem ggX5_drop_X5_slotSeen : GoodIn wsX5_drop wsX5_slotSeen := goodIn_r _ [6, 1, 7, 8, 9, 10, 11, 12, 13, 14, 15, 16, 17, 18, 19, 20, 21, 22, 23, 24, 25, 26, 27, 28, 111, 112, 113, 114, 115, 116, 117, 118, 119, 120, 121, 122, 123, 124, 125, 126, 127, 128, 129, 130] (by decide +kernel) (by decide +kernel)
set_option maxRecDepth 20000 in
theorem gX5_drop_X5_slotSeen : GoodIn wsX5_drop (wsV RX5 73 RX5 yX5_slotSeen wsX5_slotSeen) := goodIn_app (goodIn_of _ (by decide +kernel)) ggX5_drop_X5_slotSeen
set_option maxRecDepth 20000 in
theorem ggX5_drop_X5_writeRow : GoodIn wsX5_drop wsX5_writeRow := goodIn_r _ [32, 8, 33, 34, 35, 36, 37, 38, 39, 10, 40, 41, 42, 14, 43, 44, 45, 46, 47, 48, 49, 50, 51, 52, 53, 54, 55, 56, 57, 58, 59, 60, 61, 62, 63, 64, 65, 66, 67, 68, 69, 70, 71, 72, 73, 74, 75, 76, 77, 78, 79, 80, 81, 82, 83, 84, 85, 86, 87, 88, 89, 90, 91, 92, 93, 94, 95, 96, 25, 97, 98, 99, 27, 28, 100, 101, 102, 103, 104, 105, 106, 107, 108, 109, 110, 111, 112, 113, 114, 115, 116, 117, 118, 119, 120, 121, 122, 131, 132, 133, 134, 135, 136, 137, 138, 125, 126, 127, 128, 129, 130] (by decide +kernel) (by decide +kernel)
set_option maxRecDepth 20000 in
theorem gX5_drop_X5_writeRow : GoodIn wsX5_drop (wsV RX5 69 RX5 yX5_writeRow wsX5_writeRow) := goodIn_app (goodIn_of _ (by decide +kernel)) ggX5_drop_X5_writeRow
theorem dX5_drop_0 : decode cX5_drop 0 = .ok (.aload_n 0, 1) := by decide +kernel
theorem dX5_drop_1 : decode cX5_drop 1 = .ok (.getfield 61, 3) := by decide +kernel
theorem dX5_drop_4 : decode cX5_drop 4 = .ok (.ifCond .eq 6, 3) := by decide +kernel
theorem dX5_drop_7 : decode cX5_drop 7 = .ok (.bipush (-3), 2) := by decide +kernel
theorem dX5_drop_9 : decode cX5_drop 9 = .ok (.ireturn, 1) := by decide +kernel
theorem dX5_drop_10 : decode cX5_drop 10 = .ok (.aload_n 0, 1) := by decide +kernel
theorem dX5_drop_11 : decode cX5_drop 11 = .ok (.iconst (-1), 1) := by decide +kernel
theorem dX5_drop_12 : decode cX5_drop 12 = .ok (.iload_n 1, 1) := by decide +kernel
theorem dX5_drop_13 : decode cX5_drop 13 = .ok (.invokevirtual 73, 3) := by decide +kernel
theorem dX5_drop_16 : decode cX5_drop 16 = .ok (.iconst (-1), 1) := by decide +kernel
theorem dX5_drop_17 : decode cX5_drop 17 = .ok (.if_icmp .ne 5, 3) := by decide +kernel
theorem dX5_drop_20 : decode cX5_drop 20 = .ok (.iconst (-1), 1) := by decide +kernel
theorem dX5_drop_21 : decode cX5_drop 21 = .ok (.ireturn, 1) := by decide +kernel
theorem dX5_drop_22 : decode cX5_drop 22 = .ok (.aload_n 0, 1) := by decide +kernel
theorem dX5_drop_23 : decode cX5_drop 23 = .ok (.iconst 2, 1) := by decide +kernel
theorem dX5_drop_24 : decode cX5_drop 24 = .ok (.iload_n 1, 1) := by decide +kernel
theorem dX5_drop_25 : decode cX5_drop 25 = .ok (.iconst 0, 1) := by decide +kernel
theorem dX5_drop_26 : decode cX5_drop 26 = .ok (.invokevirtual 69, 3) := by decide +kernel
theorem dX5_drop_29 : decode cX5_drop 29 = .ok (.ireturn, 1) := by decide +kernel
set_option maxRecDepth 20000 in
theorem ggX5_length_X5_slotSeen : GoodIn wsX5_length wsX5_slotSeen := goodIn_r _ [7, 8, 9, 10, 11, 1, 12, 13, 14, 15, 16, 17, 18, 19, 20, 21, 22, 23, 24, 25, 26, 27, 28, 29, 30, 31, 32, 33, 34, 35, 36, 37, 38, 39, 40, 41, 48, 49, 42, 43, 44, 45, 46, 47] (by decide +kernel) (by decide +kernel)
set_option maxRecDepth 20000 in
theorem gX5_length_X5_slotSeen : GoodIn wsX5_length (wsV RX5 73 RX5 yX5_slotSeen wsX5_slotSeen) := goodIn_app (goodIn_of _ (by decide +kernel)) ggX5_length_X5_slotSeen
theorem dX5_length_0 : decode cX5_length 0 = .ok (.aload_n 0, 1) := by decide +kernel
theorem dX5_length_1 : decode cX5_length 1 = .ok (.iload_n 1, 1) := by decide +kernel
theorem dX5_length_2 : decode cX5_length 2 = .ok (.iload_n 2, 1) := by decide +kernel
theorem dX5_length_3 : decode cX5_length 3 = .ok (.invokevirtual 73, 3) := by decide +kernel
theorem dX5_length_6 : decode cX5_length 6 = .ok (.istore_n 3, 1) := by decide +kernel
theorem dX5_length_7 : decode cX5_length 7 = .ok (.iload_n 3, 1) := by decide +kernel
theorem dX5_length_8 : decode cX5_length 8 = .ok (.iconst (-1), 1) := by decide +kernel
theorem dX5_length_9 : decode cX5_length 9 = .ok (.if_icmp .ne 7, 3) := by decide +kernel
theorem dX5_length_12 : decode cX5_length 12 = .ok (.iconst (-1), 1) := by decide +kernel
theorem dX5_length_13 : decode cX5_length 13 = .ok (.goto 12, 3) := by decide +kernel
theorem dX5_length_16 : decode cX5_length 16 = .ok (.aload_n 0, 1) := by decide +kernel
theorem dX5_length_17 : decode cX5_length 17 = .ok (.getfield 30, 3) := by decide +kernel
theorem dX5_length_20 : decode cX5_length 20 = .ok (.getfield 76, 3) := by decide +kernel
theorem dX5_length_23 : decode cX5_length 23 = .ok (.iload_n 3, 1) := by decide +kernel
theorem dX5_length_24 : decode cX5_length 24 = .ok (.iaload, 1) := by decide +kernel
theorem dX5_length_25 : decode cX5_length 25 = .ok (.ireturn, 1) := by decide +kernel
set_option maxRecDepth 20000 in
theorem ggX5_find_X5_slotSeen : GoodIn wsX5_find wsX5_slotSeen := goodIn_r _ [10, 11, 12, 13, 14, 1, 15, 16, 17, 18, 19, 20, 21, 22, 23, 24, 25, 26, 27, 28, 29, 30, 31, 32, 33, 34, 35, 36, 37, 38, 39, 40, 41, 42, 43, 44, 57, 58, 45, 46, 47, 48, 49, 50] (by decide +kernel) (by decide +kernel)
set_option maxRecDepth 20000 in
theorem gX5_find_X5_slotSeen : GoodIn wsX5_find (wsV RX5 73 RX5 yX5_slotSeen wsX5_slotSeen) := goodIn_app (goodIn_of _ (by decide +kernel)) ggX5_find_X5_slotSeen
theorem dX5_find_0 : decode cX5_find 0 = .ok (.aload_n 0, 1) := by decide +kernel
theorem dX5_find_1 : decode cX5_find 1 = .ok (.iload_n 1, 1) := by decide +kernel
theorem dX5_find_2 : decode cX5_find 2 = .ok (.iload_n 2, 1) := by decide +kernel
theorem dX5_find_3 : decode cX5_find 3 = .ok (.invokevirtual 73, 3) := by decide +kernel
theorem dX5_find_6 : decode cX5_find 6 = .ok (.istore 4, 2) := by decide +kernel
theorem dX5_find_8 : decode cX5_find 8 = .ok (.iload 4, 2) := by decide +kernel
theorem dX5_find_10 : decode cX5_find 10 = .ok (.iconst (-1), 1) := by decide +kernel
theorem dX5_find_11 : decode cX5_find 11 = .ok (.if_icmp .eq 21, 3) := by decide +kernel
theorem dX5_find_14 : decode cX5_find 14 = .ok (.iload_n 3, 1) := by decide +kernel
theorem dX5_find_15 : decode cX5_find 15 = .ok (.ifCond .lt 17, 3) := by decide +kernel
theorem dX5_find_18 : decode cX5_find 18 = .ok (.iload_n 3, 1) := by decide +kernel
theorem dX5_find_19 : decode cX5_find 19 = .ok (.aload_n 0, 1) := by decide +kernel
theorem dX5_find_20 : decode cX5_find 20 = .ok (.getfield 30, 3) := by decide +kernel
theorem dX5_find_23 : decode cX5_find 23 = .ok (.getfield 76, 3) := by decide +kernel
theorem dX5_find_26 : decode cX5_find 26 = .ok (.iload 4, 2) := by decide +kernel
theorem dX5_find_28 : decode cX5_find 28 = .ok (.iaload, 1) := by decide +kernel
theorem dX5_find_29 : decode cX5_find 29 = .ok (.if_icmp .lt 5, 3) := by decide +kernel
theorem dX5_find_32 : decode cX5_find 32 = .ok (.iconst (-1), 1) := by decide +kernel
theorem dX5_find_33 : decode cX5_find 33 = .ok (.ireturn, 1) := by decide +kernel
theorem dX5_find_34 : decode cX5_find 34 = .ok (.aload_n 0, 1) := by decide +kernel
theorem dX5_find_35 : decode cX5_find 35 = .ok (.getfield 23, 3) := by decide +kernel
theorem dX5_find_38 : decode cX5_find 38 = .ok (.getfield 78, 3) := by decide +kernel
theorem dX5_find_41 : decode cX5_find 41 = .ok (.aload_n 0, 1) := by decide +kernel
theorem dX5_find_42 : decode cX5_find 42 = .ok (.getfield 30, 3) := by decide +kernel
theorem dX5_find_45 : decode cX5_find 45 = .ok (.getfield 81, 3) := by decide +kernel
theorem dX5_find_48 : decode cX5_find 48 = .ok (.iload 4, 2) := by decide +kernel
theorem dX5_find_50 : decode cX5_find 50 = .ok (.iaload, 1) := by decide +kernel
theorem dX5_find_51 : decode cX5_find 51 = .ok (.bipush 8, 2) := by decide +kernel
theorem dX5_find_53 : decode cX5_find 53 = .ok (.iadd, 1) := by decide +kernel
theorem dX5_find_54 : decode cX5_find 54 = .ok (.iload_n 3, 1) := by decide +kernel
theorem dX5_find_55 : decode cX5_find 55 = .ok (.iadd, 1) := by decide +kernel
theorem dX5_find_56 : decode cX5_find 56 = .ok (.iaload, 1) := by decide +kernel
theorem dX5_find_57 : decode cX5_find 57 = .ok (.ireturn, 1) := by decide +kernel
set_option maxRecDepth 20000 in
theorem ggX5_snapshot_X4_leastNotOpen : GoodIn wsX5_snapshot wsX4_leastNotOpen := goodIn_r _ [8, 9, 27, 28] (by decide +kernel) (by decide +kernel)
set_option maxRecDepth 20000 in
theorem gX5_snapshot_X4_leastNotOpen : GoodIn wsX5_snapshot (wsV RX5 84 RX4 yX4_leastNotOpen wsX4_leastNotOpen) := goodIn_app (goodIn_of _ (by decide +kernel)) ggX5_snapshot_X4_leastNotOpen
set_option maxRecDepth 20000 in
theorem ggX5_snapshot_X4_open : GoodIn wsX5_snapshot wsX4_open := goodIn_r _ [13, 9, 14, 27, 28] (by decide +kernel) (by decide +kernel)
set_option maxRecDepth 20000 in
theorem gX5_snapshot_X4_open : GoodIn wsX5_snapshot (wsV RX5 91 RX4 yX4_open wsX4_open) := goodIn_app (goodIn_of _ (by decide +kernel)) ggX5_snapshot_X4_open
theorem dX5_snapshot_0 : decode cX5_snapshot 0 = .ok (.aload_n 0, 1) := by decide +kernel
theorem dX5_snapshot_1 : decode cX5_snapshot 1 = .ok (.getfield 61, 3) := by decide +kernel
theorem dX5_snapshot_4 : decode cX5_snapshot 4 = .ok (.ifCond .eq 6, 3) := by decide +kernel
theorem dX5_snapshot_7 : decode cX5_snapshot 7 = .ok (.bipush (-3), 2) := by decide +kernel
theorem dX5_snapshot_9 : decode cX5_snapshot 9 = .ok (.ireturn, 1) := by decide +kernel
theorem dX5_snapshot_10 : decode cX5_snapshot 10 = .ok (.aload_n 0, 1) := by decide +kernel
theorem dX5_snapshot_11 : decode cX5_snapshot 11 = .ok (.getfield 37, 3) := by decide +kernel
theorem dX5_snapshot_14 : decode cX5_snapshot 14 = .ok (.invokevirtual 84, 3) := by decide +kernel
theorem dX5_snapshot_17 : decode cX5_snapshot 17 = .ok (.istore_n 1, 1) := by decide +kernel
theorem dX5_snapshot_18 : decode cX5_snapshot 18 = .ok (.iload_n 1, 1) := by decide +kernel
theorem dX5_snapshot_19 : decode cX5_snapshot 19 = .ok (.iconst (-1), 1) := by decide +kernel
theorem dX5_snapshot_20 : decode cX5_snapshot 20 = .ok (.if_icmp .ne 6, 3) := by decide +kernel
theorem dX5_snapshot_23 : decode cX5_snapshot 23 = .ok (.bipush (-4), 2) := by decide +kernel
theorem dX5_snapshot_25 : decode cX5_snapshot 25 = .ok (.ireturn, 1) := by decide +kernel
theorem dX5_snapshot_26 : decode cX5_snapshot 26 = .ok (.aload_n 0, 1) := by decide +kernel
theorem dX5_snapshot_27 : decode cX5_snapshot 27 = .ok (.getfield 37, 3) := by decide +kernel
theorem dX5_snapshot_30 : decode cX5_snapshot 30 = .ok (.iload_n 1, 1) := by decide +kernel
theorem dX5_snapshot_31 : decode cX5_snapshot 31 = .ok (.aload_n 0, 1) := by decide +kernel
theorem dX5_snapshot_32 : decode cX5_snapshot 32 = .ok (.getfield 88, 3) := by decide +kernel
theorem dX5_snapshot_35 : decode cX5_snapshot 35 = .ok (.invokevirtual 91, 3) := by decide +kernel
theorem dX5_snapshot_38 : decode cX5_snapshot 38 = .ok (.iload_n 1, 1) := by decide +kernel
theorem dX5_snapshot_39 : decode cX5_snapshot 39 = .ok (.ireturn, 1) := by decide +kernel
set_option maxRecDepth 20000 in
theorem ggX5_release_X4_isOpen : GoodIn wsX5_release wsX4_isOpen := goodIn_r _ [7, 8, 25, 26] (by decide +kernel) (by decide +kernel)
set_option maxRecDepth 20000 in
theorem gX5_release_X4_isOpen : GoodIn wsX5_release (wsV RX5 95 RX4 yX4_isOpen wsX4_isOpen) := goodIn_app (goodIn_of _ (by decide +kernel)) ggX5_release_X4_isOpen
set_option maxRecDepth 20000 in
theorem ggX5_release_X4_close : GoodIn wsX5_release wsX4_close := goodIn_r _ [12, 8, 25, 26] (by decide +kernel) (by decide +kernel)
set_option maxRecDepth 20000 in
theorem gX5_release_X4_close : GoodIn wsX5_release (wsV RX5 98 RX4 yX4_close wsX4_close) := goodIn_app (goodIn_of _ (by decide +kernel)) ggX5_release_X4_close
theorem dX5_release_0 : decode cX5_release 0 = .ok (.aload_n 0, 1) := by decide +kernel
theorem dX5_release_1 : decode cX5_release 1 = .ok (.getfield 61, 3) := by decide +kernel
theorem dX5_release_4 : decode cX5_release 4 = .ok (.ifCond .eq 6, 3) := by decide +kernel
theorem dX5_release_7 : decode cX5_release 7 = .ok (.bipush (-3), 2) := by decide +kernel
theorem dX5_release_9 : decode cX5_release 9 = .ok (.ireturn, 1) := by decide +kernel
theorem dX5_release_10 : decode cX5_release 10 = .ok (.aload_n 0, 1) := by decide +kernel
theorem dX5_release_11 : decode cX5_release 11 = .ok (.getfield 37, 3) := by decide +kernel
theorem dX5_release_14 : decode cX5_release 14 = .ok (.iload_n 1, 1) := by decide +kernel
theorem dX5_release_15 : decode cX5_release 15 = .ok (.invokevirtual 95, 3) := by decide +kernel
theorem dX5_release_18 : decode cX5_release 18 = .ok (.ifCond .ne 5, 3) := by decide +kernel
theorem dX5_release_21 : decode cX5_release 21 = .ok (.iconst (-1), 1) := by decide +kernel
theorem dX5_release_22 : decode cX5_release 22 = .ok (.ireturn, 1) := by decide +kernel
theorem dX5_release_23 : decode cX5_release 23 = .ok (.aload_n 0, 1) := by decide +kernel
theorem dX5_release_24 : decode cX5_release 24 = .ok (.getfield 37, 3) := by decide +kernel
theorem dX5_release_27 : decode cX5_release 27 = .ok (.iload_n 1, 1) := by decide +kernel
theorem dX5_release_28 : decode cX5_release 28 = .ok (.invokevirtual 98, 3) := by decide +kernel
theorem dX5_release_31 : decode cX5_release 31 = .ok (.iconst 1, 1) := by decide +kernel
theorem dX5_release_32 : decode cX5_release 32 = .ok (.ireturn, 1) := by decide +kernel
set_option maxRecDepth 20000 in
theorem ggX5_sync_X3_settle : GoodIn wsX5_sync wsX3_settle := goodIn_r _ [7, 8, 21, 22, 23, 24, 25, 26] (by decide +kernel) (by decide +kernel)
set_option maxRecDepth 20000 in
theorem gX5_sync_X3_settle : GoodIn wsX5_sync (wsV RX5 101 RX3 yX3_settle wsX3_settle) := goodIn_app (goodIn_of _ (by decide +kernel)) ggX5_sync_X3_settle
theorem dX5_sync_0 : decode cX5_sync 0 = .ok (.aload_n 0, 1) := by decide +kernel
theorem dX5_sync_1 : decode cX5_sync 1 = .ok (.getfield 61, 3) := by decide +kernel
theorem dX5_sync_4 : decode cX5_sync 4 = .ok (.ifCond .eq 6, 3) := by decide +kernel
theorem dX5_sync_7 : decode cX5_sync 7 = .ok (.bipush (-3), 2) := by decide +kernel
theorem dX5_sync_9 : decode cX5_sync 9 = .ok (.ireturn, 1) := by decide +kernel
theorem dX5_sync_10 : decode cX5_sync 10 = .ok (.aload_n 0, 1) := by decide +kernel
theorem dX5_sync_11 : decode cX5_sync 11 = .ok (.getfield 23, 3) := by decide +kernel
theorem dX5_sync_14 : decode cX5_sync 14 = .ok (.invokevirtual 101, 3) := by decide +kernel
theorem dX5_sync_17 : decode cX5_sync 17 = .ok (.ireturn, 1) := by decide +kernel
set_option maxRecDepth 20000 in
theorem ggX5_crash_X3_loseBehind : GoodIn wsX5_crash wsX3_loseBehind := goodIn_r _ [7, 8, 9, 10, 56, 57, 58, 59, 60, 61] (by decide +kernel) (by decide +kernel)
set_option maxRecDepth 20000 in
theorem gX5_crash_X3_loseBehind : GoodIn wsX5_crash (wsV RX5 104 RX3 yX3_loseBehind wsX3_loseBehind) := goodIn_app (goodIn_of _ (by decide +kernel)) ggX5_crash_X3_loseBehind
set_option maxRecDepth 20000 in
theorem ggX5_crash_X5_shut : GoodIn wsX5_crash wsX5_shut := goodIn_r _ [15, 1, 2, 16, 17, 18, 19, 20, 21, 6, 22, 8, 23, 24, 25, 26, 27, 28, 29, 30, 31, 32, 33, 34, 35, 36, 37, 38, 39, 40, 41, 42, 43, 44, 45, 46, 47, 48, 49, 50, 51, 52, 53, 54, 55, 56, 57, 58, 59, 60, 61, 62, 63, 64, 65, 66, 67, 68, 69] (by decide +kernel) (by decide +kernel)
set_option maxRecDepth 20000 in
theorem gX5_crash_X5_shut : GoodIn wsX5_crash (wsV RX5 108 RX5 yX5_shut wsX5_shut) := goodIn_app (goodIn_of _ (by decide +kernel)) ggX5_crash_X5_shut
theorem dX5_crash_0 : decode cX5_crash 0 = .ok (.aload_n 0, 1) := by decide +kernel
theorem dX5_crash_1 : decode cX5_crash 1 = .ok (.getfield 61, 3) := by decide +kernel
theorem dX5_crash_4 : decode cX5_crash 4 = .ok (.ifCond .eq 6, 3) := by decide +kernel
theorem dX5_crash_7 : decode cX5_crash 7 = .ok (.bipush (-3), 2) := by decide +kernel
theorem dX5_crash_9 : decode cX5_crash 9 = .ok (.ireturn, 1) := by decide +kernel
theorem dX5_crash_10 : decode cX5_crash 10 = .ok (.iload_n 1, 1) := by decide +kernel
theorem dX5_crash_11 : decode cX5_crash 11 = .ok (.ifCond .ge 6, 3) := by decide +kernel
theorem dX5_crash_14 : decode cX5_crash 14 = .ok (.bipush (-2), 2) := by decide +kernel
theorem dX5_crash_16 : decode cX5_crash 16 = .ok (.ireturn, 1) := by decide +kernel
theorem dX5_crash_17 : decode cX5_crash 17 = .ok (.aload_n 0, 1) := by decide +kernel
theorem dX5_crash_18 : decode cX5_crash 18 = .ok (.getfield 23, 3) := by decide +kernel
theorem dX5_crash_21 : decode cX5_crash 21 = .ok (.iload_n 1, 1) := by decide +kernel
theorem dX5_crash_22 : decode cX5_crash 22 = .ok (.invokevirtual 104, 3) := by decide +kernel
theorem dX5_crash_25 : decode cX5_crash 25 = .ok (.istore_n 2, 1) := by decide +kernel
theorem dX5_crash_26 : decode cX5_crash 26 = .ok (.aload_n 0, 1) := by decide +kernel
theorem dX5_crash_27 : decode cX5_crash 27 = .ok (.invokevirtual 108, 3) := by decide +kernel
theorem dX5_crash_30 : decode cX5_crash 30 = .ok (.iload_n 2, 1) := by decide +kernel
theorem dX5_crash_31 : decode cX5_crash 31 = .ok (.ireturn, 1) := by decide +kernel
set_option maxRecDepth 20000 in
theorem ggX5_clean_X3_settle : GoodIn wsX5_clean wsX3_settle := goodIn_r _ [9, 10, 159, 160, 161, 162, 163, 164] (by decide +kernel) (by decide +kernel)
set_option maxRecDepth 20000 in
theorem gX5_clean_X3_settle : GoodIn wsX5_clean (wsV RX5 101 RX3 yX3_settle wsX3_settle) := goodIn_app (goodIn_of _ (by decide +kernel)) ggX5_clean_X3_settle
set_option maxRecDepth 20000 in
theorem ggX5_clean_X5_isDue : GoodIn wsX5_clean wsX5_isDue := goodIn_r _ [15, 2, 16, 17, 4, 18, 19, 20, 21, 8, 22, 23, 24, 25, 26, 27, 28, 29, 30, 31, 32, 33, 34, 35, 36, 37, 38, 39, 40, 41, 42, 43, 44, 45, 46, 47, 48, 49, 50, 51, 52, 53, 54, 55, 147, 148, 149, 150, 151, 152, 153, 154, 155, 156, 157, 158, 159, 160, 161, 162, 163, 164, 165, 166, 167, 168, 169, 170, 171, 172] (by decide +kernel) (by decide +kernel)
set_option maxRecDepth 20000 in
theorem gX5_clean_X5_isDue : GoodIn wsX5_clean (wsV RX5 114 RX5 yX5_isDue wsX5_isDue) := goodIn_app (goodIn_of _ (by decide +kernel)) ggX5_clean_X5_isDue
set_option maxRecDepth 20000 in
theorem ggX5_clean_X5_gatherSurvivors : GoodIn wsX5_clean wsX5_gatherSurvivors := goodIn_r _ [59, 60, 4, 18, 61, 62, 30, 31, 27, 32, 33, 34, 35, 36, 37, 38, 39, 40, 41, 42, 43, 44, 45, 46, 147, 148, 149, 150, 151, 152, 153, 154, 155, 156, 157, 158, 165, 166, 167, 168, 169, 170, 171, 172] (by decide +kernel) (by decide +kernel)
set_option maxRecDepth 20000 in
theorem gX5_clean_X5_gatherSurvivors : GoodIn wsX5_clean (wsV RX5 118 RX5 yX5_gatherSurvivors wsX5_gatherSurvivors) := goodIn_app (goodIn_of _ (by decide +kernel)) ggX5_clean_X5_gatherSurvivors
set_option maxRecDepth 20000 in
theorem ggX5_clean_X5_survivorsHaveRoom : GoodIn wsX5_clean wsX5_survivorsHaveRoom := goodIn_r _ [66, 2, 60, 4, 61, 67, 68, 69, 8, 70, 71, 72, 73, 48, 49, 27, 50, 51, 52, 53, 54, 55, 74, 75, 76, 77, 78, 79, 20, 21, 22, 23, 147, 148, 149, 150, 151, 152, 153, 154, 155, 156, 157, 158, 159, 160, 161, 162, 163, 164, 165, 166, 167, 168, 169, 170] (by decide +kernel) (by decide +kernel)
set_option maxRecDepth 20000 in
theorem gX5_clean_X5_survivorsHaveRoom : GoodIn wsX5_clean (wsV RX5 121 RX5 yX5_survivorsHaveRoom wsX5_survivorsHaveRoom) := goodIn_app (goodIn_of _ (by decide +kernel)) ggX5_clean_X5_survivorsHaveRoom
set_option maxRecDepth 20000 in
theorem ggX5_clean_X5_copySurvivors : GoodIn wsX5_clean wsX5_copySurvivors := goodIn_r _ [83, 60, 4, 61, 84, 36, 37, 38, 73, 48, 49, 27, 50, 51, 52, 53, 54, 55, 85, 86, 87, 14, 88, 2, 16, 89, 90, 91, 92, 93, 8, 94, 71, 95, 68, 69, 70, 72, 96, 75, 76, 77, 78, 79, 20, 21, 22, 23, 97, 98, 99, 100, 101, 102, 103, 104, 10, 105, 106, 107, 108, 109, 110, 111, 112, 33, 34, 39, 113, 114, 115, 116, 117, 118, 119, 120, 121, 147, 148, 149, 150, 151, 152, 153, 154, 155, 156, 157, 158, 165, 166, 167, 168, 169, 170, 159, 160, 161, 162, 163, 164] (by decide +kernel) (by decide +kernel)
set_option maxRecDepth 20000 in
theorem gX5_clean_X5_copySurvivors : GoodIn wsX5_clean (wsV RX5 125 RX5 yX5_copySurvivors wsX5_copySurvivors) := goodIn_app (goodIn_of _ (by decide +kernel)) ggX5_clean_X5_copySurvivors
set_option maxRecDepth 20000 in
theorem ggX5_clean_X5_shut : GoodIn wsX5_clean wsX5_shut := goodIn_r _ [125, 1, 2, 16, 4, 18, 5, 6, 7, 8, 9, 10, 126, 127, 128, 27, 129, 111, 130, 131, 132, 133, 33, 134, 135, 136, 43, 137, 138, 139, 140, 141, 45, 147, 148, 149, 150, 151, 152, 153, 154, 155, 156, 157, 158, 159, 160, 161, 162, 163, 164, 165, 166, 167, 168, 169, 170, 171, 172] (by decide +kernel) (by decide +kernel)
set_option maxRecDepth 20000 in
theorem gX5_clean_X5_shut : GoodIn wsX5_clean (wsV RX5 108 RX5 yX5_shut wsX5_shut) := goodIn_app (goodIn_of _ (by decide +kernel)) ggX5_clean_X5_shut
set_option maxRecDepth 20000 in
theorem ggX5_clean_X3_wipe : GoodIn wsX5_clean wsX3_wipe := goodIn_r _ [145, 23, 72, 159, 160, 161, 162, 163, 164] (by decide +kernel) (by decide +kernel)
set_option maxRecDepth 20000 in
theorem gX5_clean_X3_wipe : GoodIn wsX5_clean (wsV RX5 128 RX3 yX3_wipe wsX3_wipe) := goodIn_app (goodIn_of _ (by decide +kernel)) ggX5_clean_X3_wipe
set_option maxRecDepth 20000 in
theorem ggX5_clean_X1_forget : GoodIn wsX5_clean wsX1_forget := goodIn_r _ [133, 111, 33, 165, 166, 167, 168, 169, 170] (by decide +kernel) (by decide +kernel)
set_option maxRecDepth 20000 in
theorem gX5_clean_X1_forget : GoodIn wsX5_clean (wsV RX5 131 RX1 yX1_forget wsX1_forget) := goodIn_app (goodIn_of _ (by decide +kernel)) ggX5_clean_X1_forget
theorem dX5_clean_0 : decode cX5_clean 0 = .ok (.aload_n 0, 1) := by decide +kernel
theorem dX5_clean_1 : decode cX5_clean 1 = .ok (.getfield 61, 3) := by decide +kernel
theorem dX5_clean_4 : decode cX5_clean 4 = .ok (.ifCond .eq 6, 3) := by decide +kernel
theorem dX5_clean_7 : decode cX5_clean 7 = .ok (.bipush (-3), 2) := by decide +kernel
theorem dX5_clean_9 : decode cX5_clean 9 = .ok (.ireturn, 1) := by decide +kernel
theorem dX5_clean_10 : decode cX5_clean 10 = .ok (.iload_n 2, 1) := by decide +kernel
theorem dX5_clean_11 : decode cX5_clean 11 = .ok (.iconst 1, 1) := by decide +kernel
theorem dX5_clean_12 : decode cX5_clean 12 = .ok (.if_icmp .lt 23, 3) := by decide +kernel
theorem dX5_clean_15 : decode cX5_clean 15 = .ok (.iload_n 2, 1) := by decide +kernel
theorem dX5_clean_16 : decode cX5_clean 16 = .ok (.bipush 100, 2) := by decide +kernel
theorem dX5_clean_18 : decode cX5_clean 18 = .ok (.if_icmp .gt 17, 3) := by decide +kernel
theorem dX5_clean_21 : decode cX5_clean 21 = .ok (.iload_n 1, 1) := by decide +kernel
theorem dX5_clean_22 : decode cX5_clean 22 = .ok (.ifCond .lt 13, 3) := by decide +kernel
theorem dX5_clean_25 : decode cX5_clean 25 = .ok (.iload_n 1, 1) := by decide +kernel
theorem dX5_clean_26 : decode cX5_clean 26 = .ok (.iload_n 2, 1) := by decide +kernel
theorem dX5_clean_27 : decode cX5_clean 27 = .ok (.if_icmp .gt 8, 3) := by decide +kernel
theorem dX5_clean_30 : decode cX5_clean 30 = .ok (.iload_n 3, 1) := by decide +kernel
theorem dX5_clean_31 : decode cX5_clean 31 = .ok (.iconst (-1), 1) := by decide +kernel
theorem dX5_clean_32 : decode cX5_clean 32 = .ok (.if_icmp .ge 6, 3) := by decide +kernel
theorem dX5_clean_35 : decode cX5_clean 35 = .ok (.bipush (-2), 2) := by decide +kernel
theorem dX5_clean_37 : decode cX5_clean 37 = .ok (.ireturn, 1) := by decide +kernel
theorem dX5_clean_38 : decode cX5_clean 38 = .ok (.aload_n 0, 1) := by decide +kernel
theorem dX5_clean_39 : decode cX5_clean 39 = .ok (.getfield 23, 3) := by decide +kernel
theorem dX5_clean_42 : decode cX5_clean 42 = .ok (.invokevirtual 101, 3) := by decide +kernel
theorem dX5_clean_45 : decode cX5_clean 45 = .ok (.pop, 1) := by decide +kernel
theorem dX5_clean_46 : decode cX5_clean 46 = .ok (.iconst 0, 1) := by decide +kernel
theorem dX5_clean_47 : decode cX5_clean 47 = .ok (.istore 4, 2) := by decide +kernel
theorem dX5_clean_49 : decode cX5_clean 49 = .ok (.iconst 0, 1) := by decide +kernel
theorem dX5_clean_50 : decode cX5_clean 50 = .ok (.istore 5, 2) := by decide +kernel
theorem dX5_clean_52 : decode cX5_clean 52 = .ok (.iconst 0, 1) := by decide +kernel
theorem dX5_clean_53 : decode cX5_clean 53 = .ok (.istore 6, 2) := by decide +kernel
theorem dX5_clean_55 : decode cX5_clean 55 = .ok (.iload 6, 2) := by decide +kernel
theorem dX5_clean_57 : decode cX5_clean 57 = .ok (.aload_n 0, 1) := by decide +kernel
theorem dX5_clean_58 : decode cX5_clean 58 = .ok (.getfield 23, 3) := by decide +kernel
theorem dX5_clean_61 : decode cX5_clean 61 = .ok (.getfield 111, 3) := by decide +kernel
theorem dX5_clean_64 : decode cX5_clean 64 = .ok (.if_icmp .ge 114, 3) := by decide +kernel
theorem dX5_clean_67 : decode cX5_clean 67 = .ok (.aload_n 0, 1) := by decide +kernel
theorem dX5_clean_68 : decode cX5_clean 68 = .ok (.iload 6, 2) := by decide +kernel
theorem dX5_clean_70 : decode cX5_clean 70 = .ok (.iload_n 1, 1) := by decide +kernel
theorem dX5_clean_71 : decode cX5_clean 71 = .ok (.iload_n 2, 1) := by decide +kernel
theorem dX5_clean_72 : decode cX5_clean 72 = .ok (.invokevirtual 114, 3) := by decide +kernel
theorem dX5_clean_75 : decode cX5_clean 75 = .ok (.ifCond .ne 6, 3) := by decide +kernel
theorem dX5_clean_78 : decode cX5_clean 78 = .ok (.goto 94, 3) := by decide +kernel
theorem dX5_clean_81 : decode cX5_clean 81 = .ok (.aload_n 0, 1) := by decide +kernel
theorem dX5_clean_82 : decode cX5_clean 82 = .ok (.iload 6, 2) := by decide +kernel
theorem dX5_clean_84 : decode cX5_clean 84 = .ok (.invokevirtual 118, 3) := by decide +kernel
theorem dX5_clean_87 : decode cX5_clean 87 = .ok (.aload_n 0, 1) := by decide +kernel
theorem dX5_clean_88 : decode cX5_clean 88 = .ok (.invokevirtual 121, 3) := by decide +kernel
theorem dX5_clean_91 : decode cX5_clean 91 = .ok (.ifCond .ne 6, 3) := by decide +kernel
theorem dX5_clean_94 : decode cX5_clean 94 = .ok (.goto 84, 3) := by decide +kernel
theorem dX5_clean_97 : decode cX5_clean 97 = .ok (.iload_n 3, 1) := by decide +kernel
theorem dX5_clean_98 : decode cX5_clean 98 = .ok (.iconst (-1), 1) := by decide +kernel
theorem dX5_clean_99 : decode cX5_clean 99 = .ok (.if_icmp .ne 9, 3) := by decide +kernel
theorem dX5_clean_102 : decode cX5_clean 102 = .ok (.sipush 200, 3) := by decide +kernel
theorem dX5_clean_105 : decode cX5_clean 105 = .ok (.goto 7, 3) := by decide +kernel
theorem dX5_clean_108 : decode cX5_clean 108 = .ok (.iload_n 3, 1) := by decide +kernel
theorem dX5_clean_109 : decode cX5_clean 109 = .ok (.iload 4, 2) := by decide +kernel
theorem dX5_clean_111 : decode cX5_clean 111 = .ok (.isub, 1) := by decide +kernel
theorem dX5_clean_112 : decode cX5_clean 112 = .ok (.istore 7, 2) := by decide +kernel
theorem dX5_clean_114 : decode cX5_clean 114 = .ok (.aload_n 0, 1) := by decide +kernel
theorem dX5_clean_115 : decode cX5_clean 115 = .ok (.iload 7, 2) := by decide +kernel
theorem dX5_clean_117 : decode cX5_clean 117 = .ok (.invokevirtual 125, 3) := by decide +kernel
theorem dX5_clean_120 : decode cX5_clean 120 = .ok (.istore 8, 2) := by decide +kernel
theorem dX5_clean_122 : decode cX5_clean 122 = .ok (.iload 8, 2) := by decide +kernel
theorem dX5_clean_124 : decode cX5_clean 124 = .ok (.iload 7, 2) := by decide +kernel
theorem dX5_clean_126 : decode cX5_clean 126 = .ok (.if_icmp .le 10, 3) := by decide +kernel
theorem dX5_clean_129 : decode cX5_clean 129 = .ok (.aload_n 0, 1) := by decide +kernel
theorem dX5_clean_130 : decode cX5_clean 130 = .ok (.invokevirtual 108, 3) := by decide +kernel
theorem dX5_clean_133 : decode cX5_clean 133 = .ok (.goto 45, 3) := by decide +kernel
theorem dX5_clean_136 : decode cX5_clean 136 = .ok (.iload 4, 2) := by decide +kernel
theorem dX5_clean_138 : decode cX5_clean 138 = .ok (.iload 8, 2) := by decide +kernel
theorem dX5_clean_140 : decode cX5_clean 140 = .ok (.iadd, 1) := by decide +kernel
theorem dX5_clean_141 : decode cX5_clean 141 = .ok (.istore 4, 2) := by decide +kernel
theorem dX5_clean_143 : decode cX5_clean 143 = .ok (.aload_n 0, 1) := by decide +kernel
theorem dX5_clean_144 : decode cX5_clean 144 = .ok (.getfield 23, 3) := by decide +kernel
theorem dX5_clean_147 : decode cX5_clean 147 = .ok (.invokevirtual 101, 3) := by decide +kernel
theorem dX5_clean_150 : decode cX5_clean 150 = .ok (.pop, 1) := by decide +kernel
theorem dX5_clean_151 : decode cX5_clean 151 = .ok (.aload_n 0, 1) := by decide +kernel
theorem dX5_clean_152 : decode cX5_clean 152 = .ok (.getfield 23, 3) := by decide +kernel
theorem dX5_clean_155 : decode cX5_clean 155 = .ok (.iload 6, 2) := by decide +kernel
theorem dX5_clean_157 : decode cX5_clean 157 = .ok (.invokevirtual 128, 3) := by decide +kernel
theorem dX5_clean_160 : decode cX5_clean 160 = .ok (.aload_n 0, 1) := by decide +kernel
theorem dX5_clean_161 : decode cX5_clean 161 = .ok (.getfield 30, 3) := by decide +kernel
theorem dX5_clean_164 : decode cX5_clean 164 = .ok (.iload 6, 2) := by decide +kernel
theorem dX5_clean_166 : decode cX5_clean 166 = .ok (.invokevirtual 131, 3) := by decide +kernel
theorem dX5_clean_169 : decode cX5_clean 169 = .ok (.iinc 5 1, 3) := by decide +kernel
theorem dX5_clean_172 : decode cX5_clean 172 = .ok (.iinc 6 1, 3) := by decide +kernel
theorem dX5_clean_175 : decode cX5_clean 175 = .ok (.goto (-120), 3) := by decide +kernel
theorem dX5_clean_178 : decode cX5_clean 178 = .ok (.iload 5, 2) := by decide +kernel
theorem dX5_clean_180 : decode cX5_clean 180 = .ok (.ireturn, 1) := by decide +kernel
set_option maxRecDepth 20000 in
theorem ggX5_reopen_X5_readSegment : GoodIn wsX5_reopen wsX5_readSegment := goodIn_r _ [11, 4, 12, 6, 3, 13, 14, 15, 16, 17, 18, 19, 20, 21, 22, 23, 24, 25, 26, 27, 28, 29, 30, 31, 32, 33, 34, 35, 36, 37, 38, 39, 40, 41, 42, 43, 44, 45, 46, 47, 48, 49, 50, 51, 52, 53, 54, 55, 56, 57, 58, 59, 60, 61, 62, 63, 64, 65, 66, 67, 10, 68, 2, 69, 70, 79, 80, 81, 82, 83, 84, 85, 86, 87, 88, 89, 90, 91, 92, 93, 94, 95, 96, 97, 98, 99, 100, 101, 102] (by decide +kernel) (by decide +kernel)
set_option maxRecDepth 20000 in
theorem gX5_reopen_X5_readSegment : GoodIn wsX5_reopen (wsV RX5 137 RX5 yX5_readSegment wsX5_readSegment) := goodIn_app (goodIn_of _ (by decide +kernel)) ggX5_reopen_X5_readSegment
set_option maxRecDepth 20000 in
theorem ggX5_reopen_X1_keysWithSomething : GoodIn wsX5_reopen wsX1_keysWithSomething := goodIn_r _ [74, 57, 60, 75, 76, 77, 53, 78, 58, 97, 98, 99, 100, 101, 102] (by decide +kernel) (by decide +kernel)
set_option maxRecDepth 20000 in
theorem gX5_reopen_X1_keysWithSomething : GoodIn wsX5_reopen (wsV RX5 140 RX1 yX1_keysWithSomething wsX1_keysWithSomething) := goodIn_app (goodIn_of _ (by decide +kernel)) ggX5_reopen_X1_keysWithSomething
theorem dX5_reopen_0 : decode cX5_reopen 0 = .ok (.aload_n 0, 1) := by decide +kernel
theorem dX5_reopen_1 : decode cX5_reopen 1 = .ok (.getfield 61, 3) := by decide +kernel
theorem dX5_reopen_4 : decode cX5_reopen 4 = .ok (.ifCond .ne 6, 3) := by decide +kernel
theorem dX5_reopen_7 : decode cX5_reopen 7 = .ok (.bipush (-3), 2) := by decide +kernel
theorem dX5_reopen_9 : decode cX5_reopen 9 = .ok (.ireturn, 1) := by decide +kernel
theorem dX5_reopen_10 : decode cX5_reopen 10 = .ok (.aload_n 0, 1) := by decide +kernel
theorem dX5_reopen_11 : decode cX5_reopen 11 = .ok (.iconst 0, 1) := by decide +kernel
theorem dX5_reopen_12 : decode cX5_reopen 12 = .ok (.putfield 61, 3) := by decide +kernel
theorem dX5_reopen_15 : decode cX5_reopen 15 = .ok (.aload_n 0, 1) := by decide +kernel
theorem dX5_reopen_16 : decode cX5_reopen 16 = .ok (.iconst 0, 1) := by decide +kernel
theorem dX5_reopen_17 : decode cX5_reopen 17 = .ok (.putfield 134, 3) := by decide +kernel
theorem dX5_reopen_20 : decode cX5_reopen 20 = .ok (.aload_n 0, 1) := by decide +kernel
theorem dX5_reopen_21 : decode cX5_reopen 21 = .ok (.iconst 0, 1) := by decide +kernel
theorem dX5_reopen_22 : decode cX5_reopen 22 = .ok (.putfield 88, 3) := by decide +kernel
theorem dX5_reopen_25 : decode cX5_reopen 25 = .ok (.iconst 0, 1) := by decide +kernel
theorem dX5_reopen_26 : decode cX5_reopen 26 = .ok (.istore_n 1, 1) := by decide +kernel
theorem dX5_reopen_27 : decode cX5_reopen 27 = .ok (.iload_n 1, 1) := by decide +kernel
theorem dX5_reopen_28 : decode cX5_reopen 28 = .ok (.aload_n 0, 1) := by decide +kernel
theorem dX5_reopen_29 : decode cX5_reopen 29 = .ok (.getfield 23, 3) := by decide +kernel
theorem dX5_reopen_32 : decode cX5_reopen 32 = .ok (.getfield 111, 3) := by decide +kernel
theorem dX5_reopen_35 : decode cX5_reopen 35 = .ok (.if_icmp .ge 14, 3) := by decide +kernel
theorem dX5_reopen_38 : decode cX5_reopen 38 = .ok (.aload_n 0, 1) := by decide +kernel
theorem dX5_reopen_39 : decode cX5_reopen 39 = .ok (.iload_n 1, 1) := by decide +kernel
theorem dX5_reopen_40 : decode cX5_reopen 40 = .ok (.invokevirtual 137, 3) := by decide +kernel
theorem dX5_reopen_43 : decode cX5_reopen 43 = .ok (.iinc 1 1, 3) := by decide +kernel
theorem dX5_reopen_46 : decode cX5_reopen 46 = .ok (.goto (-19), 3) := by decide +kernel
theorem dX5_reopen_49 : decode cX5_reopen 49 = .ok (.aload_n 0, 1) := by decide +kernel
theorem dX5_reopen_50 : decode cX5_reopen 50 = .ok (.getfield 30, 3) := by decide +kernel
theorem dX5_reopen_53 : decode cX5_reopen 53 = .ok (.aload_n 0, 1) := by decide +kernel
theorem dX5_reopen_54 : decode cX5_reopen 54 = .ok (.getfield 88, 3) := by decide +kernel
theorem dX5_reopen_57 : decode cX5_reopen 57 = .ok (.invokevirtual 140, 3) := by decide +kernel
theorem dX5_reopen_60 : decode cX5_reopen 60 = .ok (.ireturn, 1) := by decide +kernel
theorem dX5_badAt_0 : decode cX5_badAt 0 = .ok (.aload_n 0, 1) := by decide +kernel
theorem dX5_badAt_1 : decode cX5_badAt 1 = .ok (.getfield 134, 3) := by decide +kernel
theorem dX5_badAt_4 : decode cX5_badAt 4 = .ok (.ifCond .eq 10, 3) := by decide +kernel
theorem dX5_badAt_7 : decode cX5_badAt 7 = .ok (.aload_n 0, 1) := by decide +kernel
theorem dX5_badAt_8 : decode cX5_badAt 8 = .ok (.getfield 143, 3) := by decide +kernel
theorem dX5_badAt_11 : decode cX5_badAt 11 = .ok (.goto 4, 3) := by decide +kernel
theorem dX5_badAt_14 : decode cX5_badAt 14 = .ok (.iconst (-1), 1) := by decide +kernel
theorem dX5_badAt_15 : decode cX5_badAt 15 = .ok (.ireturn, 1) := by decide +kernel
set_option maxRecDepth 20000 in
theorem ggX5_poke_X5_cellOf : GoodIn wsX5_poke wsX5_cellOf := goodIn_r _ [8, 2, 9, 10, 11, 12, 13, 14, 15, 16, 17, 18, 19, 20, 21, 22, 23, 24, 25, 26, 27, 28, 29, 36, 37, 38, 39, 40, 41, 30, 31, 32, 33, 34, 35] (by decide +kernel) (by decide +kernel)
set_option maxRecDepth 20000 in
theorem gX5_poke_X5_cellOf : GoodIn wsX5_poke (wsV RX5 146 RX5 yX5_cellOf wsX5_cellOf) := goodIn_app (goodIn_of _ (by decide +kernel)) ggX5_poke_X5_cellOf
theorem dX5_poke_0 : decode cX5_poke 0 = .ok (.aload_n 0, 1) := by decide +kernel
theorem dX5_poke_1 : decode cX5_poke 1 = .ok (.iload_n 1, 1) := by decide +kernel
theorem dX5_poke_2 : decode cX5_poke 2 = .ok (.iload_n 2, 1) := by decide +kernel
theorem dX5_poke_3 : decode cX5_poke 3 = .ok (.invokevirtual 146, 3) := by decide +kernel
theorem dX5_poke_6 : decode cX5_poke 6 = .ok (.istore 4, 2) := by decide +kernel
theorem dX5_poke_8 : decode cX5_poke 8 = .ok (.aload_n 0, 1) := by decide +kernel
theorem dX5_poke_9 : decode cX5_poke 9 = .ok (.getfield 61, 3) := by decide +kernel
theorem dX5_poke_12 : decode cX5_poke 12 = .ok (.ifCond .ne 6, 3) := by decide +kernel
theorem dX5_poke_15 : decode cX5_poke 15 = .ok (.bipush (-3), 2) := by decide +kernel
theorem dX5_poke_17 : decode cX5_poke 17 = .ok (.ireturn, 1) := by decide +kernel
theorem dX5_poke_18 : decode cX5_poke 18 = .ok (.iload_n 3, 1) := by decide +kernel
theorem dX5_poke_19 : decode cX5_poke 19 = .ok (.ifCond .lt 10, 3) := by decide +kernel
theorem dX5_poke_22 : decode cX5_poke 22 = .ok (.iload_n 3, 1) := by decide +kernel
theorem dX5_poke_23 : decode cX5_poke 23 = .ok (.sipush 255, 3) := by decide +kernel
theorem dX5_poke_26 : decode cX5_poke 26 = .ok (.if_icmp .le 6, 3) := by decide +kernel
theorem dX5_poke_29 : decode cX5_poke 29 = .ok (.bipush (-2), 2) := by decide +kernel
theorem dX5_poke_31 : decode cX5_poke 31 = .ok (.ireturn, 1) := by decide +kernel
theorem dX5_poke_32 : decode cX5_poke 32 = .ok (.aload_n 0, 1) := by decide +kernel
theorem dX5_poke_33 : decode cX5_poke 33 = .ok (.getfield 23, 3) := by decide +kernel
theorem dX5_poke_36 : decode cX5_poke 36 = .ok (.getfield 78, 3) := by decide +kernel
theorem dX5_poke_39 : decode cX5_poke 39 = .ok (.iload 4, 2) := by decide +kernel
theorem dX5_poke_41 : decode cX5_poke 41 = .ok (.dup2, 1) := by decide +kernel
theorem dX5_poke_42 : decode cX5_poke 42 = .ok (.iaload, 1) := by decide +kernel
theorem dX5_poke_43 : decode cX5_poke 43 = .ok (.iload_n 3, 1) := by decide +kernel
theorem dX5_poke_44 : decode cX5_poke 44 = .ok (.ixor, 1) := by decide +kernel
theorem dX5_poke_45 : decode cX5_poke 45 = .ok (.iastore, 1) := by decide +kernel
theorem dX5_poke_46 : decode cX5_poke 46 = .ok (.aload_n 0, 1) := by decide +kernel
theorem dX5_poke_47 : decode cX5_poke 47 = .ok (.getfield 23, 3) := by decide +kernel
theorem dX5_poke_50 : decode cX5_poke 50 = .ok (.getfield 78, 3) := by decide +kernel
theorem dX5_poke_53 : decode cX5_poke 53 = .ok (.iload 4, 2) := by decide +kernel
theorem dX5_poke_55 : decode cX5_poke 55 = .ok (.iaload, 1) := by decide +kernel
theorem dX5_poke_56 : decode cX5_poke 56 = .ok (.ireturn, 1) := by decide +kernel
set_option maxRecDepth 20000 in
theorem ggX5_byteAt_X5_cellOf : GoodIn wsX5_byteAt wsX5_cellOf := goodIn_r _ [7, 1, 8, 9, 10, 11, 12, 13, 14, 15, 16, 17, 18, 19, 20, 21, 22, 23, 24, 25, 26, 27, 28, 35, 36, 37, 38, 39, 40, 29, 30, 31, 32, 33, 34] (by decide +kernel) (by decide +kernel)
set_option maxRecDepth 20000 in
theorem gX5_byteAt_X5_cellOf : GoodIn wsX5_byteAt (wsV RX5 146 RX5 yX5_cellOf wsX5_cellOf) := goodIn_app (goodIn_of _ (by decide +kernel)) ggX5_byteAt_X5_cellOf
theorem dX5_byteAt_0 : decode cX5_byteAt 0 = .ok (.aload_n 0, 1) := by decide +kernel
theorem dX5_byteAt_1 : decode cX5_byteAt 1 = .ok (.getfield 23, 3) := by decide +kernel
theorem dX5_byteAt_4 : decode cX5_byteAt 4 = .ok (.getfield 78, 3) := by decide +kernel
theorem dX5_byteAt_7 : decode cX5_byteAt 7 = .ok (.aload_n 0, 1) := by decide +kernel
theorem dX5_byteAt_8 : decode cX5_byteAt 8 = .ok (.iload_n 1, 1) := by decide +kernel
theorem dX5_byteAt_9 : decode cX5_byteAt 9 = .ok (.iload_n 2, 1) := by decide +kernel
theorem dX5_byteAt_10 : decode cX5_byteAt 10 = .ok (.invokevirtual 146, 3) := by decide +kernel
theorem dX5_byteAt_13 : decode cX5_byteAt 13 = .ok (.iaload, 1) := by decide +kernel
theorem dX5_byteAt_14 : decode cX5_byteAt 14 = .ok (.ireturn, 1) := by decide +kernel
set_option maxRecDepth 20000 in
theorem ggX5_living_X3_has : GoodIn wsX5_living wsX3_has := goodIn_r _ [9, 10, 55, 56, 57, 58, 59, 60] (by decide +kernel) (by decide +kernel)
set_option maxRecDepth 20000 in
theorem gX5_living_X3_has : GoodIn wsX5_living (wsV RX5 149 RX3 yX3_has wsX3_has) := goodIn_app (goodIn_of _ (by decide +kernel)) ggX5_living_X3_has
set_option maxRecDepth 20000 in
theorem ggX5_living_X1_livingBytes : GoodIn wsX5_living wsX1_livingBytes := goodIn_r _ [15, 16, 17, 18, 14, 19, 20, 21, 22, 23, 24, 25, 26, 27, 28, 29, 30, 31, 32, 33, 34, 35, 36, 37, 38, 39, 40, 41, 42, 61, 62, 63, 64, 65, 66, 67, 68] (by decide +kernel) (by decide +kernel)
set_option maxRecDepth 20000 in
theorem gX5_living_X1_livingBytes : GoodIn wsX5_living (wsV RX5 152 RX1 yX1_livingBytes wsX1_livingBytes) := goodIn_app (goodIn_of _ (by decide +kernel)) ggX5_living_X1_livingBytes
theorem dX5_living_0 : decode cX5_living 0 = .ok (.aload_n 0, 1) := by decide +kernel
theorem dX5_living_1 : decode cX5_living 1 = .ok (.getfield 61, 3) := by decide +kernel
theorem dX5_living_4 : decode cX5_living 4 = .ok (.ifCond .ne 14, 3) := by decide +kernel
theorem dX5_living_7 : decode cX5_living 7 = .ok (.aload_n 0, 1) := by decide +kernel
theorem dX5_living_8 : decode cX5_living 8 = .ok (.getfield 23, 3) := by decide +kernel
theorem dX5_living_11 : decode cX5_living 11 = .ok (.iload_n 1, 1) := by decide +kernel
theorem dX5_living_12 : decode cX5_living 12 = .ok (.invokevirtual 149, 3) := by decide +kernel
theorem dX5_living_15 : decode cX5_living 15 = .ok (.ifCond .ne 5, 3) := by decide +kernel
theorem dX5_living_18 : decode cX5_living 18 = .ok (.iconst (-1), 1) := by decide +kernel
theorem dX5_living_19 : decode cX5_living 19 = .ok (.ireturn, 1) := by decide +kernel
theorem dX5_living_20 : decode cX5_living 20 = .ok (.aload_n 0, 1) := by decide +kernel
theorem dX5_living_21 : decode cX5_living 21 = .ok (.getfield 30, 3) := by decide +kernel
theorem dX5_living_24 : decode cX5_living 24 = .ok (.iload_n 1, 1) := by decide +kernel
theorem dX5_living_25 : decode cX5_living 25 = .ok (.aload_n 0, 1) := by decide +kernel
theorem dX5_living_26 : decode cX5_living 26 = .ok (.getfield 37, 3) := by decide +kernel
theorem dX5_living_29 : decode cX5_living 29 = .ok (.invokevirtual 152, 3) := by decide +kernel
theorem dX5_living_32 : decode cX5_living 32 = .ok (.ireturn, 1) := by decide +kernel
set_option maxRecDepth 20000 in
theorem ggX5_used_X3_has : GoodIn wsX5_used wsX3_has := goodIn_r _ [7, 8, 21, 22, 23, 24, 25, 26] (by decide +kernel) (by decide +kernel)
set_option maxRecDepth 20000 in
theorem gX5_used_X3_has : GoodIn wsX5_used (wsV RX5 149 RX3 yX3_has wsX3_has) := goodIn_app (goodIn_of _ (by decide +kernel)) ggX5_used_X3_has
theorem dX5_used_0 : decode cX5_used 0 = .ok (.aload_n 0, 1) := by decide +kernel
theorem dX5_used_1 : decode cX5_used 1 = .ok (.getfield 23, 3) := by decide +kernel
theorem dX5_used_4 : decode cX5_used 4 = .ok (.iload_n 1, 1) := by decide +kernel
theorem dX5_used_5 : decode cX5_used 5 = .ok (.invokevirtual 149, 3) := by decide +kernel
theorem dX5_used_8 : decode cX5_used 8 = .ok (.ifCond .eq 15, 3) := by decide +kernel
theorem dX5_used_11 : decode cX5_used 11 = .ok (.aload_n 0, 1) := by decide +kernel
theorem dX5_used_12 : decode cX5_used 12 = .ok (.getfield 23, 3) := by decide +kernel
theorem dX5_used_15 : decode cX5_used 15 = .ok (.getfield 156, 3) := by decide +kernel
theorem dX5_used_18 : decode cX5_used 18 = .ok (.iload_n 1, 1) := by decide +kernel
theorem dX5_used_19 : decode cX5_used 19 = .ok (.iaload, 1) := by decide +kernel
theorem dX5_used_20 : decode cX5_used 20 = .ok (.goto 4, 3) := by decide +kernel
theorem dX5_used_23 : decode cX5_used 23 = .ok (.iconst (-1), 1) := by decide +kernel
theorem dX5_used_24 : decode cX5_used 24 = .ok (.ireturn, 1) := by decide +kernel
set_option maxRecDepth 20000 in
theorem ggX5_count_X1_keysWithSomething : GoodIn wsX5_count wsX1_keysWithSomething := goodIn_r _ [16, 17, 18, 19, 20, 21, 15, 22, 23, 65, 66, 67, 68, 69, 70] (by decide +kernel) (by decide +kernel)
set_option maxRecDepth 20000 in
theorem gX5_count_X1_keysWithSomething : GoodIn wsX5_count (wsV RX5 140 RX1 yX1_keysWithSomething wsX1_keysWithSomething) := goodIn_app (goodIn_of _ (by decide +kernel)) ggX5_count_X1_keysWithSomething
set_option maxRecDepth 20000 in
theorem ggX5_count_X3_inUseCount : GoodIn wsX5_count wsX3_inUseCount := goodIn_r _ [28, 29, 30, 31, 32, 27, 33, 34, 53, 54, 55, 56, 57, 58] (by decide +kernel) (by decide +kernel)
set_option maxRecDepth 20000 in
theorem gX5_count_X3_inUseCount : GoodIn wsX5_count (wsV RX5 159 RX3 yX3_inUseCount wsX3_inUseCount) := goodIn_app (goodIn_of _ (by decide +kernel)) ggX5_count_X3_inUseCount
set_option maxRecDepth 20000 in
theorem ggX5_count_X4_openCount : GoodIn wsX5_count wsX4_openCount := goodIn_r _ [39, 40, 71, 72] (by decide +kernel) (by decide +kernel)
set_option maxRecDepth 20000 in
theorem gX5_count_X4_openCount : GoodIn wsX5_count (wsV RX5 165 RX4 yX4_openCount wsX4_openCount) := goodIn_app (goodIn_of _ (by decide +kernel)) ggX5_count_X4_openCount
theorem dX5_count_0 : decode cX5_count 0 = .ok (.iload_n 1, 1) := by decide +kernel
theorem dX5_count_1 : decode cX5_count 1 = .ok (.tableswitch 114 0 7 #[47, 59, 67, 72, 80, 93, 101, 106], 47) := by decide +kernel
theorem dX5_count_48 : decode cX5_count 48 = .ok (.aload_n 0, 1) := by decide +kernel
theorem dX5_count_49 : decode cX5_count 49 = .ok (.getfield 30, 3) := by decide +kernel
theorem dX5_count_52 : decode cX5_count 52 = .ok (.aload_n 0, 1) := by decide +kernel
theorem dX5_count_53 : decode cX5_count 53 = .ok (.getfield 88, 3) := by decide +kernel
theorem dX5_count_56 : decode cX5_count 56 = .ok (.invokevirtual 140, 3) := by decide +kernel
theorem dX5_count_59 : decode cX5_count 59 = .ok (.ireturn, 1) := by decide +kernel
theorem dX5_count_60 : decode cX5_count 60 = .ok (.aload_n 0, 1) := by decide +kernel
theorem dX5_count_61 : decode cX5_count 61 = .ok (.getfield 23, 3) := by decide +kernel
theorem dX5_count_64 : decode cX5_count 64 = .ok (.invokevirtual 159, 3) := by decide +kernel
theorem dX5_count_67 : decode cX5_count 67 = .ok (.ireturn, 1) := by decide +kernel
theorem dX5_count_68 : decode cX5_count 68 = .ok (.aload_n 0, 1) := by decide +kernel
theorem dX5_count_69 : decode cX5_count 69 = .ok (.getfield 88, 3) := by decide +kernel
theorem dX5_count_72 : decode cX5_count 72 = .ok (.ireturn, 1) := by decide +kernel
theorem dX5_count_73 : decode cX5_count 73 = .ok (.aload_n 0, 1) := by decide +kernel
theorem dX5_count_74 : decode cX5_count 74 = .ok (.getfield 23, 3) := by decide +kernel
theorem dX5_count_77 : decode cX5_count 77 = .ok (.getfield 162, 3) := by decide +kernel
theorem dX5_count_80 : decode cX5_count 80 = .ok (.ireturn, 1) := by decide +kernel
theorem dX5_count_81 : decode cX5_count 81 = .ok (.aload_n 0, 1) := by decide +kernel
theorem dX5_count_82 : decode cX5_count 82 = .ok (.getfield 61, 3) := by decide +kernel
theorem dX5_count_85 : decode cX5_count 85 = .ok (.ifCond .eq 7, 3) := by decide +kernel
theorem dX5_count_88 : decode cX5_count 88 = .ok (.iconst 1, 1) := by decide +kernel
theorem dX5_count_89 : decode cX5_count 89 = .ok (.goto 4, 3) := by decide +kernel
theorem dX5_count_92 : decode cX5_count 92 = .ok (.iconst 0, 1) := by decide +kernel
theorem dX5_count_93 : decode cX5_count 93 = .ok (.ireturn, 1) := by decide +kernel
theorem dX5_count_94 : decode cX5_count 94 = .ok (.aload_n 0, 1) := by decide +kernel
theorem dX5_count_95 : decode cX5_count 95 = .ok (.getfield 37, 3) := by decide +kernel
theorem dX5_count_98 : decode cX5_count 98 = .ok (.invokevirtual 165, 3) := by decide +kernel
theorem dX5_count_101 : decode cX5_count 101 = .ok (.ireturn, 1) := by decide +kernel
theorem dX5_count_102 : decode cX5_count 102 = .ok (.aload_n 0, 1) := by decide +kernel
theorem dX5_count_103 : decode cX5_count 103 = .ok (.getfield 57, 3) := by decide +kernel
theorem dX5_count_106 : decode cX5_count 106 = .ok (.ireturn, 1) := by decide +kernel
theorem dX5_count_107 : decode cX5_count 107 = .ok (.aload_n 0, 1) := by decide +kernel
theorem dX5_count_108 : decode cX5_count 108 = .ok (.getfield 23, 3) := by decide +kernel
theorem dX5_count_111 : decode cX5_count 111 = .ok (.getfield 168, 3) := by decide +kernel
theorem dX5_count_114 : decode cX5_count 114 = .ok (.ireturn, 1) := by decide +kernel
theorem dX5_count_115 : decode cX5_count 115 = .ok (.new 171, 3) := by decide +kernel
theorem dX5_count_118 : decode cX5_count 118 = .ok (.dup, 1) := by decide +kernel
theorem dX5_count_119 : decode cX5_count 119 = .ok (.invokespecial 173, 3) := by decide +kernel
theorem dX5_count_122 : decode cX5_count 122 = .ok (.athrow, 1) := by decide +kernel
set_option maxRecDepth 20000 in
theorem ggX5_cellOf_X3_has : GoodIn wsX5_cellOf wsX3_has := goodIn_r _ [9, 10, 29, 30, 31, 32, 33, 34] (by decide +kernel) (by decide +kernel)
set_option maxRecDepth 20000 in
theorem gX5_cellOf_X3_has : GoodIn wsX5_cellOf (wsV RX5 149 RX3 yX3_has wsX3_has) := goodIn_app (goodIn_of _ (by decide +kernel)) ggX5_cellOf_X3_has
theorem dX5_cellOf_0 : decode cX5_cellOf 0 = .ok (.aload_n 0, 1) := by decide +kernel
theorem dX5_cellOf_1 : decode cX5_cellOf 1 = .ok (.getfield 23, 3) := by decide +kernel
theorem dX5_cellOf_4 : decode cX5_cellOf 4 = .ok (.iload_n 1, 1) := by decide +kernel
theorem dX5_cellOf_5 : decode cX5_cellOf 5 = .ok (.invokevirtual 149, 3) := by decide +kernel
theorem dX5_cellOf_8 : decode cX5_cellOf 8 = .ok (.ifCond .eq 14, 3) := by decide +kernel
theorem dX5_cellOf_11 : decode cX5_cellOf 11 = .ok (.iload_n 2, 1) := by decide +kernel
theorem dX5_cellOf_12 : decode cX5_cellOf 12 = .ok (.ifCond .lt 10, 3) := by decide +kernel
theorem dX5_cellOf_15 : decode cX5_cellOf 15 = .ok (.iload_n 2, 1) := by decide +kernel
theorem dX5_cellOf_16 : decode cX5_cellOf 16 = .ok (.sipush 200, 3) := by decide +kernel
theorem dX5_cellOf_19 : decode cX5_cellOf 19 = .ok (.if_icmp .lt 11, 3) := by decide +kernel
theorem dX5_cellOf_22 : decode cX5_cellOf 22 = .ok (.new 171, 3) := by decide +kernel
theorem dX5_cellOf_25 : decode cX5_cellOf 25 = .ok (.dup, 1) := by decide +kernel
theorem dX5_cellOf_26 : decode cX5_cellOf 26 = .ok (.invokespecial 173, 3) := by decide +kernel
theorem dX5_cellOf_29 : decode cX5_cellOf 29 = .ok (.athrow, 1) := by decide +kernel
theorem dX5_cellOf_30 : decode cX5_cellOf 30 = .ok (.iload_n 1, 1) := by decide +kernel
theorem dX5_cellOf_31 : decode cX5_cellOf 31 = .ok (.sipush 200, 3) := by decide +kernel
theorem dX5_cellOf_34 : decode cX5_cellOf 34 = .ok (.imul, 1) := by decide +kernel
theorem dX5_cellOf_35 : decode cX5_cellOf 35 = .ok (.iload_n 2, 1) := by decide +kernel
theorem dX5_cellOf_36 : decode cX5_cellOf 36 = .ok (.iadd, 1) := by decide +kernel
theorem dX5_cellOf_37 : decode cX5_cellOf 37 = .ok (.ireturn, 1) := by decide +kernel
set_option maxRecDepth 20000 in
theorem ggX5_slotSeen_X2_isKey : GoodIn wsX5_slotSeen wsX2_isKey := goodIn_r _ [10] (by decide +kernel) (by decide +kernel)
set_option maxRecDepth 20000 in
theorem gX5_slotSeen_X2_isKey : GoodIn wsX5_slotSeen (va_wsS RX5 65 yX2_isKey wsX2_isKey) := goodIn_app (goodIn_of _ (by decide +kernel)) ggX5_slotSeen_X2_isKey
set_option maxRecDepth 20000 in
theorem ggX5_slotSeen_X4_isOpen : GoodIn wsX5_slotSeen wsX4_isOpen := goodIn_r _ [15, 16, 36, 37] (by decide +kernel) (by decide +kernel)
set_option maxRecDepth 20000 in
theorem gX5_slotSeen_X4_isOpen : GoodIn wsX5_slotSeen (wsV RX5 95 RX4 yX4_isOpen wsX4_isOpen) := goodIn_app (goodIn_of _ (by decide +kernel)) ggX5_slotSeen_X4_isOpen
set_option maxRecDepth 20000 in
theorem ggX5_slotSeen_X1_slotAt : GoodIn wsX5_slotSeen wsX1_slotAt := goodIn_r _ [21, 22, 23, 38, 39, 40, 41, 42, 43] (by decide +kernel) (by decide +kernel)
set_option maxRecDepth 20000 in
theorem gX5_slotSeen_X1_slotAt : GoodIn wsX5_slotSeen (wsV RX5 177 RX1 yX1_slotAt wsX1_slotAt) := goodIn_app (goodIn_of _ (by decide +kernel)) ggX5_slotSeen_X1_slotAt
theorem dX5_slotSeen_0 : decode cX5_slotSeen 0 = .ok (.aload_n 0, 1) := by decide +kernel
theorem dX5_slotSeen_1 : decode cX5_slotSeen 1 = .ok (.getfield 61, 3) := by decide +kernel
theorem dX5_slotSeen_4 : decode cX5_slotSeen 4 = .ok (.ifCond .ne 10, 3) := by decide +kernel
theorem dX5_slotSeen_7 : decode cX5_slotSeen 7 = .ok (.iload_n 2, 1) := by decide +kernel
theorem dX5_slotSeen_8 : decode cX5_slotSeen 8 = .ok (.invokestatic 65, 3) := by decide +kernel
theorem dX5_slotSeen_11 : decode cX5_slotSeen 11 = .ok (.ifCond .ne 5, 3) := by decide +kernel
theorem dX5_slotSeen_14 : decode cX5_slotSeen 14 = .ok (.iconst (-1), 1) := by decide +kernel
theorem dX5_slotSeen_15 : decode cX5_slotSeen 15 = .ok (.ireturn, 1) := by decide +kernel
theorem dX5_slotSeen_16 : decode cX5_slotSeen 16 = .ok (.iload_n 1, 1) := by decide +kernel
theorem dX5_slotSeen_17 : decode cX5_slotSeen 17 = .ok (.iconst (-1), 1) := by decide +kernel
theorem dX5_slotSeen_18 : decode cX5_slotSeen 18 = .ok (.if_icmp .eq 16, 3) := by decide +kernel
theorem dX5_slotSeen_21 : decode cX5_slotSeen 21 = .ok (.aload_n 0, 1) := by decide +kernel
theorem dX5_slotSeen_22 : decode cX5_slotSeen 22 = .ok (.getfield 37, 3) := by decide +kernel
theorem dX5_slotSeen_25 : decode cX5_slotSeen 25 = .ok (.iload_n 1, 1) := by decide +kernel
theorem dX5_slotSeen_26 : decode cX5_slotSeen 26 = .ok (.invokevirtual 95, 3) := by decide +kernel
theorem dX5_slotSeen_29 : decode cX5_slotSeen 29 = .ok (.ifCond .ne 5, 3) := by decide +kernel
theorem dX5_slotSeen_32 : decode cX5_slotSeen 32 = .ok (.iconst (-1), 1) := by decide +kernel
theorem dX5_slotSeen_33 : decode cX5_slotSeen 33 = .ok (.ireturn, 1) := by decide +kernel
theorem dX5_slotSeen_34 : decode cX5_slotSeen 34 = .ok (.iload_n 1, 1) := by decide +kernel
theorem dX5_slotSeen_35 : decode cX5_slotSeen 35 = .ok (.iconst (-1), 1) := by decide +kernel
theorem dX5_slotSeen_36 : decode cX5_slotSeen 36 = .ok (.if_icmp .ne 10, 3) := by decide +kernel
theorem dX5_slotSeen_39 : decode cX5_slotSeen 39 = .ok (.aload_n 0, 1) := by decide +kernel
theorem dX5_slotSeen_40 : decode cX5_slotSeen 40 = .ok (.getfield 88, 3) := by decide +kernel
theorem dX5_slotSeen_43 : decode cX5_slotSeen 43 = .ok (.goto 12, 3) := by decide +kernel
theorem dX5_slotSeen_46 : decode cX5_slotSeen 46 = .ok (.aload_n 0, 1) := by decide +kernel
theorem dX5_slotSeen_47 : decode cX5_slotSeen 47 = .ok (.getfield 37, 3) := by decide +kernel
theorem dX5_slotSeen_50 : decode cX5_slotSeen 50 = .ok (.getfield 174, 3) := by decide +kernel
theorem dX5_slotSeen_53 : decode cX5_slotSeen 53 = .ok (.iload_n 1, 1) := by decide +kernel
theorem dX5_slotSeen_54 : decode cX5_slotSeen 54 = .ok (.iaload, 1) := by decide +kernel
theorem dX5_slotSeen_55 : decode cX5_slotSeen 55 = .ok (.istore_n 3, 1) := by decide +kernel
theorem dX5_slotSeen_56 : decode cX5_slotSeen 56 = .ok (.aload_n 0, 1) := by decide +kernel
theorem dX5_slotSeen_57 : decode cX5_slotSeen 57 = .ok (.getfield 30, 3) := by decide +kernel
theorem dX5_slotSeen_60 : decode cX5_slotSeen 60 = .ok (.iload_n 2, 1) := by decide +kernel
theorem dX5_slotSeen_61 : decode cX5_slotSeen 61 = .ok (.iload_n 3, 1) := by decide +kernel
theorem dX5_slotSeen_62 : decode cX5_slotSeen 62 = .ok (.invokevirtual 177, 3) := by decide +kernel
theorem dX5_slotSeen_65 : decode cX5_slotSeen 65 = .ok (.istore 4, 2) := by decide +kernel
theorem dX5_slotSeen_67 : decode cX5_slotSeen 67 = .ok (.iload 4, 2) := by decide +kernel
theorem dX5_slotSeen_69 : decode cX5_slotSeen 69 = .ok (.iconst (-1), 1) := by decide +kernel
theorem dX5_slotSeen_70 : decode cX5_slotSeen 70 = .ok (.if_icmp .eq 16, 3) := by decide +kernel
theorem dX5_slotSeen_73 : decode cX5_slotSeen 73 = .ok (.aload_n 0, 1) := by decide +kernel
theorem dX5_slotSeen_74 : decode cX5_slotSeen 74 = .ok (.getfield 30, 3) := by decide +kernel
theorem dX5_slotSeen_77 : decode cX5_slotSeen 77 = .ok (.getfield 180, 3) := by decide +kernel
theorem dX5_slotSeen_80 : decode cX5_slotSeen 80 = .ok (.iload 4, 2) := by decide +kernel
theorem dX5_slotSeen_82 : decode cX5_slotSeen 82 = .ok (.baload, 1) := by decide +kernel
theorem dX5_slotSeen_83 : decode cX5_slotSeen 83 = .ok (.ifCond .eq 7, 3) := by decide +kernel
theorem dX5_slotSeen_86 : decode cX5_slotSeen 86 = .ok (.iconst (-1), 1) := by decide +kernel
theorem dX5_slotSeen_87 : decode cX5_slotSeen 87 = .ok (.goto 5, 3) := by decide +kernel
theorem dX5_slotSeen_90 : decode cX5_slotSeen 90 = .ok (.iload 4, 2) := by decide +kernel
theorem dX5_slotSeen_92 : decode cX5_slotSeen 92 = .ok (.ireturn, 1) := by decide +kernel
set_option maxRecDepth 20000 in
theorem ggX5_writeRow_X2_bytesWith : GoodIn wsX5_writeRow wsX2_bytesWith := goodIn_r _ [14] (by decide +kernel) (by decide +kernel)
set_option maxRecDepth 20000 in
theorem gX5_writeRow_X2_bytesWith : GoodIn wsX5_writeRow (va_wsS RX5 185 yX2_bytesWith wsX2_bytesWith) := goodIn_app (goodIn_of _ (by decide +kernel)) ggX5_writeRow_X2_bytesWith
set_option maxRecDepth 20000 in
theorem ggX5_writeRow_X3_segmentFor : GoodIn wsX5_writeRow wsX3_segmentFor := goodIn_r _ [19, 20, 21, 22, 23, 18, 24, 25, 26, 27, 28, 29, 30, 31, 32, 33, 34, 35, 97, 98, 99, 100, 101, 102] (by decide +kernel) (by decide +kernel)
set_option maxRecDepth 20000 in
theorem gX5_writeRow_X3_segmentFor : GoodIn wsX5_writeRow (wsV RX5 188 RX3 yX3_segmentFor wsX3_segmentFor) := goodIn_app (goodIn_of _ (by decide +kernel)) ggX5_writeRow_X3_segmentFor
set_option maxRecDepth 20000 in
theorem ggX5_writeRow_X0_make : GoodIn wsX5_writeRow wsX0_make := goodIn_r _ [40, 41, 42, 43, 44, 45, 39, 46, 47, 48, 13, 49, 50, 51, 52, 53, 103, 104] (by decide +kernel) (by decide +kernel)
set_option maxRecDepth 20000 in
theorem gX5_writeRow_X0_make : GoodIn wsX5_writeRow (wsV RX5 191 RX0 yX0_make wsX0_make) := goodIn_app (goodIn_of _ (by decide +kernel)) ggX5_writeRow_X0_make
set_option maxRecDepth 20000 in
theorem ggX5_writeRow_X3_endOf : GoodIn wsX5_writeRow wsX3_endOf := goodIn_r _ [57, 25, 97, 98, 99, 100, 101, 102] (by decide +kernel) (by decide +kernel)
set_option maxRecDepth 20000 in
theorem gX5_writeRow_X3_endOf : GoodIn wsX5_writeRow (wsV RX5 195 RX3 yX3_endOf wsX3_endOf) := goodIn_app (goodIn_of _ (by decide +kernel)) ggX5_writeRow_X3_endOf
set_option maxRecDepth 20000 in
theorem ggX5_writeRow_X3_append : GoodIn wsX5_writeRow wsX3_append := goodIn_r _ [61, 62, 63, 20, 35, 25, 21, 22, 23, 18, 24, 64, 55, 56, 57, 97, 98, 99, 100, 101, 102] (by decide +kernel) (by decide +kernel)
set_option maxRecDepth 20000 in
theorem gX5_writeRow_X3_append : GoodIn wsX5_writeRow (wsV RX5 202 RX3 yX3_append wsX3_append) := goodIn_app (goodIn_of _ (by decide +kernel)) ggX5_writeRow_X3_append
set_option maxRecDepth 20000 in
theorem ggX5_writeRow_X1_add : GoodIn wsX5_writeRow wsX1_add := goodIn_r _ [69, 70, 71, 72, 73, 74, 75, 76, 77, 13, 78, 79, 80, 81, 82, 83, 84, 105, 106, 107, 108, 109, 110] (by decide +kernel) (by decide +kernel)
set_option maxRecDepth 20000 in
theorem gX5_writeRow_X1_add : GoodIn wsX5_writeRow (wsV RX5 205 RX1 yX1_add wsX1_add) := goodIn_app (goodIn_of _ (by decide +kernel)) ggX5_writeRow_X1_add
theorem dX5_writeRow_0 : decode cX5_writeRow 0 = .ok (.aload_n 0, 1) := by decide +kernel
theorem dX5_writeRow_1 : decode cX5_writeRow 1 = .ok (.getfield 88, 3) := by decide +kernel
theorem dX5_writeRow_4 : decode cX5_writeRow 4 = .ok (.ldc 184, 2) := by decide +kernel
theorem dX5_writeRow_6 : decode cX5_writeRow 6 = .ok (.if_icmp .ne 6, 3) := by decide +kernel
theorem dX5_writeRow_9 : decode cX5_writeRow 9 = .ok (.bipush (-4), 2) := by decide +kernel
theorem dX5_writeRow_11 : decode cX5_writeRow 11 = .ok (.ireturn, 1) := by decide +kernel
theorem dX5_writeRow_12 : decode cX5_writeRow 12 = .ok (.aload_n 0, 1) := by decide +kernel
theorem dX5_writeRow_13 : decode cX5_writeRow 13 = .ok (.getfield 23, 3) := by decide +kernel
theorem dX5_writeRow_16 : decode cX5_writeRow 16 = .ok (.iload_n 3, 1) := by decide +kernel
theorem dX5_writeRow_17 : decode cX5_writeRow 17 = .ok (.invokestatic 185, 3) := by decide +kernel
theorem dX5_writeRow_20 : decode cX5_writeRow 20 = .ok (.invokevirtual 188, 3) := by decide +kernel
theorem dX5_writeRow_23 : decode cX5_writeRow 23 = .ok (.istore 4, 2) := by decide +kernel
theorem dX5_writeRow_25 : decode cX5_writeRow 25 = .ok (.iload 4, 2) := by decide +kernel
theorem dX5_writeRow_27 : decode cX5_writeRow 27 = .ok (.iconst (-1), 1) := by decide +kernel
theorem dX5_writeRow_28 : decode cX5_writeRow 28 = .ok (.if_icmp .ne 6, 3) := by decide +kernel
theorem dX5_writeRow_31 : decode cX5_writeRow 31 = .ok (.bipush (-4), 2) := by decide +kernel
theorem dX5_writeRow_33 : decode cX5_writeRow 33 = .ok (.ireturn, 1) := by decide +kernel
theorem dX5_writeRow_34 : decode cX5_writeRow 34 = .ok (.aload_n 0, 1) := by decide +kernel
theorem dX5_writeRow_35 : decode cX5_writeRow 35 = .ok (.getfield 44, 3) := by decide +kernel
theorem dX5_writeRow_38 : decode cX5_writeRow 38 = .ok (.iload_n 1, 1) := by decide +kernel
theorem dX5_writeRow_39 : decode cX5_writeRow 39 = .ok (.iload_n 2, 1) := by decide +kernel
theorem dX5_writeRow_40 : decode cX5_writeRow 40 = .ok (.aload_n 0, 1) := by decide +kernel
theorem dX5_writeRow_41 : decode cX5_writeRow 41 = .ok (.getfield 88, 3) := by decide +kernel
theorem dX5_writeRow_44 : decode cX5_writeRow 44 = .ok (.iconst 1, 1) := by decide +kernel
theorem dX5_writeRow_45 : decode cX5_writeRow 45 = .ok (.iadd, 1) := by decide +kernel
theorem dX5_writeRow_46 : decode cX5_writeRow 46 = .ok (.aload_n 0, 1) := by decide +kernel
theorem dX5_writeRow_47 : decode cX5_writeRow 47 = .ok (.getfield 50, 3) := by decide +kernel
theorem dX5_writeRow_50 : decode cX5_writeRow 50 = .ok (.iload_n 3, 1) := by decide +kernel
theorem dX5_writeRow_51 : decode cX5_writeRow 51 = .ok (.invokevirtual 191, 3) := by decide +kernel
theorem dX5_writeRow_54 : decode cX5_writeRow 54 = .ok (.aload_n 0, 1) := by decide +kernel
theorem dX5_writeRow_55 : decode cX5_writeRow 55 = .ok (.getfield 23, 3) := by decide +kernel
theorem dX5_writeRow_58 : decode cX5_writeRow 58 = .ok (.iload 4, 2) := by decide +kernel
theorem dX5_writeRow_60 : decode cX5_writeRow 60 = .ok (.putfield 168, 3) := by decide +kernel
theorem dX5_writeRow_63 : decode cX5_writeRow 63 = .ok (.aload_n 0, 1) := by decide +kernel
theorem dX5_writeRow_64 : decode cX5_writeRow 64 = .ok (.getfield 23, 3) := by decide +kernel
theorem dX5_writeRow_67 : decode cX5_writeRow 67 = .ok (.iload 4, 2) := by decide +kernel
theorem dX5_writeRow_69 : decode cX5_writeRow 69 = .ok (.invokevirtual 195, 3) := by decide +kernel
theorem dX5_writeRow_72 : decode cX5_writeRow 72 = .ok (.istore 5, 2) := by decide +kernel
theorem dX5_writeRow_74 : decode cX5_writeRow 74 = .ok (.iconst 0, 1) := by decide +kernel
theorem dX5_writeRow_75 : decode cX5_writeRow 75 = .ok (.istore 6, 2) := by decide +kernel
theorem dX5_writeRow_77 : decode cX5_writeRow 77 = .ok (.iload 6, 2) := by decide +kernel
theorem dX5_writeRow_79 : decode cX5_writeRow 79 = .ok (.aload_n 0, 1) := by decide +kernel
theorem dX5_writeRow_80 : decode cX5_writeRow 80 = .ok (.getfield 44, 3) := by decide +kernel
theorem dX5_writeRow_83 : decode cX5_writeRow 83 = .ok (.getfield 198, 3) := by decide +kernel
theorem dX5_writeRow_86 : decode cX5_writeRow 86 = .ok (.if_icmp .ge 26, 3) := by decide +kernel
theorem dX5_writeRow_89 : decode cX5_writeRow 89 = .ok (.aload_n 0, 1) := by decide +kernel
theorem dX5_writeRow_90 : decode cX5_writeRow 90 = .ok (.getfield 23, 3) := by decide +kernel
theorem dX5_writeRow_93 : decode cX5_writeRow 93 = .ok (.aload_n 0, 1) := by decide +kernel
theorem dX5_writeRow_94 : decode cX5_writeRow 94 = .ok (.getfield 44, 3) := by decide +kernel
theorem dX5_writeRow_97 : decode cX5_writeRow 97 = .ok (.getfield 201, 3) := by decide +kernel
theorem dX5_writeRow_100 : decode cX5_writeRow 100 = .ok (.iload 6, 2) := by decide +kernel
theorem dX5_writeRow_102 : decode cX5_writeRow 102 = .ok (.iaload, 1) := by decide +kernel
theorem dX5_writeRow_103 : decode cX5_writeRow 103 = .ok (.invokevirtual 202, 3) := by decide +kernel
theorem dX5_writeRow_106 : decode cX5_writeRow 106 = .ok (.iinc 6 1, 3) := by decide +kernel
theorem dX5_writeRow_109 : decode cX5_writeRow 109 = .ok (.goto (-32), 3) := by decide +kernel
theorem dX5_writeRow_112 : decode cX5_writeRow 112 = .ok (.aload_n 0, 1) := by decide +kernel
theorem dX5_writeRow_113 : decode cX5_writeRow 113 = .ok (.getfield 30, 3) := by decide +kernel
theorem dX5_writeRow_116 : decode cX5_writeRow 116 = .ok (.iload 4, 2) := by decide +kernel
theorem dX5_writeRow_118 : decode cX5_writeRow 118 = .ok (.iload 5, 2) := by decide +kernel
theorem dX5_writeRow_120 : decode cX5_writeRow 120 = .ok (.aload_n 0, 1) := by decide +kernel
theorem dX5_writeRow_121 : decode cX5_writeRow 121 = .ok (.getfield 23, 3) := by decide +kernel
theorem dX5_writeRow_124 : decode cX5_writeRow 124 = .ok (.getfield 78, 3) := by decide +kernel
theorem dX5_writeRow_127 : decode cX5_writeRow 127 = .ok (.invokevirtual 205, 3) := by decide +kernel
theorem dX5_writeRow_130 : decode cX5_writeRow 130 = .ok (.aload_n 0, 1) := by decide +kernel
theorem dX5_writeRow_131 : decode cX5_writeRow 131 = .ok (.dup, 1) := by decide +kernel
theorem dX5_writeRow_132 : decode cX5_writeRow 132 = .ok (.getfield 88, 3) := by decide +kernel
theorem dX5_writeRow_135 : decode cX5_writeRow 135 = .ok (.iconst 1, 1) := by decide +kernel
theorem dX5_writeRow_136 : decode cX5_writeRow 136 = .ok (.iadd, 1) := by decide +kernel
theorem dX5_writeRow_137 : decode cX5_writeRow 137 = .ok (.putfield 88, 3) := by decide +kernel
theorem dX5_writeRow_140 : decode cX5_writeRow 140 = .ok (.aload_n 0, 1) := by decide +kernel
theorem dX5_writeRow_141 : decode cX5_writeRow 141 = .ok (.getfield 88, 3) := by decide +kernel
theorem dX5_writeRow_144 : decode cX5_writeRow 144 = .ok (.ireturn, 1) := by decide +kernel
set_option maxRecDepth 20000 in
theorem ggX5_shut_X3_settle : GoodIn wsX5_shut wsX3_settle := goodIn_r _ [10, 11, 45, 46, 47, 48, 49, 50] (by decide +kernel) (by decide +kernel)
set_option maxRecDepth 20000 in
theorem gX5_shut_X3_settle : GoodIn wsX5_shut (wsV RX5 101 RX3 yX3_settle wsX3_settle) := goodIn_app (goodIn_of _ (by decide +kernel)) ggX5_shut_X3_settle
set_option maxRecDepth 20000 in
theorem ggX5_shut_X1_forgetAll : GoodIn wsX5_shut wsX1_forgetAll := goodIn_r _ [16, 17, 18, 19, 20, 15, 21, 22, 51, 52, 53, 54, 55, 56] (by decide +kernel) (by decide +kernel)
set_option maxRecDepth 20000 in
theorem gX5_shut_X1_forgetAll : GoodIn wsX5_shut (wsV RX5 209 RX1 yX1_forgetAll wsX1_forgetAll) := goodIn_app (goodIn_of _ (by decide +kernel)) ggX5_shut_X1_forgetAll
set_option maxRecDepth 20000 in
theorem ggX5_shut_X4_closeAll : GoodIn wsX5_shut wsX4_closeAll := goodIn_r _ [27, 28, 29, 30, 26, 31, 32, 57, 58] (by decide +kernel) (by decide +kernel)
set_option maxRecDepth 20000 in
theorem gX5_shut_X4_closeAll : GoodIn wsX5_shut (wsV RX5 212 RX4 yX4_closeAll wsX4_closeAll) := goodIn_app (goodIn_of _ (by decide +kernel)) ggX5_shut_X4_closeAll
theorem dX5_shut_0 : decode cX5_shut 0 = .ok (.aload_n 0, 1) := by decide +kernel
theorem dX5_shut_1 : decode cX5_shut 1 = .ok (.iconst 1, 1) := by decide +kernel
theorem dX5_shut_2 : decode cX5_shut 2 = .ok (.putfield 61, 3) := by decide +kernel
theorem dX5_shut_5 : decode cX5_shut 5 = .ok (.aload_n 0, 1) := by decide +kernel
theorem dX5_shut_6 : decode cX5_shut 6 = .ok (.getfield 23, 3) := by decide +kernel
theorem dX5_shut_9 : decode cX5_shut 9 = .ok (.invokevirtual 101, 3) := by decide +kernel
theorem dX5_shut_12 : decode cX5_shut 12 = .ok (.pop, 1) := by decide +kernel
theorem dX5_shut_13 : decode cX5_shut 13 = .ok (.aload_n 0, 1) := by decide +kernel
theorem dX5_shut_14 : decode cX5_shut 14 = .ok (.getfield 23, 3) := by decide +kernel
theorem dX5_shut_17 : decode cX5_shut 17 = .ok (.iconst (-1), 1) := by decide +kernel
theorem dX5_shut_18 : decode cX5_shut 18 = .ok (.putfield 168, 3) := by decide +kernel
theorem dX5_shut_21 : decode cX5_shut 21 = .ok (.aload_n 0, 1) := by decide +kernel
theorem dX5_shut_22 : decode cX5_shut 22 = .ok (.getfield 30, 3) := by decide +kernel
theorem dX5_shut_25 : decode cX5_shut 25 = .ok (.invokevirtual 209, 3) := by decide +kernel
theorem dX5_shut_28 : decode cX5_shut 28 = .ok (.aload_n 0, 1) := by decide +kernel
theorem dX5_shut_29 : decode cX5_shut 29 = .ok (.getfield 37, 3) := by decide +kernel
theorem dX5_shut_32 : decode cX5_shut 32 = .ok (.invokevirtual 212, 3) := by decide +kernel
theorem dX5_shut_35 : decode cX5_shut 35 = .ok (.return_, 1) := by decide +kernel
set_option maxRecDepth 20000 in
theorem ggX5_isDue_X3_isFree : GoodIn wsX5_isDue wsX3_isFree := goodIn_r _ [10, 11, 56, 57, 58, 59, 60, 61] (by decide +kernel) (by decide +kernel)
set_option maxRecDepth 20000 in
theorem gX5_isDue_X3_isFree : GoodIn wsX5_isDue (wsV RX5 215 RX3 yX3_isFree wsX3_isFree) := goodIn_app (goodIn_of _ (by decide +kernel)) ggX5_isDue_X3_isFree
set_option maxRecDepth 20000 in
theorem ggX5_isDue_X1_livingBytes : GoodIn wsX5_isDue wsX1_livingBytes := goodIn_r _ [16, 17, 18, 19, 15, 20, 21, 22, 23, 24, 25, 26, 27, 28, 29, 30, 31, 32, 33, 34, 35, 36, 37, 38, 39, 40, 41, 42, 43, 62, 63, 64, 65, 66, 67, 68, 69] (by decide +kernel) (by decide +kernel)
set_option maxRecDepth 20000 in
theorem gX5_isDue_X1_livingBytes : GoodIn wsX5_isDue (wsV RX5 152 RX1 yX1_livingBytes wsX1_livingBytes) := goodIn_app (goodIn_of _ (by decide +kernel)) ggX5_isDue_X1_livingBytes
theorem dX5_isDue_0 : decode cX5_isDue 0 = .ok (.aload_n 0, 1) := by decide +kernel
theorem dX5_isDue_1 : decode cX5_isDue 1 = .ok (.getfield 23, 3) := by decide +kernel
theorem dX5_isDue_4 : decode cX5_isDue 4 = .ok (.iload_n 1, 1) := by decide +kernel
theorem dX5_isDue_5 : decode cX5_isDue 5 = .ok (.invokevirtual 215, 3) := by decide +kernel
theorem dX5_isDue_8 : decode cX5_isDue 8 = .ok (.ifCond .ne 14, 3) := by decide +kernel
theorem dX5_isDue_11 : decode cX5_isDue 11 = .ok (.iload_n 1, 1) := by decide +kernel
theorem dX5_isDue_12 : decode cX5_isDue 12 = .ok (.aload_n 0, 1) := by decide +kernel
theorem dX5_isDue_13 : decode cX5_isDue 13 = .ok (.getfield 23, 3) := by decide +kernel
theorem dX5_isDue_16 : decode cX5_isDue 16 = .ok (.getfield 168, 3) := by decide +kernel
theorem dX5_isDue_19 : decode cX5_isDue 19 = .ok (.if_icmp .ne 5, 3) := by decide +kernel
theorem dX5_isDue_22 : decode cX5_isDue 22 = .ok (.iconst 0, 1) := by decide +kernel
theorem dX5_isDue_23 : decode cX5_isDue 23 = .ok (.ireturn, 1) := by decide +kernel
theorem dX5_isDue_24 : decode cX5_isDue 24 = .ok (.aload_n 0, 1) := by decide +kernel
theorem dX5_isDue_25 : decode cX5_isDue 25 = .ok (.getfield 23, 3) := by decide +kernel
theorem dX5_isDue_28 : decode cX5_isDue 28 = .ok (.getfield 156, 3) := by decide +kernel
theorem dX5_isDue_31 : decode cX5_isDue 31 = .ok (.iload_n 1, 1) := by decide +kernel
theorem dX5_isDue_32 : decode cX5_isDue 32 = .ok (.iaload, 1) := by decide +kernel
theorem dX5_isDue_33 : decode cX5_isDue 33 = .ok (.istore 4, 2) := by decide +kernel
theorem dX5_isDue_35 : decode cX5_isDue 35 = .ok (.iload 4, 2) := by decide +kernel
theorem dX5_isDue_37 : decode cX5_isDue 37 = .ok (.aload_n 0, 1) := by decide +kernel
theorem dX5_isDue_38 : decode cX5_isDue 38 = .ok (.getfield 30, 3) := by decide +kernel
theorem dX5_isDue_41 : decode cX5_isDue 41 = .ok (.iload_n 1, 1) := by decide +kernel
theorem dX5_isDue_42 : decode cX5_isDue 42 = .ok (.aload_n 0, 1) := by decide +kernel
theorem dX5_isDue_43 : decode cX5_isDue 43 = .ok (.getfield 37, 3) := by decide +kernel
theorem dX5_isDue_46 : decode cX5_isDue 46 = .ok (.invokevirtual 152, 3) := by decide +kernel
theorem dX5_isDue_49 : decode cX5_isDue 49 = .ok (.isub, 1) := by decide +kernel
theorem dX5_isDue_50 : decode cX5_isDue 50 = .ok (.istore 5, 2) := by decide +kernel
theorem dX5_isDue_52 : decode cX5_isDue 52 = .ok (.iload 5, 2) := by decide +kernel
theorem dX5_isDue_54 : decode cX5_isDue 54 = .ok (.iload_n 3, 1) := by decide +kernel
theorem dX5_isDue_55 : decode cX5_isDue 55 = .ok (.imul, 1) := by decide +kernel
theorem dX5_isDue_56 : decode cX5_isDue 56 = .ok (.iload_n 2, 1) := by decide +kernel
theorem dX5_isDue_57 : decode cX5_isDue 57 = .ok (.iload 4, 2) := by decide +kernel
theorem dX5_isDue_59 : decode cX5_isDue 59 = .ok (.imul, 1) := by decide +kernel
theorem dX5_isDue_60 : decode cX5_isDue 60 = .ok (.if_icmp .lt 7, 3) := by decide +kernel
theorem dX5_isDue_63 : decode cX5_isDue 63 = .ok (.iconst 1, 1) := by decide +kernel
theorem dX5_isDue_64 : decode cX5_isDue 64 = .ok (.goto 4, 3) := by decide +kernel
theorem dX5_isDue_67 : decode cX5_isDue 67 = .ok (.iconst 0, 1) := by decide +kernel
theorem dX5_isDue_68 : decode cX5_isDue 68 = .ok (.ireturn, 1) := by decide +kernel
set_option maxRecDepth 20000 in
theorem ggX5_gatherSurvivors_X1_lives : GoodIn wsX5_gatherSurvivors wsX1_lives := goodIn_r _ [9, 10, 11, 12, 13, 14, 15, 16, 17, 18, 19, 20, 21, 22, 23, 36, 37, 38, 39, 40, 41, 42, 43] (by decide +kernel) (by decide +kernel)
set_option maxRecDepth 20000 in
theorem gX5_gatherSurvivors_X1_lives : GoodIn wsX5_gatherSurvivors (wsV RX5 221 RX1 yX1_lives wsX1_lives) := goodIn_app (goodIn_of _ (by decide +kernel)) ggX5_gatherSurvivors_X1_lives
theorem dX5_gatherSurvivors_0 : decode cX5_gatherSurvivors 0 = .ok (.aload_n 0, 1) := by decide +kernel
theorem dX5_gatherSurvivors_1 : decode cX5_gatherSurvivors 1 = .ok (.iconst 0, 1) := by decide +kernel
theorem dX5_gatherSurvivors_2 : decode cX5_gatherSurvivors 2 = .ok (.putfield 218, 3) := by decide +kernel
theorem dX5_gatherSurvivors_5 : decode cX5_gatherSurvivors 5 = .ok (.iload_n 1, 1) := by decide +kernel
theorem dX5_gatherSurvivors_6 : decode cX5_gatherSurvivors 6 = .ok (.bipush 12, 2) := by decide +kernel
theorem dX5_gatherSurvivors_8 : decode cX5_gatherSurvivors 8 = .ok (.imul, 1) := by decide +kernel
theorem dX5_gatherSurvivors_9 : decode cX5_gatherSurvivors 9 = .ok (.istore_n 2, 1) := by decide +kernel
theorem dX5_gatherSurvivors_10 : decode cX5_gatherSurvivors 10 = .ok (.iload_n 2, 1) := by decide +kernel
theorem dX5_gatherSurvivors_11 : decode cX5_gatherSurvivors 11 = .ok (.istore_n 3, 1) := by decide +kernel
theorem dX5_gatherSurvivors_12 : decode cX5_gatherSurvivors 12 = .ok (.iload_n 3, 1) := by decide +kernel
theorem dX5_gatherSurvivors_13 : decode cX5_gatherSurvivors 13 = .ok (.iload_n 2, 1) := by decide +kernel
theorem dX5_gatherSurvivors_14 : decode cX5_gatherSurvivors 14 = .ok (.bipush 12, 2) := by decide +kernel
theorem dX5_gatherSurvivors_16 : decode cX5_gatherSurvivors 16 = .ok (.iadd, 1) := by decide +kernel
theorem dX5_gatherSurvivors_17 : decode cX5_gatherSurvivors 17 = .ok (.if_icmp .ge 44, 3) := by decide +kernel
theorem dX5_gatherSurvivors_20 : decode cX5_gatherSurvivors 20 = .ok (.aload_n 0, 1) := by decide +kernel
theorem dX5_gatherSurvivors_21 : decode cX5_gatherSurvivors 21 = .ok (.getfield 30, 3) := by decide +kernel
theorem dX5_gatherSurvivors_24 : decode cX5_gatherSurvivors 24 = .ok (.iload_n 3, 1) := by decide +kernel
theorem dX5_gatherSurvivors_25 : decode cX5_gatherSurvivors 25 = .ok (.aload_n 0, 1) := by decide +kernel
theorem dX5_gatherSurvivors_26 : decode cX5_gatherSurvivors 26 = .ok (.getfield 37, 3) := by decide +kernel
theorem dX5_gatherSurvivors_29 : decode cX5_gatherSurvivors 29 = .ok (.invokevirtual 221, 3) := by decide +kernel
theorem dX5_gatherSurvivors_32 : decode cX5_gatherSurvivors 32 = .ok (.ifCond .eq 23, 3) := by decide +kernel
theorem dX5_gatherSurvivors_35 : decode cX5_gatherSurvivors 35 = .ok (.aload_n 0, 1) := by decide +kernel
theorem dX5_gatherSurvivors_36 : decode cX5_gatherSurvivors 36 = .ok (.getfield 54, 3) := by decide +kernel
theorem dX5_gatherSurvivors_39 : decode cX5_gatherSurvivors 39 = .ok (.aload_n 0, 1) := by decide +kernel
