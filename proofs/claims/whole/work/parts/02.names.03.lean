theorem dX5_gatherSurvivors_40 : decode cX5_gatherSurvivors 40 = .ok (.getfield 218, 3) := by decide +kernel
theorem dX5_gatherSurvivors_43 : decode cX5_gatherSurvivors 43 = .ok (.iload_n 3, 1) := by decide +kernel
theorem dX5_gatherSurvivors_44 : decode cX5_gatherSurvivors 44 = .ok (.iastore, 1) := by decide +kernel
theorem dX5_gatherSurvivors_45 : decode cX5_gatherSurvivors 45 = .ok (.aload_n 0, 1) := by decide +kernel
theorem dX5_gatherSurvivors_46 : decode cX5_gatherSurvivors 46 = .ok (.dup, 1) := by decide +kernel
theorem dX5_gatherSurvivors_47 : decode cX5_gatherSurvivors 47 = .ok (.getfield 218, 3) := by decide +kernel
theorem dX5_gatherSurvivors_50 : decode cX5_gatherSurvivors 50 = .ok (.iconst 1, 1) := by decide +kernel
theorem dX5_gatherSurvivors_51 : decode cX5_gatherSurvivors 51 = .ok (.iadd, 1) := by decide +kernel
theorem dX5_gatherSurvivors_52 : decode cX5_gatherSurvivors 52 = .ok (.putfield 218, 3) := by decide +kernel
theorem dX5_gatherSurvivors_55 : decode cX5_gatherSurvivors 55 = .ok (.iinc 3 1, 3) := by decide +kernel
theorem dX5_gatherSurvivors_58 : decode cX5_gatherSurvivors 58 = .ok (.goto (-46), 3) := by decide +kernel
theorem dX5_gatherSurvivors_61 : decode cX5_gatherSurvivors 61 = .ok (.return_, 1) := by decide +kernel
set_option maxRecDepth 20000 in
theorem ggX5_survivorsHaveRoom_X3_roomInWritten : GoodIn wsX5_survivorsHaveRoom wsX3_roomInWritten := goodIn_r _ [9, 10, 11, 44, 45, 46, 47, 48, 49] (by decide +kernel) (by decide +kernel)
set_option maxRecDepth 20000 in
theorem gX5_survivorsHaveRoom_X3_roomInWritten : GoodIn wsX5_survivorsHaveRoom (wsV RX5 225 RX3 yX3_roomInWritten wsX3_roomInWritten) := goodIn_app (goodIn_of _ (by decide +kernel)) ggX5_survivorsHaveRoom_X3_roomInWritten
set_option maxRecDepth 20000 in
theorem ggX5_survivorsHaveRoom_X1_bytesOf : GoodIn wsX5_survivorsHaveRoom wsX1_bytesOf := goodIn_r _ [16, 17, 18, 19, 20, 21, 50, 51, 52, 53, 54, 55] (by decide +kernel) (by decide +kernel)
set_option maxRecDepth 20000 in
theorem gX5_survivorsHaveRoom_X1_bytesOf : GoodIn wsX5_survivorsHaveRoom (wsV RX5 228 RX1 yX1_bytesOf wsX1_bytesOf) := goodIn_app (goodIn_of _ (by decide +kernel)) ggX5_survivorsHaveRoom_X1_bytesOf
set_option maxRecDepth 20000 in
theorem ggX5_survivorsHaveRoom_X3_leastFree : GoodIn wsX5_survivorsHaveRoom wsX3_leastFree := goodIn_r _ [25, 26, 27, 28, 29, 8, 30, 31, 44, 45, 46, 47, 48, 49] (by decide +kernel) (by decide +kernel)
set_option maxRecDepth 20000 in
theorem gX5_survivorsHaveRoom_X3_leastFree : GoodIn wsX5_survivorsHaveRoom (wsV RX5 231 RX3 yX3_leastFree wsX3_leastFree) := goodIn_app (goodIn_of _ (by decide +kernel)) ggX5_survivorsHaveRoom_X3_leastFree
theorem dX5_survivorsHaveRoom_0 : decode cX5_survivorsHaveRoom 0 = .ok (.aload_n 0, 1) := by decide +kernel
theorem dX5_survivorsHaveRoom_1 : decode cX5_survivorsHaveRoom 1 = .ok (.getfield 23, 3) := by decide +kernel
theorem dX5_survivorsHaveRoom_4 : decode cX5_survivorsHaveRoom 4 = .ok (.invokevirtual 225, 3) := by decide +kernel
theorem dX5_survivorsHaveRoom_7 : decode cX5_survivorsHaveRoom 7 = .ok (.istore_n 1, 1) := by decide +kernel
theorem dX5_survivorsHaveRoom_8 : decode cX5_survivorsHaveRoom 8 = .ok (.iconst 0, 1) := by decide +kernel
theorem dX5_survivorsHaveRoom_9 : decode cX5_survivorsHaveRoom 9 = .ok (.istore_n 2, 1) := by decide +kernel
theorem dX5_survivorsHaveRoom_10 : decode cX5_survivorsHaveRoom 10 = .ok (.iload_n 2, 1) := by decide +kernel
theorem dX5_survivorsHaveRoom_11 : decode cX5_survivorsHaveRoom 11 = .ok (.aload_n 0, 1) := by decide +kernel
theorem dX5_survivorsHaveRoom_12 : decode cX5_survivorsHaveRoom 12 = .ok (.getfield 218, 3) := by decide +kernel
theorem dX5_survivorsHaveRoom_15 : decode cX5_survivorsHaveRoom 15 = .ok (.if_icmp .ge 49, 3) := by decide +kernel
theorem dX5_survivorsHaveRoom_18 : decode cX5_survivorsHaveRoom 18 = .ok (.aload_n 0, 1) := by decide +kernel
theorem dX5_survivorsHaveRoom_19 : decode cX5_survivorsHaveRoom 19 = .ok (.getfield 30, 3) := by decide +kernel
theorem dX5_survivorsHaveRoom_22 : decode cX5_survivorsHaveRoom 22 = .ok (.aload_n 0, 1) := by decide +kernel
theorem dX5_survivorsHaveRoom_23 : decode cX5_survivorsHaveRoom 23 = .ok (.getfield 54, 3) := by decide +kernel
theorem dX5_survivorsHaveRoom_26 : decode cX5_survivorsHaveRoom 26 = .ok (.iload_n 2, 1) := by decide +kernel
theorem dX5_survivorsHaveRoom_27 : decode cX5_survivorsHaveRoom 27 = .ok (.iaload, 1) := by decide +kernel
theorem dX5_survivorsHaveRoom_28 : decode cX5_survivorsHaveRoom 28 = .ok (.invokevirtual 228, 3) := by decide +kernel
theorem dX5_survivorsHaveRoom_31 : decode cX5_survivorsHaveRoom 31 = .ok (.istore_n 3, 1) := by decide +kernel
theorem dX5_survivorsHaveRoom_32 : decode cX5_survivorsHaveRoom 32 = .ok (.iload_n 3, 1) := by decide +kernel
theorem dX5_survivorsHaveRoom_33 : decode cX5_survivorsHaveRoom 33 = .ok (.iload_n 1, 1) := by decide +kernel
theorem dX5_survivorsHaveRoom_34 : decode cX5_survivorsHaveRoom 34 = .ok (.if_icmp .le 20, 3) := by decide +kernel
theorem dX5_survivorsHaveRoom_37 : decode cX5_survivorsHaveRoom 37 = .ok (.aload_n 0, 1) := by decide +kernel
theorem dX5_survivorsHaveRoom_38 : decode cX5_survivorsHaveRoom 38 = .ok (.getfield 23, 3) := by decide +kernel
theorem dX5_survivorsHaveRoom_41 : decode cX5_survivorsHaveRoom 41 = .ok (.invokevirtual 231, 3) := by decide +kernel
theorem dX5_survivorsHaveRoom_44 : decode cX5_survivorsHaveRoom 44 = .ok (.iconst (-1), 1) := by decide +kernel
theorem dX5_survivorsHaveRoom_45 : decode cX5_survivorsHaveRoom 45 = .ok (.if_icmp .eq 7, 3) := by decide +kernel
theorem dX5_survivorsHaveRoom_48 : decode cX5_survivorsHaveRoom 48 = .ok (.iconst 1, 1) := by decide +kernel
theorem dX5_survivorsHaveRoom_49 : decode cX5_survivorsHaveRoom 49 = .ok (.goto 4, 3) := by decide +kernel
theorem dX5_survivorsHaveRoom_52 : decode cX5_survivorsHaveRoom 52 = .ok (.iconst 0, 1) := by decide +kernel
theorem dX5_survivorsHaveRoom_53 : decode cX5_survivorsHaveRoom 53 = .ok (.ireturn, 1) := by decide +kernel
theorem dX5_survivorsHaveRoom_54 : decode cX5_survivorsHaveRoom 54 = .ok (.iload_n 1, 1) := by decide +kernel
theorem dX5_survivorsHaveRoom_55 : decode cX5_survivorsHaveRoom 55 = .ok (.iload_n 3, 1) := by decide +kernel
theorem dX5_survivorsHaveRoom_56 : decode cX5_survivorsHaveRoom 56 = .ok (.isub, 1) := by decide +kernel
theorem dX5_survivorsHaveRoom_57 : decode cX5_survivorsHaveRoom 57 = .ok (.istore_n 1, 1) := by decide +kernel
theorem dX5_survivorsHaveRoom_58 : decode cX5_survivorsHaveRoom 58 = .ok (.iinc 2 1, 3) := by decide +kernel
theorem dX5_survivorsHaveRoom_61 : decode cX5_survivorsHaveRoom 61 = .ok (.goto (-51), 3) := by decide +kernel
theorem dX5_survivorsHaveRoom_64 : decode cX5_survivorsHaveRoom 64 = .ok (.iconst 1, 1) := by decide +kernel
theorem dX5_survivorsHaveRoom_65 : decode cX5_survivorsHaveRoom 65 = .ok (.ireturn, 1) := by decide +kernel
set_option maxRecDepth 20000 in
theorem ggX5_copySurvivors_X1_bytesOf : GoodIn wsX5_copySurvivors wsX1_bytesOf := goodIn_r _ [12, 13, 14, 15, 16, 17, 89, 90, 91, 92, 93, 94] (by decide +kernel) (by decide +kernel)
set_option maxRecDepth 20000 in
theorem gX5_copySurvivors_X1_bytesOf : GoodIn wsX5_copySurvivors (wsV RX5 228 RX1 yX1_bytesOf wsX1_bytesOf) := goodIn_app (goodIn_of _ (by decide +kernel)) ggX5_copySurvivors_X1_bytesOf
set_option maxRecDepth 20000 in
theorem ggX5_copySurvivors_X5_copyRow : GoodIn wsX5_copySurvivors wsX5_copyRow := goodIn_r _ [22, 2, 23, 24, 25, 26, 8, 9, 10, 11, 12, 13, 14, 15, 16, 17, 27, 28, 29, 30, 31, 32, 33, 34, 35, 36, 37, 38, 39, 40, 41, 42, 43, 44, 45, 46, 47, 48, 49, 50, 51, 52, 53, 54, 55, 56, 57, 58, 59, 60, 61, 62, 63, 64, 65, 66, 67, 68, 69, 70, 71, 72, 73, 74, 75, 76, 77, 78, 79, 80, 81, 82, 83, 84, 85, 86, 87, 88, 95, 96, 97, 98, 99, 100, 89, 90, 91, 92, 93, 94] (by decide +kernel) (by decide +kernel)
set_option maxRecDepth 20000 in
theorem gX5_copySurvivors_X5_copyRow : GoodIn wsX5_copySurvivors (wsV RX5 234 RX5 yX5_copyRow wsX5_copyRow) := goodIn_app (goodIn_of _ (by decide +kernel)) ggX5_copySurvivors_X5_copyRow
theorem dX5_copySurvivors_0 : decode cX5_copySurvivors 0 = .ok (.iconst 0, 1) := by decide +kernel
theorem dX5_copySurvivors_1 : decode cX5_copySurvivors 1 = .ok (.istore_n 2, 1) := by decide +kernel
theorem dX5_copySurvivors_2 : decode cX5_copySurvivors 2 = .ok (.iconst 0, 1) := by decide +kernel
theorem dX5_copySurvivors_3 : decode cX5_copySurvivors 3 = .ok (.istore_n 3, 1) := by decide +kernel
theorem dX5_copySurvivors_4 : decode cX5_copySurvivors 4 = .ok (.iload_n 3, 1) := by decide +kernel
theorem dX5_copySurvivors_5 : decode cX5_copySurvivors 5 = .ok (.aload_n 0, 1) := by decide +kernel
theorem dX5_copySurvivors_6 : decode cX5_copySurvivors 6 = .ok (.getfield 218, 3) := by decide +kernel
theorem dX5_copySurvivors_9 : decode cX5_copySurvivors 9 = .ok (.if_icmp .ge 55, 3) := by decide +kernel
theorem dX5_copySurvivors_12 : decode cX5_copySurvivors 12 = .ok (.aload_n 0, 1) := by decide +kernel
theorem dX5_copySurvivors_13 : decode cX5_copySurvivors 13 = .ok (.getfield 30, 3) := by decide +kernel
theorem dX5_copySurvivors_16 : decode cX5_copySurvivors 16 = .ok (.aload_n 0, 1) := by decide +kernel
theorem dX5_copySurvivors_17 : decode cX5_copySurvivors 17 = .ok (.getfield 54, 3) := by decide +kernel
theorem dX5_copySurvivors_20 : decode cX5_copySurvivors 20 = .ok (.iload_n 3, 1) := by decide +kernel
theorem dX5_copySurvivors_21 : decode cX5_copySurvivors 21 = .ok (.iaload, 1) := by decide +kernel
theorem dX5_copySurvivors_22 : decode cX5_copySurvivors 22 = .ok (.invokevirtual 228, 3) := by decide +kernel
theorem dX5_copySurvivors_25 : decode cX5_copySurvivors 25 = .ok (.istore 4, 2) := by decide +kernel
theorem dX5_copySurvivors_27 : decode cX5_copySurvivors 27 = .ok (.aload_n 0, 1) := by decide +kernel
theorem dX5_copySurvivors_28 : decode cX5_copySurvivors 28 = .ok (.aload_n 0, 1) := by decide +kernel
theorem dX5_copySurvivors_29 : decode cX5_copySurvivors 29 = .ok (.getfield 54, 3) := by decide +kernel
theorem dX5_copySurvivors_32 : decode cX5_copySurvivors 32 = .ok (.iload_n 3, 1) := by decide +kernel
theorem dX5_copySurvivors_33 : decode cX5_copySurvivors 33 = .ok (.iaload, 1) := by decide +kernel
theorem dX5_copySurvivors_34 : decode cX5_copySurvivors 34 = .ok (.iload 4, 2) := by decide +kernel
theorem dX5_copySurvivors_36 : decode cX5_copySurvivors 36 = .ok (.iload_n 1, 1) := by decide +kernel
theorem dX5_copySurvivors_37 : decode cX5_copySurvivors 37 = .ok (.iload_n 2, 1) := by decide +kernel
theorem dX5_copySurvivors_38 : decode cX5_copySurvivors 38 = .ok (.isub, 1) := by decide +kernel
theorem dX5_copySurvivors_39 : decode cX5_copySurvivors 39 = .ok (.invokestatic 9, 3) := by decide +kernel
theorem dX5_copySurvivors_42 : decode cX5_copySurvivors 42 = .ok (.invokevirtual 234, 3) := by decide +kernel
theorem dX5_copySurvivors_45 : decode cX5_copySurvivors 45 = .ok (.iload_n 2, 1) := by decide +kernel
theorem dX5_copySurvivors_46 : decode cX5_copySurvivors 46 = .ok (.iload 4, 2) := by decide +kernel
theorem dX5_copySurvivors_48 : decode cX5_copySurvivors 48 = .ok (.iadd, 1) := by decide +kernel
theorem dX5_copySurvivors_49 : decode cX5_copySurvivors 49 = .ok (.istore_n 2, 1) := by decide +kernel
theorem dX5_copySurvivors_50 : decode cX5_copySurvivors 50 = .ok (.iload_n 2, 1) := by decide +kernel
theorem dX5_copySurvivors_51 : decode cX5_copySurvivors 51 = .ok (.iload_n 1, 1) := by decide +kernel
theorem dX5_copySurvivors_52 : decode cX5_copySurvivors 52 = .ok (.if_icmp .le 6, 3) := by decide +kernel
theorem dX5_copySurvivors_55 : decode cX5_copySurvivors 55 = .ok (.goto 9, 3) := by decide +kernel
theorem dX5_copySurvivors_58 : decode cX5_copySurvivors 58 = .ok (.iinc 3 1, 3) := by decide +kernel
theorem dX5_copySurvivors_61 : decode cX5_copySurvivors 61 = .ok (.goto (-57), 3) := by decide +kernel
theorem dX5_copySurvivors_64 : decode cX5_copySurvivors 64 = .ok (.iload_n 2, 1) := by decide +kernel
theorem dX5_copySurvivors_65 : decode cX5_copySurvivors 65 = .ok (.ireturn, 1) := by decide +kernel
set_option maxRecDepth 20000 in
theorem ggX5_copyRow_X1_bytesOf : GoodIn wsX5_copyRow wsX1_bytesOf := goodIn_r _ [10, 11, 12, 13, 14, 15, 84, 85, 86, 87, 88, 89] (by decide +kernel) (by decide +kernel)
set_option maxRecDepth 20000 in
theorem gX5_copyRow_X1_bytesOf : GoodIn wsX5_copyRow (wsV RX5 228 RX1 yX1_bytesOf wsX1_bytesOf) := goodIn_app (goodIn_of _ (by decide +kernel)) ggX5_copyRow_X1_bytesOf
set_option maxRecDepth 20000 in
theorem ggX5_copyRow_X3_segmentFor : GoodIn wsX5_copyRow wsX3_segmentFor := goodIn_r _ [20, 21, 22, 23, 24, 19, 25, 26, 27, 28, 29, 30, 31, 32, 33, 34, 35, 36, 78, 79, 80, 81, 82, 83] (by decide +kernel) (by decide +kernel)
set_option maxRecDepth 20000 in
theorem gX5_copyRow_X3_segmentFor : GoodIn wsX5_copyRow (wsV RX5 188 RX3 yX3_segmentFor wsX3_segmentFor) := goodIn_app (goodIn_of _ (by decide +kernel)) ggX5_copyRow_X3_segmentFor
set_option maxRecDepth 20000 in
theorem ggX5_copyRow_X3_endOf : GoodIn wsX5_copyRow wsX3_endOf := goodIn_r _ [40, 26, 78, 79, 80, 81, 82, 83] (by decide +kernel) (by decide +kernel)
set_option maxRecDepth 20000 in
theorem gX5_copyRow_X3_endOf : GoodIn wsX5_copyRow (wsV RX5 195 RX3 yX3_endOf wsX3_endOf) := goodIn_app (goodIn_of _ (by decide +kernel)) ggX5_copyRow_X3_endOf
set_option maxRecDepth 20000 in
theorem ggX5_copyRow_X3_append : GoodIn wsX5_copyRow wsX3_append := goodIn_r _ [44, 45, 46, 21, 36, 26, 22, 23, 24, 19, 25, 47, 38, 39, 40, 78, 79, 80, 81, 82, 83] (by decide +kernel) (by decide +kernel)
set_option maxRecDepth 20000 in
theorem gX5_copyRow_X3_append : GoodIn wsX5_copyRow (wsV RX5 202 RX3 yX3_append wsX3_append) := goodIn_app (goodIn_of _ (by decide +kernel)) ggX5_copyRow_X3_append
set_option maxRecDepth 20000 in
theorem ggX5_copyRow_X1_add : GoodIn wsX5_copyRow wsX1_add := goodIn_r _ [51, 52, 53, 54, 55, 11, 56, 57, 58, 14, 59, 60, 61, 62, 63, 64, 65, 84, 85, 86, 87, 88, 89] (by decide +kernel) (by decide +kernel)
set_option maxRecDepth 20000 in
theorem gX5_copyRow_X1_add : GoodIn wsX5_copyRow (wsV RX5 205 RX1 yX1_add wsX1_add) := goodIn_app (goodIn_of _ (by decide +kernel)) ggX5_copyRow_X1_add
theorem dX5_copyRow_0 : decode cX5_copyRow 0 = .ok (.aload_n 0, 1) := by decide +kernel
theorem dX5_copyRow_1 : decode cX5_copyRow 1 = .ok (.getfield 30, 3) := by decide +kernel
theorem dX5_copyRow_4 : decode cX5_copyRow 4 = .ok (.iload_n 1, 1) := by decide +kernel
theorem dX5_copyRow_5 : decode cX5_copyRow 5 = .ok (.invokevirtual 228, 3) := by decide +kernel
theorem dX5_copyRow_8 : decode cX5_copyRow 8 = .ok (.istore_n 3, 1) := by decide +kernel
theorem dX5_copyRow_9 : decode cX5_copyRow 9 = .ok (.aload_n 0, 1) := by decide +kernel
theorem dX5_copyRow_10 : decode cX5_copyRow 10 = .ok (.getfield 23, 3) := by decide +kernel
theorem dX5_copyRow_13 : decode cX5_copyRow 13 = .ok (.iload_n 3, 1) := by decide +kernel
theorem dX5_copyRow_14 : decode cX5_copyRow 14 = .ok (.invokevirtual 188, 3) := by decide +kernel
theorem dX5_copyRow_17 : decode cX5_copyRow 17 = .ok (.istore 4, 2) := by decide +kernel
theorem dX5_copyRow_19 : decode cX5_copyRow 19 = .ok (.iload 4, 2) := by decide +kernel
theorem dX5_copyRow_21 : decode cX5_copyRow 21 = .ok (.iconst (-1), 1) := by decide +kernel
theorem dX5_copyRow_22 : decode cX5_copyRow 22 = .ok (.if_icmp .ne 4, 3) := by decide +kernel
theorem dX5_copyRow_25 : decode cX5_copyRow 25 = .ok (.return_, 1) := by decide +kernel
theorem dX5_copyRow_26 : decode cX5_copyRow 26 = .ok (.aload_n 0, 1) := by decide +kernel
theorem dX5_copyRow_27 : decode cX5_copyRow 27 = .ok (.getfield 23, 3) := by decide +kernel
theorem dX5_copyRow_30 : decode cX5_copyRow 30 = .ok (.iload 4, 2) := by decide +kernel
theorem dX5_copyRow_32 : decode cX5_copyRow 32 = .ok (.putfield 168, 3) := by decide +kernel
theorem dX5_copyRow_35 : decode cX5_copyRow 35 = .ok (.aload_n 0, 1) := by decide +kernel
theorem dX5_copyRow_36 : decode cX5_copyRow 36 = .ok (.getfield 23, 3) := by decide +kernel
theorem dX5_copyRow_39 : decode cX5_copyRow 39 = .ok (.iload 4, 2) := by decide +kernel
theorem dX5_copyRow_41 : decode cX5_copyRow 41 = .ok (.invokevirtual 195, 3) := by decide +kernel
theorem dX5_copyRow_44 : decode cX5_copyRow 44 = .ok (.istore 5, 2) := by decide +kernel
theorem dX5_copyRow_46 : decode cX5_copyRow 46 = .ok (.iconst 0, 1) := by decide +kernel
theorem dX5_copyRow_47 : decode cX5_copyRow 47 = .ok (.istore 6, 2) := by decide +kernel
theorem dX5_copyRow_49 : decode cX5_copyRow 49 = .ok (.iload 6, 2) := by decide +kernel
theorem dX5_copyRow_51 : decode cX5_copyRow 51 = .ok (.iload_n 2, 1) := by decide +kernel
theorem dX5_copyRow_52 : decode cX5_copyRow 52 = .ok (.if_icmp .ge 36, 3) := by decide +kernel
theorem dX5_copyRow_55 : decode cX5_copyRow 55 = .ok (.aload_n 0, 1) := by decide +kernel
theorem dX5_copyRow_56 : decode cX5_copyRow 56 = .ok (.getfield 23, 3) := by decide +kernel
theorem dX5_copyRow_59 : decode cX5_copyRow 59 = .ok (.aload_n 0, 1) := by decide +kernel
theorem dX5_copyRow_60 : decode cX5_copyRow 60 = .ok (.getfield 23, 3) := by decide +kernel
theorem dX5_copyRow_63 : decode cX5_copyRow 63 = .ok (.getfield 78, 3) := by decide +kernel
theorem dX5_copyRow_66 : decode cX5_copyRow 66 = .ok (.aload_n 0, 1) := by decide +kernel
theorem dX5_copyRow_67 : decode cX5_copyRow 67 = .ok (.getfield 30, 3) := by decide +kernel
theorem dX5_copyRow_70 : decode cX5_copyRow 70 = .ok (.getfield 81, 3) := by decide +kernel
theorem dX5_copyRow_73 : decode cX5_copyRow 73 = .ok (.iload_n 1, 1) := by decide +kernel
theorem dX5_copyRow_74 : decode cX5_copyRow 74 = .ok (.iaload, 1) := by decide +kernel
theorem dX5_copyRow_75 : decode cX5_copyRow 75 = .ok (.iload 6, 2) := by decide +kernel
theorem dX5_copyRow_77 : decode cX5_copyRow 77 = .ok (.iadd, 1) := by decide +kernel
theorem dX5_copyRow_78 : decode cX5_copyRow 78 = .ok (.iaload, 1) := by decide +kernel
theorem dX5_copyRow_79 : decode cX5_copyRow 79 = .ok (.invokevirtual 202, 3) := by decide +kernel
theorem dX5_copyRow_82 : decode cX5_copyRow 82 = .ok (.iinc 6 1, 3) := by decide +kernel
theorem dX5_copyRow_85 : decode cX5_copyRow 85 = .ok (.goto (-36), 3) := by decide +kernel
theorem dX5_copyRow_88 : decode cX5_copyRow 88 = .ok (.iload_n 2, 1) := by decide +kernel
theorem dX5_copyRow_89 : decode cX5_copyRow 89 = .ok (.iload_n 3, 1) := by decide +kernel
theorem dX5_copyRow_90 : decode cX5_copyRow 90 = .ok (.if_icmp .ne 21, 3) := by decide +kernel
theorem dX5_copyRow_93 : decode cX5_copyRow 93 = .ok (.aload_n 0, 1) := by decide +kernel
theorem dX5_copyRow_94 : decode cX5_copyRow 94 = .ok (.getfield 30, 3) := by decide +kernel
theorem dX5_copyRow_97 : decode cX5_copyRow 97 = .ok (.iload 4, 2) := by decide +kernel
theorem dX5_copyRow_99 : decode cX5_copyRow 99 = .ok (.iload 5, 2) := by decide +kernel
theorem dX5_copyRow_101 : decode cX5_copyRow 101 = .ok (.aload_n 0, 1) := by decide +kernel
theorem dX5_copyRow_102 : decode cX5_copyRow 102 = .ok (.getfield 23, 3) := by decide +kernel
theorem dX5_copyRow_105 : decode cX5_copyRow 105 = .ok (.getfield 78, 3) := by decide +kernel
theorem dX5_copyRow_108 : decode cX5_copyRow 108 = .ok (.invokevirtual 205, 3) := by decide +kernel
theorem dX5_copyRow_111 : decode cX5_copyRow 111 = .ok (.return_, 1) := by decide +kernel
set_option maxRecDepth 20000 in
theorem ggX5_readSegment_X2_isGood : GoodIn wsX5_readSegment wsX2_isGood := goodIn_r _ [13, 14, 15, 12, 16, 17, 18, 19, 20, 21, 22, 23, 24, 25, 26, 27, 28, 29, 30, 31, 32, 33, 34, 35, 36, 37, 38, 39, 40, 41] (by decide +kernel) (by decide +kernel)
set_option maxRecDepth 20000 in
theorem gX5_readSegment_X2_isGood : GoodIn wsX5_readSegment (va_wsS RX5 237 yX2_isGood wsX2_isGood) := goodIn_app (goodIn_of _ (by decide +kernel)) ggX5_readSegment_X2_isGood
set_option maxRecDepth 20000 in
theorem ggX5_readSegment_X1_add : GoodIn wsX5_readSegment wsX1_add := goodIn_r _ [46, 47, 48, 49, 50, 51, 52, 53, 24, 12, 25, 54, 30, 31, 55, 18, 19, 83, 84, 85, 86, 87, 88] (by decide +kernel) (by decide +kernel)
set_option maxRecDepth 20000 in
theorem gX5_readSegment_X1_add : GoodIn wsX5_readSegment (wsV RX5 205 RX1 yX1_add wsX1_add) := goodIn_app (goodIn_of _ (by decide +kernel)) ggX5_readSegment_X1_add
set_option maxRecDepth 20000 in
theorem ggX5_readSegment_X2_numberAt : GoodIn wsX5_readSegment wsX2_numberAt := goodIn_r _ [31] (by decide +kernel) (by decide +kernel)
set_option maxRecDepth 20000 in
theorem gX5_readSegment_X2_numberAt : GoodIn wsX5_readSegment (va_wsS RX5 241 yX2_numberAt wsX2_numberAt) := goodIn_app (goodIn_of _ (by decide +kernel)) ggX5_readSegment_X2_numberAt
set_option maxRecDepth 20000 in
theorem ggX5_readSegment_X5_noteBad : GoodIn wsX5_readSegment wsX5_noteBad := goodIn_r _ [61, 62, 1, 2, 63, 56, 30, 12, 31, 65, 66, 67, 68, 69, 70, 71, 72, 73, 74, 75, 76, 77, 78, 79, 80, 81, 82] (by decide +kernel) (by decide +kernel)
set_option maxRecDepth 20000 in
theorem gX5_readSegment_X5_noteBad : GoodIn wsX5_readSegment (wsV RX5 245 RX5 yX5_noteBad wsX5_noteBad) := goodIn_app (goodIn_of _ (by decide +kernel)) ggX5_readSegment_X5_noteBad
set_option maxRecDepth 20000 in
theorem ggX5_readSegment_X2_behind : GoodIn wsX5_readSegment wsX2_behind := goodIn_r _ [16, 17, 18, 12, 19, 20, 21, 22] (by decide +kernel) (by decide +kernel)
set_option maxRecDepth 20000 in
theorem gX5_readSegment_X2_behind : GoodIn wsX5_readSegment (va_wsS RX5 248 yX2_behind wsX2_behind) := goodIn_app (goodIn_of _ (by decide +kernel)) ggX5_readSegment_X2_behind
theorem dX5_readSegment_0 : decode cX5_readSegment 0 = .ok (.iload_n 1, 1) := by decide +kernel
theorem dX5_readSegment_1 : decode cX5_readSegment 1 = .ok (.sipush 200, 3) := by decide +kernel
theorem dX5_readSegment_4 : decode cX5_readSegment 4 = .ok (.imul, 1) := by decide +kernel
theorem dX5_readSegment_5 : decode cX5_readSegment 5 = .ok (.istore_n 2, 1) := by decide +kernel
theorem dX5_readSegment_6 : decode cX5_readSegment 6 = .ok (.iload_n 2, 1) := by decide +kernel
theorem dX5_readSegment_7 : decode cX5_readSegment 7 = .ok (.sipush 200, 3) := by decide +kernel
theorem dX5_readSegment_10 : decode cX5_readSegment 10 = .ok (.iadd, 1) := by decide +kernel
theorem dX5_readSegment_11 : decode cX5_readSegment 11 = .ok (.istore_n 3, 1) := by decide +kernel
theorem dX5_readSegment_12 : decode cX5_readSegment 12 = .ok (.iload_n 2, 1) := by decide +kernel
theorem dX5_readSegment_13 : decode cX5_readSegment 13 = .ok (.istore 4, 2) := by decide +kernel
theorem dX5_readSegment_15 : decode cX5_readSegment 15 = .ok (.iload 4, 2) := by decide +kernel
theorem dX5_readSegment_17 : decode cX5_readSegment 17 = .ok (.iload_n 3, 1) := by decide +kernel
theorem dX5_readSegment_18 : decode cX5_readSegment 18 = .ok (.if_icmp .ge 114, 3) := by decide +kernel
theorem dX5_readSegment_21 : decode cX5_readSegment 21 = .ok (.aload_n 0, 1) := by decide +kernel
theorem dX5_readSegment_22 : decode cX5_readSegment 22 = .ok (.getfield 23, 3) := by decide +kernel
theorem dX5_readSegment_25 : decode cX5_readSegment 25 = .ok (.getfield 78, 3) := by decide +kernel
theorem dX5_readSegment_28 : decode cX5_readSegment 28 = .ok (.iload 4, 2) := by decide +kernel
theorem dX5_readSegment_30 : decode cX5_readSegment 30 = .ok (.iaload, 1) := by decide +kernel
theorem dX5_readSegment_31 : decode cX5_readSegment 31 = .ok (.ifCond .eq 101, 3) := by decide +kernel
theorem dX5_readSegment_34 : decode cX5_readSegment 34 = .ok (.aload_n 0, 1) := by decide +kernel
theorem dX5_readSegment_35 : decode cX5_readSegment 35 = .ok (.getfield 23, 3) := by decide +kernel
theorem dX5_readSegment_38 : decode cX5_readSegment 38 = .ok (.getfield 78, 3) := by decide +kernel
theorem dX5_readSegment_41 : decode cX5_readSegment 41 = .ok (.iload 4, 2) := by decide +kernel
theorem dX5_readSegment_43 : decode cX5_readSegment 43 = .ok (.iload_n 3, 1) := by decide +kernel
theorem dX5_readSegment_44 : decode cX5_readSegment 44 = .ok (.invokestatic 237, 3) := by decide +kernel
theorem dX5_readSegment_47 : decode cX5_readSegment 47 = .ok (.ifCond .eq 46, 3) := by decide +kernel
theorem dX5_readSegment_50 : decode cX5_readSegment 50 = .ok (.aload_n 0, 1) := by decide +kernel
theorem dX5_readSegment_51 : decode cX5_readSegment 51 = .ok (.getfield 30, 3) := by decide +kernel
theorem dX5_readSegment_54 : decode cX5_readSegment 54 = .ok (.iload_n 1, 1) := by decide +kernel
theorem dX5_readSegment_55 : decode cX5_readSegment 55 = .ok (.iload 4, 2) := by decide +kernel
theorem dX5_readSegment_57 : decode cX5_readSegment 57 = .ok (.aload_n 0, 1) := by decide +kernel
theorem dX5_readSegment_58 : decode cX5_readSegment 58 = .ok (.getfield 23, 3) := by decide +kernel
theorem dX5_readSegment_61 : decode cX5_readSegment 61 = .ok (.getfield 78, 3) := by decide +kernel
theorem dX5_readSegment_64 : decode cX5_readSegment 64 = .ok (.invokevirtual 205, 3) := by decide +kernel
theorem dX5_readSegment_67 : decode cX5_readSegment 67 = .ok (.aload_n 0, 1) := by decide +kernel
theorem dX5_readSegment_68 : decode cX5_readSegment 68 = .ok (.aload_n 0, 1) := by decide +kernel
theorem dX5_readSegment_69 : decode cX5_readSegment 69 = .ok (.getfield 88, 3) := by decide +kernel
theorem dX5_readSegment_72 : decode cX5_readSegment 72 = .ok (.aload_n 0, 1) := by decide +kernel
theorem dX5_readSegment_73 : decode cX5_readSegment 73 = .ok (.getfield 23, 3) := by decide +kernel
theorem dX5_readSegment_76 : decode cX5_readSegment 76 = .ok (.getfield 78, 3) := by decide +kernel
theorem dX5_readSegment_79 : decode cX5_readSegment 79 = .ok (.iload 4, 2) := by decide +kernel
theorem dX5_readSegment_81 : decode cX5_readSegment 81 = .ok (.invokestatic 241, 3) := by decide +kernel
theorem dX5_readSegment_84 : decode cX5_readSegment 84 = .ok (.invokestatic 15, 3) := by decide +kernel
theorem dX5_readSegment_87 : decode cX5_readSegment 87 = .ok (.putfield 88, 3) := by decide +kernel
theorem dX5_readSegment_90 : decode cX5_readSegment 90 = .ok (.goto 10, 3) := by decide +kernel
theorem dX5_readSegment_93 : decode cX5_readSegment 93 = .ok (.aload_n 0, 1) := by decide +kernel
theorem dX5_readSegment_94 : decode cX5_readSegment 94 = .ok (.iload 4, 2) := by decide +kernel
theorem dX5_readSegment_96 : decode cX5_readSegment 96 = .ok (.iload_n 3, 1) := by decide +kernel
theorem dX5_readSegment_97 : decode cX5_readSegment 97 = .ok (.invokevirtual 245, 3) := by decide +kernel
theorem dX5_readSegment_100 : decode cX5_readSegment 100 = .ok (.aload_n 0, 1) := by decide +kernel
theorem dX5_readSegment_101 : decode cX5_readSegment 101 = .ok (.getfield 23, 3) := by decide +kernel
theorem dX5_readSegment_104 : decode cX5_readSegment 104 = .ok (.getfield 78, 3) := by decide +kernel
theorem dX5_readSegment_107 : decode cX5_readSegment 107 = .ok (.iload 4, 2) := by decide +kernel
theorem dX5_readSegment_109 : decode cX5_readSegment 109 = .ok (.iload_n 3, 1) := by decide +kernel
theorem dX5_readSegment_110 : decode cX5_readSegment 110 = .ok (.invokestatic 248, 3) := by decide +kernel
theorem dX5_readSegment_113 : decode cX5_readSegment 113 = .ok (.istore 5, 2) := by decide +kernel
theorem dX5_readSegment_115 : decode cX5_readSegment 115 = .ok (.iload 5, 2) := by decide +kernel
theorem dX5_readSegment_117 : decode cX5_readSegment 117 = .ok (.iload 4, 2) := by decide +kernel
theorem dX5_readSegment_119 : decode cX5_readSegment 119 = .ok (.if_icmp .gt 6, 3) := by decide +kernel
theorem dX5_readSegment_122 : decode cX5_readSegment 122 = .ok (.goto 10, 3) := by decide +kernel
theorem dX5_readSegment_125 : decode cX5_readSegment 125 = .ok (.iload 5, 2) := by decide +kernel
theorem dX5_readSegment_127 : decode cX5_readSegment 127 = .ok (.istore 4, 2) := by decide +kernel
theorem dX5_readSegment_129 : decode cX5_readSegment 129 = .ok (.goto (-114), 3) := by decide +kernel
theorem dX5_readSegment_132 : decode cX5_readSegment 132 = .ok (.aload_n 0, 1) := by decide +kernel
theorem dX5_readSegment_133 : decode cX5_readSegment 133 = .ok (.getfield 23, 3) := by decide +kernel
theorem dX5_readSegment_136 : decode cX5_readSegment 136 = .ok (.getfield 156, 3) := by decide +kernel
theorem dX5_readSegment_139 : decode cX5_readSegment 139 = .ok (.iload_n 1, 1) := by decide +kernel
theorem dX5_readSegment_140 : decode cX5_readSegment 140 = .ok (.iload 4, 2) := by decide +kernel
theorem dX5_readSegment_142 : decode cX5_readSegment 142 = .ok (.iload_n 2, 1) := by decide +kernel
theorem dX5_readSegment_143 : decode cX5_readSegment 143 = .ok (.isub, 1) := by decide +kernel
theorem dX5_readSegment_144 : decode cX5_readSegment 144 = .ok (.iastore, 1) := by decide +kernel
theorem dX5_readSegment_145 : decode cX5_readSegment 145 = .ok (.return_, 1) := by decide +kernel
set_option maxRecDepth 20000 in
theorem ggX5_noteBad_X2_numberAt : GoodIn wsX5_noteBad wsX2_numberAt := goodIn_r _ [8] (by decide +kernel) (by decide +kernel)
set_option maxRecDepth 20000 in
theorem gX5_noteBad_X2_numberAt : GoodIn wsX5_noteBad (va_wsS RX5 241 yX2_numberAt wsX2_numberAt) := goodIn_app (goodIn_of _ (by decide +kernel)) ggX5_noteBad_X2_numberAt
theorem dX5_noteBad_0 : decode cX5_noteBad 0 = .ok (.aload_n 0, 1) := by decide +kernel
theorem dX5_noteBad_1 : decode cX5_noteBad 1 = .ok (.getfield 134, 3) := by decide +kernel
theorem dX5_noteBad_4 : decode cX5_noteBad 4 = .ok (.ifCond .eq 4, 3) := by decide +kernel
theorem dX5_noteBad_7 : decode cX5_noteBad 7 = .ok (.return_, 1) := by decide +kernel
theorem dX5_noteBad_8 : decode cX5_noteBad 8 = .ok (.aload_n 0, 1) := by decide +kernel
theorem dX5_noteBad_9 : decode cX5_noteBad 9 = .ok (.iconst 1, 1) := by decide +kernel
theorem dX5_noteBad_10 : decode cX5_noteBad 10 = .ok (.putfield 134, 3) := by decide +kernel
theorem dX5_noteBad_13 : decode cX5_noteBad 13 = .ok (.aload_n 0, 1) := by decide +kernel
theorem dX5_noteBad_14 : decode cX5_noteBad 14 = .ok (.iload_n 1, 1) := by decide +kernel
theorem dX5_noteBad_15 : decode cX5_noteBad 15 = .ok (.bipush 7, 2) := by decide +kernel
theorem dX5_noteBad_17 : decode cX5_noteBad 17 = .ok (.iadd, 1) := by decide +kernel
theorem dX5_noteBad_18 : decode cX5_noteBad 18 = .ok (.iload_n 2, 1) := by decide +kernel
theorem dX5_noteBad_19 : decode cX5_noteBad 19 = .ok (.if_icmp .gt 17, 3) := by decide +kernel
theorem dX5_noteBad_22 : decode cX5_noteBad 22 = .ok (.aload_n 0, 1) := by decide +kernel
theorem dX5_noteBad_23 : decode cX5_noteBad 23 = .ok (.getfield 23, 3) := by decide +kernel
theorem dX5_noteBad_26 : decode cX5_noteBad 26 = .ok (.getfield 78, 3) := by decide +kernel
theorem dX5_noteBad_29 : decode cX5_noteBad 29 = .ok (.iload_n 1, 1) := by decide +kernel
theorem dX5_noteBad_30 : decode cX5_noteBad 30 = .ok (.invokestatic 241, 3) := by decide +kernel
theorem dX5_noteBad_33 : decode cX5_noteBad 33 = .ok (.goto 4, 3) := by decide +kernel
theorem dX5_noteBad_36 : decode cX5_noteBad 36 = .ok (.iconst 0, 1) := by decide +kernel
theorem dX5_noteBad_37 : decode cX5_noteBad 37 = .ok (.putfield 143, 3) := by decide +kernel
theorem dX5_noteBad_40 : decode cX5_noteBad 40 = .ok (.return_, 1) := by decide +kernel
theorem dX6_init_0 : decode cX6_init 0 = .ok (.aload_n 0, 1) := by decide +kernel
theorem dX6_init_1 : decode cX6_init 1 = .ok (.invokespecial 1, 3) := by decide +kernel
theorem dX6_init_4 : decode cX6_init 4 = .ok (.aload_n 0, 1) := by decide +kernel
theorem dX6_init_5 : decode cX6_init 5 = .ok (.sipush 2400, 3) := by decide +kernel
theorem dX6_init_8 : decode cX6_init 8 = .ok (.newarray .int, 2) := by decide +kernel
theorem dX6_init_10 : decode cX6_init 10 = .ok (.putfield 7, 3) := by decide +kernel
theorem dX6_init_13 : decode cX6_init 13 = .ok (.aload_n 0, 1) := by decide +kernel
theorem dX6_init_14 : decode cX6_init 14 = .ok (.bipush 12, 2) := by decide +kernel
theorem dX6_init_16 : decode cX6_init 16 = .ok (.newarray .int, 2) := by decide +kernel
theorem dX6_init_18 : decode cX6_init 18 = .ok (.putfield 13, 3) := by decide +kernel
theorem dX6_init_21 : decode cX6_init 21 = .ok (.aload_n 0, 1) := by decide +kernel
theorem dX6_init_22 : decode cX6_init 22 = .ok (.iconst (-1), 1) := by decide +kernel
theorem dX6_init_23 : decode cX6_init 23 = .ok (.putfield 16, 3) := by decide +kernel
theorem dX6_init_26 : decode cX6_init 26 = .ok (.aload_n 0, 1) := by decide +kernel
theorem dX6_init_27 : decode cX6_init 27 = .ok (.bipush 20, 2) := by decide +kernel
theorem dX6_init_29 : decode cX6_init 29 = .ok (.newarray .int, 2) := by decide +kernel
theorem dX6_init_31 : decode cX6_init 31 = .ok (.putfield 20, 3) := by decide +kernel
theorem dX6_init_34 : decode cX6_init 34 = .ok (.aload_n 0, 1) := by decide +kernel
theorem dX6_init_35 : decode cX6_init 35 = .ok (.sipush 2400, 3) := by decide +kernel
theorem dX6_init_38 : decode cX6_init 38 = .ok (.newarray .int, 2) := by decide +kernel
theorem dX6_init_40 : decode cX6_init 40 = .ok (.putfield 23, 3) := by decide +kernel
theorem dX6_init_43 : decode cX6_init 43 = .ok (.aload_n 0, 1) := by decide +kernel
theorem dX6_init_44 : decode cX6_init 44 = .ok (.iconst 4, 1) := by decide +kernel
theorem dX6_init_45 : decode cX6_init 45 = .ok (.newarray .boolean, 2) := by decide +kernel
theorem dX6_init_47 : decode cX6_init 47 = .ok (.putfield 26, 3) := by decide +kernel
theorem dX6_init_50 : decode cX6_init 50 = .ok (.aload_n 0, 1) := by decide +kernel
theorem dX6_init_51 : decode cX6_init 51 = .ok (.iconst 4, 1) := by decide +kernel
theorem dX6_init_52 : decode cX6_init 52 = .ok (.newarray .int, 2) := by decide +kernel
theorem dX6_init_54 : decode cX6_init 54 = .ok (.putfield 30, 3) := by decide +kernel
theorem dX6_init_57 : decode cX6_init 57 = .ok (.aload_n 0, 1) := by decide +kernel
theorem dX6_init_58 : decode cX6_init 58 = .ok (.iconst (-1), 1) := by decide +kernel
theorem dX6_init_59 : decode cX6_init 59 = .ok (.putfield 33, 3) := by decide +kernel
theorem dX6_init_62 : decode cX6_init 62 = .ok (.aload_n 0, 1) := by decide +kernel
theorem dX6_init_63 : decode cX6_init 63 = .ok (.sipush 160, 3) := by decide +kernel
theorem dX6_init_66 : decode cX6_init 66 = .ok (.newarray .int, 2) := by decide +kernel
theorem dX6_init_68 : decode cX6_init 68 = .ok (.putfield 36, 3) := by decide +kernel
theorem dX6_init_71 : decode cX6_init 71 = .ok (.aload_n 0, 1) := by decide +kernel
theorem dX6_init_72 : decode cX6_init 72 = .ok (.sipush 160, 3) := by decide +kernel
theorem dX6_init_75 : decode cX6_init 75 = .ok (.newarray .int, 2) := by decide +kernel
theorem dX6_init_77 : decode cX6_init 77 = .ok (.putfield 39, 3) := by decide +kernel
theorem dX6_init_80 : decode cX6_init 80 = .ok (.aload_n 0, 1) := by decide +kernel
theorem dX6_init_81 : decode cX6_init 81 = .ok (.sipush 160, 3) := by decide +kernel
theorem dX6_init_84 : decode cX6_init 84 = .ok (.newarray .int, 2) := by decide +kernel
theorem dX6_init_86 : decode cX6_init 86 = .ok (.putfield 42, 3) := by decide +kernel
theorem dX6_init_89 : decode cX6_init 89 = .ok (.aload_n 0, 1) := by decide +kernel
theorem dX6_init_90 : decode cX6_init 90 = .ok (.sipush 160, 3) := by decide +kernel
theorem dX6_init_93 : decode cX6_init 93 = .ok (.newarray .boolean, 2) := by decide +kernel
theorem dX6_init_95 : decode cX6_init 95 = .ok (.putfield 45, 3) := by decide +kernel
theorem dX6_init_98 : decode cX6_init 98 = .ok (.aload_n 0, 1) := by decide +kernel
theorem dX6_init_99 : decode cX6_init 99 = .ok (.sipush 160, 3) := by decide +kernel
theorem dX6_init_102 : decode cX6_init 102 = .ok (.newarray .int, 2) := by decide +kernel
theorem dX6_init_104 : decode cX6_init 104 = .ok (.putfield 48, 3) := by decide +kernel
theorem dX6_init_107 : decode cX6_init 107 = .ok (.aload_n 0, 1) := by decide +kernel
theorem dX6_init_108 : decode cX6_init 108 = .ok (.bipush 36, 2) := by decide +kernel
theorem dX6_init_110 : decode cX6_init 110 = .ok (.newarray .int, 2) := by decide +kernel
theorem dX6_init_112 : decode cX6_init 112 = .ok (.putfield 51, 3) := by decide +kernel
theorem dX6_init_115 : decode cX6_init 115 = .ok (.aload_n 0, 1) := by decide +kernel
theorem dX6_init_116 : decode cX6_init 116 = .ok (.iconst 1, 1) := by decide +kernel
theorem dX6_init_117 : decode cX6_init 117 = .ok (.putfield 54, 3) := by decide +kernel
theorem dX6_init_120 : decode cX6_init 120 = .ok (.aload_n 0, 1) := by decide +kernel
theorem dX6_init_121 : decode cX6_init 121 = .ok (.bipush 20, 2) := by decide +kernel
theorem dX6_init_123 : decode cX6_init 123 = .ok (.newarray .int, 2) := by decide +kernel
theorem dX6_init_125 : decode cX6_init 125 = .ok (.putfield 58, 3) := by decide +kernel
theorem dX6_init_128 : decode cX6_init 128 = .ok (.aload_n 0, 1) := by decide +kernel
theorem dX6_init_129 : decode cX6_init 129 = .ok (.bipush 20, 2) := by decide +kernel
theorem dX6_init_131 : decode cX6_init 131 = .ok (.newarray .int, 2) := by decide +kernel
theorem dX6_init_133 : decode cX6_init 133 = .ok (.putfield 61, 3) := by decide +kernel
theorem dX6_init_136 : decode cX6_init 136 = .ok (.aload_n 0, 1) := by decide +kernel
theorem dX6_init_137 : decode cX6_init 137 = .ok (.iload_n 1, 1) := by decide +kernel
theorem dX6_init_138 : decode cX6_init 138 = .ok (.iconst 1, 1) := by decide +kernel
theorem dX6_init_139 : decode cX6_init 139 = .ok (.if_icmp .ge 7, 3) := by decide +kernel
theorem dX6_init_142 : decode cX6_init 142 = .ok (.iconst 1, 1) := by decide +kernel
theorem dX6_init_143 : decode cX6_init 143 = .ok (.goto 15, 3) := by decide +kernel
theorem dX6_init_146 : decode cX6_init 146 = .ok (.iload_n 1, 1) := by decide +kernel
theorem dX6_init_147 : decode cX6_init 147 = .ok (.bipush 12, 2) := by decide +kernel
theorem dX6_init_149 : decode cX6_init 149 = .ok (.if_icmp .le 8, 3) := by decide +kernel
theorem dX6_init_152 : decode cX6_init 152 = .ok (.bipush 12, 2) := by decide +kernel
theorem dX6_init_154 : decode cX6_init 154 = .ok (.goto 4, 3) := by decide +kernel
theorem dX6_init_157 : decode cX6_init 157 = .ok (.iload_n 1, 1) := by decide +kernel
theorem dX6_init_158 : decode cX6_init 158 = .ok (.putfield 64, 3) := by decide +kernel
theorem dX6_init_161 : decode cX6_init 161 = .ok (.return_, 1) := by decide +kernel
theorem dX6_thrown_0 : decode cX6_thrown 0 = .ok (.aload_n 0, 1) := by decide +kernel
theorem dX6_thrown_1 : decode cX6_thrown 1 = .ok (.getfield 67, 3) := by decide +kernel
theorem dX6_thrown_4 : decode cX6_thrown 4 = .ok (.ireturn, 1) := by decide +kernel
theorem dX6_in_0 : decode cX6_in 0 = .ok (.iload_n 0, 1) := by decide +kernel
theorem dX6_in_1 : decode cX6_in 1 = .ok (.iload_n 1, 1) := by decide +kernel
theorem dX6_in_2 : decode cX6_in 2 = .ok (.if_icmp .lt 12, 3) := by decide +kernel
theorem dX6_in_5 : decode cX6_in 5 = .ok (.iload_n 0, 1) := by decide +kernel
theorem dX6_in_6 : decode cX6_in 6 = .ok (.iload_n 2, 1) := by decide +kernel
theorem dX6_in_7 : decode cX6_in 7 = .ok (.if_icmp .gt 7, 3) := by decide +kernel
theorem dX6_in_10 : decode cX6_in 10 = .ok (.iconst 1, 1) := by decide +kernel
theorem dX6_in_11 : decode cX6_in 11 = .ok (.goto 4, 3) := by decide +kernel
theorem dX6_in_14 : decode cX6_in 14 = .ok (.iconst 0, 1) := by decide +kernel
theorem dX6_in_15 : decode cX6_in 15 = .ok (.ireturn, 1) := by decide +kernel
theorem dX6_number_0 : decode cX6_number 0 = .ok (.iconst 0, 1) := by decide +kernel
theorem dX6_number_1 : decode cX6_number 1 = .ok (.istore_n 3, 1) := by decide +kernel
theorem dX6_number_2 : decode cX6_number 2 = .ok (.iload_n 1, 1) := by decide +kernel
theorem dX6_number_3 : decode cX6_number 3 = .ok (.istore 4, 2) := by decide +kernel
theorem dX6_number_5 : decode cX6_number 5 = .ok (.iload 4, 2) := by decide +kernel
theorem dX6_number_7 : decode cX6_number 7 = .ok (.iload_n 1, 1) := by decide +kernel
theorem dX6_number_8 : decode cX6_number 8 = .ok (.iload_n 2, 1) := by decide +kernel
theorem dX6_number_9 : decode cX6_number 9 = .ok (.iadd, 1) := by decide +kernel
theorem dX6_number_10 : decode cX6_number 10 = .ok (.if_icmp .ge 22, 3) := by decide +kernel
theorem dX6_number_13 : decode cX6_number 13 = .ok (.iload_n 3, 1) := by decide +kernel
theorem dX6_number_14 : decode cX6_number 14 = .ok (.bipush 8, 2) := by decide +kernel
theorem dX6_number_16 : decode cX6_number 16 = .ok (.ishl, 1) := by decide +kernel
theorem dX6_number_17 : decode cX6_number 17 = .ok (.aload_n 0, 1) := by decide +kernel
theorem dX6_number_18 : decode cX6_number 18 = .ok (.getfield 7, 3) := by decide +kernel
theorem dX6_number_21 : decode cX6_number 21 = .ok (.iload 4, 2) := by decide +kernel
theorem dX6_number_23 : decode cX6_number 23 = .ok (.iaload, 1) := by decide +kernel
theorem dX6_number_24 : decode cX6_number 24 = .ok (.ior, 1) := by decide +kernel
theorem dX6_number_25 : decode cX6_number 25 = .ok (.istore_n 3, 1) := by decide +kernel
theorem dX6_number_26 : decode cX6_number 26 = .ok (.iinc 4 1, 3) := by decide +kernel
theorem dX6_number_29 : decode cX6_number 29 = .ok (.goto (-24), 3) := by decide +kernel
theorem dX6_number_32 : decode cX6_number 32 = .ok (.iload_n 3, 1) := by decide +kernel
theorem dX6_number_33 : decode cX6_number 33 = .ok (.ireturn, 1) := by decide +kernel
theorem dX6_step_0 : decode cX6_step 0 = .ok (.lload_n 0, 1) := by decide +kernel
theorem dX6_step_1 : decode cX6_step 1 = .ok (.iload_n 2, 1) := by decide +kernel
theorem dX6_step_2 : decode cX6_step 2 = .ok (.i2l, 1) := by decide +kernel
theorem dX6_step_3 : decode cX6_step 3 = .ok (.lxor, 1) := by decide +kernel
theorem dX6_step_4 : decode cX6_step 4 = .ok (.lstore_n 3, 1) := by decide +kernel
theorem dX6_step_5 : decode cX6_step 5 = .ok (.lload_n 3, 1) := by decide +kernel
theorem dX6_step_6 : decode cX6_step 6 = .ok (.bipush 45, 2) := by decide +kernel
theorem dX6_step_8 : decode cX6_step 8 = .ok (.lshl, 1) := by decide +kernel
theorem dX6_step_9 : decode cX6_step 9 = .ok (.lload_n 3, 1) := by decide +kernel
theorem dX6_step_10 : decode cX6_step 10 = .ok (.bipush 19, 2) := by decide +kernel
theorem dX6_step_12 : decode cX6_step 12 = .ok (.lushr, 1) := by decide +kernel
theorem dX6_step_13 : decode cX6_step 13 = .ok (.lor, 1) := by decide +kernel
theorem dX6_step_14 : decode cX6_step 14 = .ok (.ldc2_w 70, 3) := by decide +kernel
theorem dX6_step_17 : decode cX6_step 17 = .ok (.lmul, 1) := by decide +kernel
theorem dX6_step_18 : decode cX6_step 18 = .ok (.lreturn, 1) := by decide +kernel
set_option maxRecDepth 20000 in
theorem ggX6_hasSum_X6_step : GoodIn wsX6_hasSum wsX6_step := goodIn_r _ [6, 7] (by decide +kernel) (by decide +kernel)
set_option maxRecDepth 20000 in
theorem gX6_hasSum_X6_step : GoodIn wsX6_hasSum (va_wsS RX6 72 yX6_step wsX6_step) := goodIn_app (goodIn_of _ (by decide +kernel)) ggX6_hasSum_X6_step
theorem dX6_hasSum_0 : decode cX6_hasSum 0 = .ok (.lconst 0, 1) := by decide +kernel
theorem dX6_hasSum_1 : decode cX6_hasSum 1 = .ok (.lstore_n 3, 1) := by decide +kernel
theorem dX6_hasSum_2 : decode cX6_hasSum 2 = .ok (.iload_n 1, 1) := by decide +kernel
theorem dX6_hasSum_3 : decode cX6_hasSum 3 = .ok (.istore 5, 2) := by decide +kernel
theorem dX6_hasSum_5 : decode cX6_hasSum 5 = .ok (.iload 5, 2) := by decide +kernel
theorem dX6_hasSum_7 : decode cX6_hasSum 7 = .ok (.iload_n 1, 1) := by decide +kernel
theorem dX6_hasSum_8 : decode cX6_hasSum 8 = .ok (.iload_n 2, 1) := by decide +kernel
theorem dX6_hasSum_9 : decode cX6_hasSum 9 = .ok (.iadd, 1) := by decide +kernel
theorem dX6_hasSum_10 : decode cX6_hasSum 10 = .ok (.if_icmp .ge 21, 3) := by decide +kernel
theorem dX6_hasSum_13 : decode cX6_hasSum 13 = .ok (.lload_n 3, 1) := by decide +kernel
theorem dX6_hasSum_14 : decode cX6_hasSum 14 = .ok (.aload_n 0, 1) := by decide +kernel
theorem dX6_hasSum_15 : decode cX6_hasSum 15 = .ok (.getfield 7, 3) := by decide +kernel
theorem dX6_hasSum_18 : decode cX6_hasSum 18 = .ok (.iload 5, 2) := by decide +kernel
theorem dX6_hasSum_20 : decode cX6_hasSum 20 = .ok (.iaload, 1) := by decide +kernel
theorem dX6_hasSum_21 : decode cX6_hasSum 21 = .ok (.invokestatic 72, 3) := by decide +kernel
theorem dX6_hasSum_24 : decode cX6_hasSum 24 = .ok (.lstore_n 3, 1) := by decide +kernel
theorem dX6_hasSum_25 : decode cX6_hasSum 25 = .ok (.iinc 5 1, 3) := by decide +kernel
theorem dX6_hasSum_28 : decode cX6_hasSum 28 = .ok (.goto (-23), 3) := by decide +kernel
theorem dX6_hasSum_31 : decode cX6_hasSum 31 = .ok (.iconst 1, 1) := by decide +kernel
theorem dX6_hasSum_32 : decode cX6_hasSum 32 = .ok (.istore 5, 2) := by decide +kernel
theorem dX6_hasSum_34 : decode cX6_hasSum 34 = .ok (.iconst 0, 1) := by decide +kernel
theorem dX6_hasSum_35 : decode cX6_hasSum 35 = .ok (.istore 6, 2) := by decide +kernel
theorem dX6_hasSum_37 : decode cX6_hasSum 37 = .ok (.iload 6, 2) := by decide +kernel
theorem dX6_hasSum_39 : decode cX6_hasSum 39 = .ok (.bipush 8, 2) := by decide +kernel
theorem dX6_hasSum_41 : decode cX6_hasSum 41 = .ok (.if_icmp .ge 50, 3) := by decide +kernel
theorem dX6_hasSum_44 : decode cX6_hasSum 44 = .ok (.iload 5, 2) := by decide +kernel
theorem dX6_hasSum_46 : decode cX6_hasSum 46 = .ok (.ifCond .eq 36, 3) := by decide +kernel
theorem dX6_hasSum_49 : decode cX6_hasSum 49 = .ok (.aload_n 0, 1) := by decide +kernel
theorem dX6_hasSum_50 : decode cX6_hasSum 50 = .ok (.getfield 7, 3) := by decide +kernel
theorem dX6_hasSum_53 : decode cX6_hasSum 53 = .ok (.iload_n 1, 1) := by decide +kernel
theorem dX6_hasSum_54 : decode cX6_hasSum 54 = .ok (.iload_n 2, 1) := by decide +kernel
theorem dX6_hasSum_55 : decode cX6_hasSum 55 = .ok (.iadd, 1) := by decide +kernel
theorem dX6_hasSum_56 : decode cX6_hasSum 56 = .ok (.iload 6, 2) := by decide +kernel
theorem dX6_hasSum_58 : decode cX6_hasSum 58 = .ok (.iadd, 1) := by decide +kernel
theorem dX6_hasSum_59 : decode cX6_hasSum 59 = .ok (.iaload, 1) := by decide +kernel
theorem dX6_hasSum_60 : decode cX6_hasSum 60 = .ok (.lload_n 3, 1) := by decide +kernel
theorem dX6_hasSum_61 : decode cX6_hasSum 61 = .ok (.bipush 56, 2) := by decide +kernel
theorem dX6_hasSum_63 : decode cX6_hasSum 63 = .ok (.bipush 8, 2) := by decide +kernel
theorem dX6_hasSum_65 : decode cX6_hasSum 65 = .ok (.iload 6, 2) := by decide +kernel
theorem dX6_hasSum_67 : decode cX6_hasSum 67 = .ok (.imul, 1) := by decide +kernel
theorem dX6_hasSum_68 : decode cX6_hasSum 68 = .ok (.isub, 1) := by decide +kernel
theorem dX6_hasSum_69 : decode cX6_hasSum 69 = .ok (.lushr, 1) := by decide +kernel
theorem dX6_hasSum_70 : decode cX6_hasSum 70 = .ok (.ldc2_w 76, 3) := by decide +kernel
theorem dX6_hasSum_73 : decode cX6_hasSum 73 = .ok (.land, 1) := by decide +kernel
theorem dX6_hasSum_74 : decode cX6_hasSum 74 = .ok (.l2i, 1) := by decide +kernel
theorem dX6_hasSum_75 : decode cX6_hasSum 75 = .ok (.if_icmp .ne 7, 3) := by decide +kernel
theorem dX6_hasSum_78 : decode cX6_hasSum 78 = .ok (.iconst 1, 1) := by decide +kernel
theorem dX6_hasSum_79 : decode cX6_hasSum 79 = .ok (.goto 4, 3) := by decide +kernel
theorem dX6_hasSum_82 : decode cX6_hasSum 82 = .ok (.iconst 0, 1) := by decide +kernel
theorem dX6_hasSum_83 : decode cX6_hasSum 83 = .ok (.istore 5, 2) := by decide +kernel
theorem dX6_hasSum_85 : decode cX6_hasSum 85 = .ok (.iinc 6 1, 3) := by decide +kernel
theorem dX6_hasSum_88 : decode cX6_hasSum 88 = .ok (.goto (-51), 3) := by decide +kernel
theorem dX6_hasSum_91 : decode cX6_hasSum 91 = .ok (.iload 5, 2) := by decide +kernel
theorem dX6_hasSum_93 : decode cX6_hasSum 93 = .ok (.ireturn, 1) := by decide +kernel
set_option maxRecDepth 20000 in
theorem ggX6_sizeAt_X6_in : GoodIn wsX6_sizeAt wsX6_in := goodIn_r _ [5] (by decide +kernel) (by decide +kernel)
set_option maxRecDepth 20000 in
theorem gX6_sizeAt_X6_in : GoodIn wsX6_sizeAt (va_wsS RX6 78 yX6_in wsX6_in) := goodIn_app (goodIn_of _ (by decide +kernel)) ggX6_sizeAt_X6_in
theorem dX6_sizeAt_0 : decode cX6_sizeAt 0 = .ok (.sipush 200, 3) := by decide +kernel
theorem dX6_sizeAt_3 : decode cX6_sizeAt 3 = .ok (.iload_n 1, 1) := by decide +kernel
theorem dX6_sizeAt_4 : decode cX6_sizeAt 4 = .ok (.imul, 1) := by decide +kernel
theorem dX6_sizeAt_5 : decode cX6_sizeAt 5 = .ok (.iload_n 2, 1) := by decide +kernel
theorem dX6_sizeAt_6 : decode cX6_sizeAt 6 = .ok (.iadd, 1) := by decide +kernel
theorem dX6_sizeAt_7 : decode cX6_sizeAt 7 = .ok (.istore_n 3, 1) := by decide +kernel
theorem dX6_sizeAt_8 : decode cX6_sizeAt 8 = .ok (.aload_n 0, 1) := by decide +kernel
theorem dX6_sizeAt_9 : decode cX6_sizeAt 9 = .ok (.getfield 7, 3) := by decide +kernel
theorem dX6_sizeAt_12 : decode cX6_sizeAt 12 = .ok (.iload_n 3, 1) := by decide +kernel
theorem dX6_sizeAt_13 : decode cX6_sizeAt 13 = .ok (.iaload, 1) := by decide +kernel
theorem dX6_sizeAt_14 : decode cX6_sizeAt 14 = .ok (.iconst 1, 1) := by decide +kernel
theorem dX6_sizeAt_15 : decode cX6_sizeAt 15 = .ok (.iconst 2, 1) := by decide +kernel
theorem dX6_sizeAt_16 : decode cX6_sizeAt 16 = .ok (.invokestatic 78, 3) := by decide +kernel
theorem dX6_sizeAt_19 : decode cX6_sizeAt 19 = .ok (.ifCond .eq 27, 3) := by decide +kernel
theorem dX6_sizeAt_22 : decode cX6_sizeAt 22 = .ok (.iload_n 2, 1) := by decide +kernel
theorem dX6_sizeAt_23 : decode cX6_sizeAt 23 = .ok (.bipush 8, 2) := by decide +kernel
theorem dX6_sizeAt_25 : decode cX6_sizeAt 25 = .ok (.iadd, 1) := by decide +kernel
theorem dX6_sizeAt_26 : decode cX6_sizeAt 26 = .ok (.sipush 200, 3) := by decide +kernel
theorem dX6_sizeAt_29 : decode cX6_sizeAt 29 = .ok (.if_icmp .gt 17, 3) := by decide +kernel
theorem dX6_sizeAt_32 : decode cX6_sizeAt 32 = .ok (.aload_n 0, 1) := by decide +kernel
theorem dX6_sizeAt_33 : decode cX6_sizeAt 33 = .ok (.getfield 7, 3) := by decide +kernel
theorem dX6_sizeAt_36 : decode cX6_sizeAt 36 = .ok (.iload_n 3, 1) := by decide +kernel
theorem dX6_sizeAt_37 : decode cX6_sizeAt 37 = .ok (.bipush 7, 2) := by decide +kernel
theorem dX6_sizeAt_39 : decode cX6_sizeAt 39 = .ok (.iadd, 1) := by decide +kernel
theorem dX6_sizeAt_40 : decode cX6_sizeAt 40 = .ok (.iaload, 1) := by decide +kernel
theorem dX6_sizeAt_41 : decode cX6_sizeAt 41 = .ok (.bipush 20, 2) := by decide +kernel
theorem dX6_sizeAt_43 : decode cX6_sizeAt 43 = .ok (.if_icmp .le 5, 3) := by decide +kernel
theorem dX6_sizeAt_46 : decode cX6_sizeAt 46 = .ok (.iconst 0, 1) := by decide +kernel
theorem dX6_sizeAt_47 : decode cX6_sizeAt 47 = .ok (.ireturn, 1) := by decide +kernel
theorem dX6_sizeAt_48 : decode cX6_sizeAt 48 = .ok (.bipush 8, 2) := by decide +kernel
theorem dX6_sizeAt_50 : decode cX6_sizeAt 50 = .ok (.aload_n 0, 1) := by decide +kernel
theorem dX6_sizeAt_51 : decode cX6_sizeAt 51 = .ok (.getfield 7, 3) := by decide +kernel
theorem dX6_sizeAt_54 : decode cX6_sizeAt 54 = .ok (.iload_n 3, 1) := by decide +kernel
theorem dX6_sizeAt_55 : decode cX6_sizeAt 55 = .ok (.bipush 7, 2) := by decide +kernel
theorem dX6_sizeAt_57 : decode cX6_sizeAt 57 = .ok (.iadd, 1) := by decide +kernel
theorem dX6_sizeAt_58 : decode cX6_sizeAt 58 = .ok (.iaload, 1) := by decide +kernel
theorem dX6_sizeAt_59 : decode cX6_sizeAt 59 = .ok (.iadd, 1) := by decide +kernel
theorem dX6_sizeAt_60 : decode cX6_sizeAt 60 = .ok (.bipush 8, 2) := by decide +kernel
theorem dX6_sizeAt_62 : decode cX6_sizeAt 62 = .ok (.iadd, 1) := by decide +kernel
theorem dX6_sizeAt_63 : decode cX6_sizeAt 63 = .ok (.istore 4, 2) := by decide +kernel
theorem dX6_sizeAt_65 : decode cX6_sizeAt 65 = .ok (.iload_n 2, 1) := by decide +kernel
theorem dX6_sizeAt_66 : decode cX6_sizeAt 66 = .ok (.iload 4, 2) := by decide +kernel
theorem dX6_sizeAt_68 : decode cX6_sizeAt 68 = .ok (.iadd, 1) := by decide +kernel
theorem dX6_sizeAt_69 : decode cX6_sizeAt 69 = .ok (.sipush 200, 3) := by decide +kernel
theorem dX6_sizeAt_72 : decode cX6_sizeAt 72 = .ok (.if_icmp .le 7, 3) := by decide +kernel
theorem dX6_sizeAt_75 : decode cX6_sizeAt 75 = .ok (.iconst 0, 1) := by decide +kernel
theorem dX6_sizeAt_76 : decode cX6_sizeAt 76 = .ok (.goto 5, 3) := by decide +kernel
theorem dX6_sizeAt_79 : decode cX6_sizeAt 79 = .ok (.iload 4, 2) := by decide +kernel
theorem dX6_sizeAt_81 : decode cX6_sizeAt 81 = .ok (.ireturn, 1) := by decide +kernel
set_option maxRecDepth 20000 in
theorem ggX6_isGood_X6_sizeAt : GoodIn wsX6_isGood wsX6_sizeAt := goodIn_r _ [6, 1, 7, 8, 5, 9, 23, 24, 25, 26, 27, 28, 29, 30, 31, 32, 33, 34, 35, 36, 37, 38, 39, 40, 41, 42, 43, 44, 45, 46, 47, 48, 49, 50, 51] (by decide +kernel) (by decide +kernel)
set_option maxRecDepth 20000 in
theorem gX6_isGood_X6_sizeAt : GoodIn wsX6_isGood (wsV RX6 82 RX6 yX6_sizeAt wsX6_sizeAt) := goodIn_app (goodIn_of _ (by decide +kernel)) ggX6_isGood_X6_sizeAt
set_option maxRecDepth 20000 in
theorem ggX6_isGood_X6_number : GoodIn wsX6_isGood wsX6_number := goodIn_r _ [13, 1, 23, 24, 25, 26, 27, 28, 29, 30, 31, 32, 33, 34, 35, 36, 37, 38, 39, 40, 41, 42, 43, 44, 45, 46, 47, 48, 49, 50, 51] (by decide +kernel) (by decide +kernel)
set_option maxRecDepth 20000 in
theorem gX6_isGood_X6_number : GoodIn wsX6_isGood (wsV RX6 86 RX6 yX6_number wsX6_number) := goodIn_app (goodIn_of _ (by decide +kernel)) ggX6_isGood_X6_number
set_option maxRecDepth 20000 in
theorem ggX6_isGood_X6_hasSum : GoodIn wsX6_isGood wsX6_hasSum := goodIn_r _ [17, 1, 18, 19, 20, 5, 21, 22, 23, 24, 25, 26, 27, 28, 29, 30, 31, 32, 33, 34, 35, 36, 37, 38, 39, 40, 41, 42, 43, 44, 45, 46, 47, 48, 49, 50, 51] (by decide +kernel) (by decide +kernel)
set_option maxRecDepth 20000 in
theorem gX6_isGood_X6_hasSum : GoodIn wsX6_isGood (wsV RX6 89 RX6 yX6_hasSum wsX6_hasSum) := goodIn_app (goodIn_of _ (by decide +kernel)) ggX6_isGood_X6_hasSum
theorem dX6_isGood_0 : decode cX6_isGood 0 = .ok (.aload_n 0, 1) := by decide +kernel
theorem dX6_isGood_1 : decode cX6_isGood 1 = .ok (.iload_n 1, 1) := by decide +kernel
theorem dX6_isGood_2 : decode cX6_isGood 2 = .ok (.iload_n 2, 1) := by decide +kernel
theorem dX6_isGood_3 : decode cX6_isGood 3 = .ok (.invokevirtual 82, 3) := by decide +kernel
theorem dX6_isGood_6 : decode cX6_isGood 6 = .ok (.istore_n 3, 1) := by decide +kernel
theorem dX6_isGood_7 : decode cX6_isGood 7 = .ok (.sipush 200, 3) := by decide +kernel
theorem dX6_isGood_10 : decode cX6_isGood 10 = .ok (.iload_n 1, 1) := by decide +kernel
theorem dX6_isGood_11 : decode cX6_isGood 11 = .ok (.imul, 1) := by decide +kernel
theorem dX6_isGood_12 : decode cX6_isGood 12 = .ok (.iload_n 2, 1) := by decide +kernel
theorem dX6_isGood_13 : decode cX6_isGood 13 = .ok (.iadd, 1) := by decide +kernel
theorem dX6_isGood_14 : decode cX6_isGood 14 = .ok (.istore 4, 2) := by decide +kernel
theorem dX6_isGood_16 : decode cX6_isGood 16 = .ok (.iload_n 3, 1) := by decide +kernel
theorem dX6_isGood_17 : decode cX6_isGood 17 = .ok (.ifCond .ne 5, 3) := by decide +kernel
theorem dX6_isGood_20 : decode cX6_isGood 20 = .ok (.iconst 0, 1) := by decide +kernel
theorem dX6_isGood_21 : decode cX6_isGood 21 = .ok (.ireturn, 1) := by decide +kernel
theorem dX6_isGood_22 : decode cX6_isGood 22 = .ok (.aload_n 0, 1) := by decide +kernel
theorem dX6_isGood_23 : decode cX6_isGood 23 = .ok (.iload 4, 2) := by decide +kernel
theorem dX6_isGood_25 : decode cX6_isGood 25 = .ok (.iconst 1, 1) := by decide +kernel
theorem dX6_isGood_26 : decode cX6_isGood 26 = .ok (.iadd, 1) := by decide +kernel
theorem dX6_isGood_27 : decode cX6_isGood 27 = .ok (.iconst 2, 1) := by decide +kernel
theorem dX6_isGood_28 : decode cX6_isGood 28 = .ok (.invokevirtual 86, 3) := by decide +kernel
theorem dX6_isGood_31 : decode cX6_isGood 31 = .ok (.sipush 1000, 3) := by decide +kernel
theorem dX6_isGood_34 : decode cX6_isGood 34 = .ok (.if_icmp .ge 43, 3) := by decide +kernel
theorem dX6_isGood_37 : decode cX6_isGood 37 = .ok (.aload_n 0, 1) := by decide +kernel
theorem dX6_isGood_38 : decode cX6_isGood 38 = .ok (.iload 4, 2) := by decide +kernel
theorem dX6_isGood_40 : decode cX6_isGood 40 = .ok (.iconst 3, 1) := by decide +kernel
theorem dX6_isGood_41 : decode cX6_isGood 41 = .ok (.iadd, 1) := by decide +kernel
theorem dX6_isGood_42 : decode cX6_isGood 42 = .ok (.iconst 4, 1) := by decide +kernel
theorem dX6_isGood_43 : decode cX6_isGood 43 = .ok (.invokevirtual 86, 3) := by decide +kernel
theorem dX6_isGood_46 : decode cX6_isGood 46 = .ok (.ifCond .le 31, 3) := by decide +kernel
theorem dX6_isGood_49 : decode cX6_isGood 49 = .ok (.aload_n 0, 1) := by decide +kernel
theorem dX6_isGood_50 : decode cX6_isGood 50 = .ok (.getfield 7, 3) := by decide +kernel
theorem dX6_isGood_53 : decode cX6_isGood 53 = .ok (.iload 4, 2) := by decide +kernel
theorem dX6_isGood_55 : decode cX6_isGood 55 = .ok (.iaload, 1) := by decide +kernel
theorem dX6_isGood_56 : decode cX6_isGood 56 = .ok (.iconst 1, 1) := by decide +kernel
theorem dX6_isGood_57 : decode cX6_isGood 57 = .ok (.if_icmp .eq 16, 3) := by decide +kernel
theorem dX6_isGood_60 : decode cX6_isGood 60 = .ok (.aload_n 0, 1) := by decide +kernel
theorem dX6_isGood_61 : decode cX6_isGood 61 = .ok (.getfield 7, 3) := by decide +kernel
theorem dX6_isGood_64 : decode cX6_isGood 64 = .ok (.iload 4, 2) := by decide +kernel
theorem dX6_isGood_66 : decode cX6_isGood 66 = .ok (.bipush 7, 2) := by decide +kernel
theorem dX6_isGood_68 : decode cX6_isGood 68 = .ok (.iadd, 1) := by decide +kernel
theorem dX6_isGood_69 : decode cX6_isGood 69 = .ok (.iaload, 1) := by decide +kernel
theorem dX6_isGood_70 : decode cX6_isGood 70 = .ok (.ifCond .ne 7, 3) := by decide +kernel
theorem dX6_isGood_73 : decode cX6_isGood 73 = .ok (.iconst 1, 1) := by decide +kernel
theorem dX6_isGood_74 : decode cX6_isGood 74 = .ok (.goto 4, 3) := by decide +kernel
theorem dX6_isGood_77 : decode cX6_isGood 77 = .ok (.iconst 0, 1) := by decide +kernel
theorem dX6_isGood_78 : decode cX6_isGood 78 = .ok (.istore 5, 2) := by decide +kernel
theorem dX6_isGood_80 : decode cX6_isGood 80 = .ok (.iload 5, 2) := by decide +kernel
theorem dX6_isGood_82 : decode cX6_isGood 82 = .ok (.ifCond .eq 20, 3) := by decide +kernel
theorem dX6_isGood_85 : decode cX6_isGood 85 = .ok (.aload_n 0, 1) := by decide +kernel
theorem dX6_isGood_86 : decode cX6_isGood 86 = .ok (.iload 4, 2) := by decide +kernel
theorem dX6_isGood_88 : decode cX6_isGood 88 = .ok (.iload_n 3, 1) := by decide +kernel
theorem dX6_isGood_89 : decode cX6_isGood 89 = .ok (.bipush 8, 2) := by decide +kernel
theorem dX6_isGood_91 : decode cX6_isGood 91 = .ok (.isub, 1) := by decide +kernel
theorem dX6_isGood_92 : decode cX6_isGood 92 = .ok (.invokevirtual 89, 3) := by decide +kernel
theorem dX6_isGood_95 : decode cX6_isGood 95 = .ok (.ifCond .eq 7, 3) := by decide +kernel
theorem dX6_isGood_98 : decode cX6_isGood 98 = .ok (.iconst 1, 1) := by decide +kernel
theorem dX6_isGood_99 : decode cX6_isGood 99 = .ok (.goto 4, 3) := by decide +kernel
theorem dX6_isGood_102 : decode cX6_isGood 102 = .ok (.iconst 0, 1) := by decide +kernel
theorem dX6_isGood_103 : decode cX6_isGood 103 = .ok (.ireturn, 1) := by decide +kernel
set_option maxRecDepth 20000 in
theorem ggX6_lookAt_X6_sizeAt : GoodIn wsX6_lookAt wsX6_sizeAt := goodIn_r _ [14, 1, 15, 16, 13, 17, 35, 36, 37, 38, 39, 40, 41, 42, 43, 44, 45, 46, 47, 48, 49, 50, 51, 52, 53, 54, 55, 56, 57, 58, 59, 60, 61, 62, 63] (by decide +kernel) (by decide +kernel)
set_option maxRecDepth 20000 in
theorem gX6_lookAt_X6_sizeAt : GoodIn wsX6_lookAt (wsV RX6 82 RX6 yX6_sizeAt wsX6_sizeAt) := goodIn_app (goodIn_of _ (by decide +kernel)) ggX6_lookAt_X6_sizeAt
set_option maxRecDepth 20000 in
theorem ggX6_lookAt_X6_isGood : GoodIn wsX6_lookAt wsX6_isGood := goodIn_r _ [21, 1, 10, 11, 12, 13, 14, 15, 16, 17, 22, 23, 24, 25, 26, 27, 28, 29, 30, 31, 32, 33, 34, 35, 36, 37, 38, 39, 40, 41, 42, 43, 44, 45, 46, 47, 48, 49, 50, 51, 52, 53, 54, 55, 56, 57, 58, 59, 60, 61, 62, 63] (by decide +kernel) (by decide +kernel)
set_option maxRecDepth 20000 in
theorem gX6_lookAt_X6_isGood : GoodIn wsX6_lookAt (wsV RX6 93 RX6 yX6_isGood wsX6_isGood) := goodIn_app (goodIn_of _ (by decide +kernel)) ggX6_lookAt_X6_isGood
set_option maxRecDepth 20000 in
theorem ggX6_lookAt_X6_number : GoodIn wsX6_lookAt wsX6_number := goodIn_r _ [25, 1, 35, 36, 37, 38, 39, 40, 41, 42, 43, 44, 45, 46, 47, 48, 49, 50, 51, 52, 53, 54, 55, 56, 57, 58, 59, 60, 61, 62, 63] (by decide +kernel) (by decide +kernel)
set_option maxRecDepth 20000 in
theorem gX6_lookAt_X6_number : GoodIn wsX6_lookAt (wsV RX6 86 RX6 yX6_number wsX6_number) := goodIn_app (goodIn_of _ (by decide +kernel)) ggX6_lookAt_X6_number
theorem dX6_lookAt_0 : decode cX6_lookAt 0 = .ok (.iconst 0, 1) := by decide +kernel
theorem dX6_lookAt_1 : decode cX6_lookAt 1 = .ok (.istore_n 3, 1) := by decide +kernel
theorem dX6_lookAt_2 : decode cX6_lookAt 2 = .ok (.iload_n 3, 1) := by decide +kernel
theorem dX6_lookAt_3 : decode cX6_lookAt 3 = .ok (.iload_n 2, 1) := by decide +kernel
theorem dX6_lookAt_4 : decode cX6_lookAt 4 = .ok (.if_icmp .ge 201, 3) := by decide +kernel
theorem dX6_lookAt_7 : decode cX6_lookAt 7 = .ok (.aload_n 0, 1) := by decide +kernel
theorem dX6_lookAt_8 : decode cX6_lookAt 8 = .ok (.getfield 7, 3) := by decide +kernel
theorem dX6_lookAt_11 : decode cX6_lookAt 11 = .ok (.sipush 200, 3) := by decide +kernel
theorem dX6_lookAt_14 : decode cX6_lookAt 14 = .ok (.iload_n 1, 1) := by decide +kernel
theorem dX6_lookAt_15 : decode cX6_lookAt 15 = .ok (.imul, 1) := by decide +kernel
theorem dX6_lookAt_16 : decode cX6_lookAt 16 = .ok (.iload_n 3, 1) := by decide +kernel
theorem dX6_lookAt_17 : decode cX6_lookAt 17 = .ok (.iadd, 1) := by decide +kernel
theorem dX6_lookAt_18 : decode cX6_lookAt 18 = .ok (.iaload, 1) := by decide +kernel
theorem dX6_lookAt_19 : decode cX6_lookAt 19 = .ok (.ifCond .eq 186, 3) := by decide +kernel
theorem dX6_lookAt_22 : decode cX6_lookAt 22 = .ok (.aload_n 0, 1) := by decide +kernel
theorem dX6_lookAt_23 : decode cX6_lookAt 23 = .ok (.iload_n 1, 1) := by decide +kernel
theorem dX6_lookAt_24 : decode cX6_lookAt 24 = .ok (.iload_n 3, 1) := by decide +kernel
theorem dX6_lookAt_25 : decode cX6_lookAt 25 = .ok (.invokevirtual 82, 3) := by decide +kernel
theorem dX6_lookAt_28 : decode cX6_lookAt 28 = .ok (.istore 4, 2) := by decide +kernel
theorem dX6_lookAt_30 : decode cX6_lookAt 30 = .ok (.sipush 200, 3) := by decide +kernel
theorem dX6_lookAt_33 : decode cX6_lookAt 33 = .ok (.iload_n 1, 1) := by decide +kernel
theorem dX6_lookAt_34 : decode cX6_lookAt 34 = .ok (.imul, 1) := by decide +kernel
theorem dX6_lookAt_35 : decode cX6_lookAt 35 = .ok (.iload_n 3, 1) := by decide +kernel
theorem dX6_lookAt_36 : decode cX6_lookAt 36 = .ok (.iadd, 1) := by decide +kernel
theorem dX6_lookAt_37 : decode cX6_lookAt 37 = .ok (.istore 5, 2) := by decide +kernel
theorem dX6_lookAt_39 : decode cX6_lookAt 39 = .ok (.aload_n 0, 1) := by decide +kernel
theorem dX6_lookAt_40 : decode cX6_lookAt 40 = .ok (.iload_n 1, 1) := by decide +kernel
theorem dX6_lookAt_41 : decode cX6_lookAt 41 = .ok (.iload_n 3, 1) := by decide +kernel
theorem dX6_lookAt_42 : decode cX6_lookAt 42 = .ok (.invokevirtual 93, 3) := by decide +kernel
theorem dX6_lookAt_45 : decode cX6_lookAt 45 = .ok (.ifCond .eq 99, 3) := by decide +kernel
theorem dX6_lookAt_48 : decode cX6_lookAt 48 = .ok (.aload_n 0, 1) := by decide +kernel
theorem dX6_lookAt_49 : decode cX6_lookAt 49 = .ok (.getfield 36, 3) := by decide +kernel
theorem dX6_lookAt_52 : decode cX6_lookAt 52 = .ok (.aload_n 0, 1) := by decide +kernel
theorem dX6_lookAt_53 : decode cX6_lookAt 53 = .ok (.getfield 96, 3) := by decide +kernel
theorem dX6_lookAt_56 : decode cX6_lookAt 56 = .ok (.iload 5, 2) := by decide +kernel
theorem dX6_lookAt_58 : decode cX6_lookAt 58 = .ok (.iastore, 1) := by decide +kernel
theorem dX6_lookAt_59 : decode cX6_lookAt 59 = .ok (.aload_n 0, 1) := by decide +kernel
theorem dX6_lookAt_60 : decode cX6_lookAt 60 = .ok (.getfield 39, 3) := by decide +kernel
theorem dX6_lookAt_63 : decode cX6_lookAt 63 = .ok (.aload_n 0, 1) := by decide +kernel
theorem dX6_lookAt_64 : decode cX6_lookAt 64 = .ok (.getfield 96, 3) := by decide +kernel
theorem dX6_lookAt_67 : decode cX6_lookAt 67 = .ok (.aload_n 0, 1) := by decide +kernel
theorem dX6_lookAt_68 : decode cX6_lookAt 68 = .ok (.iload 5, 2) := by decide +kernel
theorem dX6_lookAt_70 : decode cX6_lookAt 70 = .ok (.iconst 1, 1) := by decide +kernel
theorem dX6_lookAt_71 : decode cX6_lookAt 71 = .ok (.iadd, 1) := by decide +kernel
theorem dX6_lookAt_72 : decode cX6_lookAt 72 = .ok (.iconst 2, 1) := by decide +kernel
theorem dX6_lookAt_73 : decode cX6_lookAt 73 = .ok (.invokevirtual 86, 3) := by decide +kernel
theorem dX6_lookAt_76 : decode cX6_lookAt 76 = .ok (.iastore, 1) := by decide +kernel
theorem dX6_lookAt_77 : decode cX6_lookAt 77 = .ok (.aload_n 0, 1) := by decide +kernel
theorem dX6_lookAt_78 : decode cX6_lookAt 78 = .ok (.getfield 42, 3) := by decide +kernel
theorem dX6_lookAt_81 : decode cX6_lookAt 81 = .ok (.aload_n 0, 1) := by decide +kernel
theorem dX6_lookAt_82 : decode cX6_lookAt 82 = .ok (.getfield 96, 3) := by decide +kernel
theorem dX6_lookAt_85 : decode cX6_lookAt 85 = .ok (.aload_n 0, 1) := by decide +kernel
theorem dX6_lookAt_86 : decode cX6_lookAt 86 = .ok (.iload 5, 2) := by decide +kernel
theorem dX6_lookAt_88 : decode cX6_lookAt 88 = .ok (.iconst 3, 1) := by decide +kernel
theorem dX6_lookAt_89 : decode cX6_lookAt 89 = .ok (.iadd, 1) := by decide +kernel
theorem dX6_lookAt_90 : decode cX6_lookAt 90 = .ok (.iconst 4, 1) := by decide +kernel
theorem dX6_lookAt_91 : decode cX6_lookAt 91 = .ok (.invokevirtual 86, 3) := by decide +kernel
theorem dX6_lookAt_94 : decode cX6_lookAt 94 = .ok (.iastore, 1) := by decide +kernel
theorem dX6_lookAt_95 : decode cX6_lookAt 95 = .ok (.aload_n 0, 1) := by decide +kernel
theorem dX6_lookAt_96 : decode cX6_lookAt 96 = .ok (.getfield 45, 3) := by decide +kernel
theorem dX6_lookAt_99 : decode cX6_lookAt 99 = .ok (.aload_n 0, 1) := by decide +kernel
theorem dX6_lookAt_100 : decode cX6_lookAt 100 = .ok (.getfield 96, 3) := by decide +kernel
theorem dX6_lookAt_103 : decode cX6_lookAt 103 = .ok (.aload_n 0, 1) := by decide +kernel
theorem dX6_lookAt_104 : decode cX6_lookAt 104 = .ok (.getfield 7, 3) := by decide +kernel
theorem dX6_lookAt_107 : decode cX6_lookAt 107 = .ok (.iload 5, 2) := by decide +kernel
theorem dX6_lookAt_109 : decode cX6_lookAt 109 = .ok (.iaload, 1) := by decide +kernel
theorem dX6_lookAt_110 : decode cX6_lookAt 110 = .ok (.iconst 2, 1) := by decide +kernel
theorem dX6_lookAt_111 : decode cX6_lookAt 111 = .ok (.if_icmp .ne 7, 3) := by decide +kernel
theorem dX6_lookAt_114 : decode cX6_lookAt 114 = .ok (.iconst 1, 1) := by decide +kernel
theorem dX6_lookAt_115 : decode cX6_lookAt 115 = .ok (.goto 4, 3) := by decide +kernel
theorem dX6_lookAt_118 : decode cX6_lookAt 118 = .ok (.iconst 0, 1) := by decide +kernel
theorem dX6_lookAt_119 : decode cX6_lookAt 119 = .ok (.bastore, 1) := by decide +kernel
theorem dX6_lookAt_120 : decode cX6_lookAt 120 = .ok (.aload_n 0, 1) := by decide +kernel
theorem dX6_lookAt_121 : decode cX6_lookAt 121 = .ok (.getfield 48, 3) := by decide +kernel
theorem dX6_lookAt_124 : decode cX6_lookAt 124 = .ok (.aload_n 0, 1) := by decide +kernel
theorem dX6_lookAt_125 : decode cX6_lookAt 125 = .ok (.getfield 96, 3) := by decide +kernel
theorem dX6_lookAt_128 : decode cX6_lookAt 128 = .ok (.iload 4, 2) := by decide +kernel
theorem dX6_lookAt_130 : decode cX6_lookAt 130 = .ok (.iastore, 1) := by decide +kernel
theorem dX6_lookAt_131 : decode cX6_lookAt 131 = .ok (.aload_n 0, 1) := by decide +kernel
theorem dX6_lookAt_132 : decode cX6_lookAt 132 = .ok (.dup, 1) := by decide +kernel
theorem dX6_lookAt_133 : decode cX6_lookAt 133 = .ok (.getfield 96, 3) := by decide +kernel
theorem dX6_lookAt_136 : decode cX6_lookAt 136 = .ok (.iconst 1, 1) := by decide +kernel
theorem dX6_lookAt_137 : decode cX6_lookAt 137 = .ok (.iadd, 1) := by decide +kernel
theorem dX6_lookAt_138 : decode cX6_lookAt 138 = .ok (.putfield 96, 3) := by decide +kernel
theorem dX6_lookAt_141 : decode cX6_lookAt 141 = .ok (.goto 49, 3) := by decide +kernel
theorem dX6_lookAt_144 : decode cX6_lookAt 144 = .ok (.aload_n 0, 1) := by decide +kernel
theorem dX6_lookAt_145 : decode cX6_lookAt 145 = .ok (.aload_n 0, 1) := by decide +kernel
theorem dX6_lookAt_146 : decode cX6_lookAt 146 = .ok (.getfield 54, 3) := by decide +kernel
theorem dX6_lookAt_149 : decode cX6_lookAt 149 = .ok (.ifCond .eq 10, 3) := by decide +kernel
theorem dX6_lookAt_152 : decode cX6_lookAt 152 = .ok (.aload_n 0, 1) := by decide +kernel
theorem dX6_lookAt_153 : decode cX6_lookAt 153 = .ok (.getfield 33, 3) := by decide +kernel
theorem dX6_lookAt_156 : decode cX6_lookAt 156 = .ok (.goto 26, 3) := by decide +kernel
theorem dX6_lookAt_159 : decode cX6_lookAt 159 = .ok (.iload_n 3, 1) := by decide +kernel
theorem dX6_lookAt_160 : decode cX6_lookAt 160 = .ok (.bipush 7, 2) := by decide +kernel
theorem dX6_lookAt_162 : decode cX6_lookAt 162 = .ok (.iadd, 1) := by decide +kernel
theorem dX6_lookAt_163 : decode cX6_lookAt 163 = .ok (.sipush 200, 3) := by decide +kernel
theorem dX6_lookAt_166 : decode cX6_lookAt 166 = .ok (.if_icmp .le 7, 3) := by decide +kernel
theorem dX6_lookAt_169 : decode cX6_lookAt 169 = .ok (.iconst 0, 1) := by decide +kernel
theorem dX6_lookAt_170 : decode cX6_lookAt 170 = .ok (.goto 12, 3) := by decide +kernel
theorem dX6_lookAt_173 : decode cX6_lookAt 173 = .ok (.aload_n 0, 1) := by decide +kernel
theorem dX6_lookAt_174 : decode cX6_lookAt 174 = .ok (.iload 5, 2) := by decide +kernel
theorem dX6_lookAt_176 : decode cX6_lookAt 176 = .ok (.iconst 3, 1) := by decide +kernel
theorem dX6_lookAt_177 : decode cX6_lookAt 177 = .ok (.iadd, 1) := by decide +kernel
theorem dX6_lookAt_178 : decode cX6_lookAt 178 = .ok (.iconst 4, 1) := by decide +kernel
theorem dX6_lookAt_179 : decode cX6_lookAt 179 = .ok (.invokevirtual 86, 3) := by decide +kernel
theorem dX6_lookAt_182 : decode cX6_lookAt 182 = .ok (.putfield 33, 3) := by decide +kernel
theorem dX6_lookAt_185 : decode cX6_lookAt 185 = .ok (.aload_n 0, 1) := by decide +kernel
theorem dX6_lookAt_186 : decode cX6_lookAt 186 = .ok (.iconst 1, 1) := by decide +kernel
theorem dX6_lookAt_187 : decode cX6_lookAt 187 = .ok (.putfield 54, 3) := by decide +kernel
theorem dX6_lookAt_190 : decode cX6_lookAt 190 = .ok (.iload 4, 2) := by decide +kernel
theorem dX6_lookAt_192 : decode cX6_lookAt 192 = .ok (.ifCond .ne 5, 3) := by decide +kernel
theorem dX6_lookAt_195 : decode cX6_lookAt 195 = .ok (.iload_n 3, 1) := by decide +kernel
theorem dX6_lookAt_196 : decode cX6_lookAt 196 = .ok (.ireturn, 1) := by decide +kernel
theorem dX6_lookAt_197 : decode cX6_lookAt 197 = .ok (.iload_n 3, 1) := by decide +kernel
theorem dX6_lookAt_198 : decode cX6_lookAt 198 = .ok (.iload 4, 2) := by decide +kernel
theorem dX6_lookAt_200 : decode cX6_lookAt 200 = .ok (.iadd, 1) := by decide +kernel
theorem dX6_lookAt_201 : decode cX6_lookAt 201 = .ok (.istore_n 3, 1) := by decide +kernel
theorem dX6_lookAt_202 : decode cX6_lookAt 202 = .ok (.goto (-200), 3) := by decide +kernel
theorem dX6_lookAt_205 : decode cX6_lookAt 205 = .ok (.iload_n 3, 1) := by decide +kernel
theorem dX6_lookAt_206 : decode cX6_lookAt 206 = .ok (.ireturn, 1) := by decide +kernel
set_option maxRecDepth 20000 in
theorem ggX6_know_X6_lookAt : GoodIn wsX6_know wsX6_lookAt := goodIn_r _ [9, 10, 11, 2, 12, 13, 14, 15, 16, 17, 18, 19, 20, 8, 21, 22, 23, 24, 25, 26, 27, 28, 29, 30, 31, 32, 33, 34, 35, 36, 37, 38, 39, 40, 41, 42, 43, 44, 45, 46, 47, 48, 49, 50, 51, 52, 53, 54, 55, 56, 57, 58, 59, 60, 61, 62, 63, 64, 65, 66, 67, 68, 69, 70] (by decide +kernel) (by decide +kernel)
set_option maxRecDepth 20000 in
theorem gX6_know_X6_lookAt : GoodIn wsX6_know (wsV RX6 102 RX6 yX6_lookAt wsX6_lookAt) := goodIn_app (goodIn_of _ (by decide +kernel)) ggX6_know_X6_lookAt
theorem dX6_know_0 : decode cX6_know 0 = .ok (.aload_n 0, 1) := by decide +kernel
theorem dX6_know_1 : decode cX6_know 1 = .ok (.getfield 99, 3) := by decide +kernel
theorem dX6_know_4 : decode cX6_know 4 = .ok (.ifCond .eq 4, 3) := by decide +kernel
theorem dX6_know_7 : decode cX6_know 7 = .ok (.return_, 1) := by decide +kernel
theorem dX6_know_8 : decode cX6_know 8 = .ok (.aload_n 0, 1) := by decide +kernel
theorem dX6_know_9 : decode cX6_know 9 = .ok (.iconst 1, 1) := by decide +kernel
theorem dX6_know_10 : decode cX6_know 10 = .ok (.putfield 99, 3) := by decide +kernel
theorem dX6_know_13 : decode cX6_know 13 = .ok (.aload_n 0, 1) := by decide +kernel
theorem dX6_know_14 : decode cX6_know 14 = .ok (.iconst 0, 1) := by decide +kernel
theorem dX6_know_15 : decode cX6_know 15 = .ok (.putfield 96, 3) := by decide +kernel
theorem dX6_know_18 : decode cX6_know 18 = .ok (.iconst 0, 1) := by decide +kernel
theorem dX6_know_19 : decode cX6_know 19 = .ok (.istore_n 1, 1) := by decide +kernel
theorem dX6_know_20 : decode cX6_know 20 = .ok (.iload_n 1, 1) := by decide +kernel
theorem dX6_know_21 : decode cX6_know 21 = .ok (.aload_n 0, 1) := by decide +kernel
theorem dX6_know_22 : decode cX6_know 22 = .ok (.getfield 64, 3) := by decide +kernel
theorem dX6_know_25 : decode cX6_know 25 = .ok (.if_icmp .ge 21, 3) := by decide +kernel
theorem dX6_know_28 : decode cX6_know 28 = .ok (.aload_n 0, 1) := by decide +kernel
theorem dX6_know_29 : decode cX6_know 29 = .ok (.iload_n 1, 1) := by decide +kernel
theorem dX6_know_30 : decode cX6_know 30 = .ok (.aload_n 0, 1) := by decide +kernel
theorem dX6_know_31 : decode cX6_know 31 = .ok (.getfield 13, 3) := by decide +kernel
theorem dX6_know_34 : decode cX6_know 34 = .ok (.iload_n 1, 1) := by decide +kernel
theorem dX6_know_35 : decode cX6_know 35 = .ok (.iaload, 1) := by decide +kernel
theorem dX6_know_36 : decode cX6_know 36 = .ok (.invokevirtual 102, 3) := by decide +kernel
theorem dX6_know_39 : decode cX6_know 39 = .ok (.pop, 1) := by decide +kernel
theorem dX6_know_40 : decode cX6_know 40 = .ok (.iinc 1 1, 3) := by decide +kernel
theorem dX6_know_43 : decode cX6_know 43 = .ok (.goto (-23), 3) := by decide +kernel
theorem dX6_know_46 : decode cX6_know 46 = .ok (.return_, 1) := by decide +kernel
set_option maxRecDepth 20000 in
theorem ggX6_rowOf_X6_know : GoodIn wsX6_rowOf wsX6_know := goodIn_r _ [8, 9, 1, 10, 11, 12, 13, 14, 7, 15, 16, 17, 2, 3, 18, 19, 20, 21, 22, 23, 24, 25, 26, 27, 28, 29, 30, 31, 32, 33, 34, 35, 36, 37, 38, 39, 40, 41, 42, 43, 44, 45, 46, 47, 48, 49, 50, 51, 52, 53, 54, 55, 56, 57, 58, 59, 60, 61, 62, 63, 64, 65, 66, 67, 68, 69, 70, 71, 72, 73, 74] (by decide +kernel) (by decide +kernel)
set_option maxRecDepth 20000 in
theorem gX6_rowOf_X6_know : GoodIn wsX6_rowOf (wsV RX6 105 RX6 yX6_know wsX6_know) := goodIn_app (goodIn_of _ (by decide +kernel)) ggX6_rowOf_X6_know
theorem dX6_rowOf_0 : decode cX6_rowOf 0 = .ok (.aload_n 0, 1) := by decide +kernel
theorem dX6_rowOf_1 : decode cX6_rowOf 1 = .ok (.invokevirtual 105, 3) := by decide +kernel
theorem dX6_rowOf_4 : decode cX6_rowOf 4 = .ok (.iconst (-1), 1) := by decide +kernel
theorem dX6_rowOf_5 : decode cX6_rowOf 5 = .ok (.istore_n 3, 1) := by decide +kernel
theorem dX6_rowOf_6 : decode cX6_rowOf 6 = .ok (.iconst 0, 1) := by decide +kernel
theorem dX6_rowOf_7 : decode cX6_rowOf 7 = .ok (.istore 4, 2) := by decide +kernel
theorem dX6_rowOf_9 : decode cX6_rowOf 9 = .ok (.iload 4, 2) := by decide +kernel
theorem dX6_rowOf_11 : decode cX6_rowOf 11 = .ok (.aload_n 0, 1) := by decide +kernel
theorem dX6_rowOf_12 : decode cX6_rowOf 12 = .ok (.getfield 96, 3) := by decide +kernel
theorem dX6_rowOf_15 : decode cX6_rowOf 15 = .ok (.if_icmp .ge 54, 3) := by decide +kernel
theorem dX6_rowOf_18 : decode cX6_rowOf 18 = .ok (.aload_n 0, 1) := by decide +kernel
theorem dX6_rowOf_19 : decode cX6_rowOf 19 = .ok (.getfield 39, 3) := by decide +kernel
theorem dX6_rowOf_22 : decode cX6_rowOf 22 = .ok (.iload 4, 2) := by decide +kernel
theorem dX6_rowOf_24 : decode cX6_rowOf 24 = .ok (.iaload, 1) := by decide +kernel
theorem dX6_rowOf_25 : decode cX6_rowOf 25 = .ok (.iload_n 1, 1) := by decide +kernel
theorem dX6_rowOf_26 : decode cX6_rowOf 26 = .ok (.if_icmp .ne 37, 3) := by decide +kernel
theorem dX6_rowOf_29 : decode cX6_rowOf 29 = .ok (.aload_n 0, 1) := by decide +kernel
theorem dX6_rowOf_30 : decode cX6_rowOf 30 = .ok (.getfield 42, 3) := by decide +kernel
theorem dX6_rowOf_33 : decode cX6_rowOf 33 = .ok (.iload 4, 2) := by decide +kernel
theorem dX6_rowOf_35 : decode cX6_rowOf 35 = .ok (.iaload, 1) := by decide +kernel
theorem dX6_rowOf_36 : decode cX6_rowOf 36 = .ok (.iload_n 2, 1) := by decide +kernel
theorem dX6_rowOf_37 : decode cX6_rowOf 37 = .ok (.if_icmp .gt 26, 3) := by decide +kernel
theorem dX6_rowOf_40 : decode cX6_rowOf 40 = .ok (.iload_n 3, 1) := by decide +kernel
theorem dX6_rowOf_41 : decode cX6_rowOf 41 = .ok (.ifCond .lt 19, 3) := by decide +kernel
theorem dX6_rowOf_44 : decode cX6_rowOf 44 = .ok (.aload_n 0, 1) := by decide +kernel
theorem dX6_rowOf_45 : decode cX6_rowOf 45 = .ok (.getfield 42, 3) := by decide +kernel
theorem dX6_rowOf_48 : decode cX6_rowOf 48 = .ok (.iload 4, 2) := by decide +kernel
theorem dX6_rowOf_50 : decode cX6_rowOf 50 = .ok (.iaload, 1) := by decide +kernel
theorem dX6_rowOf_51 : decode cX6_rowOf 51 = .ok (.aload_n 0, 1) := by decide +kernel
theorem dX6_rowOf_52 : decode cX6_rowOf 52 = .ok (.getfield 42, 3) := by decide +kernel
theorem dX6_rowOf_55 : decode cX6_rowOf 55 = .ok (.iload_n 3, 1) := by decide +kernel
theorem dX6_rowOf_56 : decode cX6_rowOf 56 = .ok (.iaload, 1) := by decide +kernel
theorem dX6_rowOf_57 : decode cX6_rowOf 57 = .ok (.if_icmp .le 6, 3) := by decide +kernel
theorem dX6_rowOf_60 : decode cX6_rowOf 60 = .ok (.iload 4, 2) := by decide +kernel
theorem dX6_rowOf_62 : decode cX6_rowOf 62 = .ok (.istore_n 3, 1) := by decide +kernel
theorem dX6_rowOf_63 : decode cX6_rowOf 63 = .ok (.iinc 4 1, 3) := by decide +kernel
theorem dX6_rowOf_66 : decode cX6_rowOf 66 = .ok (.goto (-57), 3) := by decide +kernel
theorem dX6_rowOf_69 : decode cX6_rowOf 69 = .ok (.iload_n 3, 1) := by decide +kernel
theorem dX6_rowOf_70 : decode cX6_rowOf 70 = .ok (.ireturn, 1) := by decide +kernel
set_option maxRecDepth 20000 in
theorem ggX6_has_X6_rowOf : GoodIn wsX6_has wsX6_rowOf := goodIn_r _ [6, 7, 8, 9, 10, 11, 12, 5, 13, 14, 15, 16, 17, 18, 19, 20, 21, 22, 1, 23, 24, 25, 26, 27, 28, 29, 30, 31, 32, 33, 34, 35, 36, 37, 38, 39, 40, 41, 42, 43, 44, 45, 46, 47, 48, 49, 50, 51, 52, 53, 54, 55, 56, 57, 58, 59, 60, 61, 62, 63, 64, 65, 66, 67, 68, 69, 70, 71, 72, 73, 74, 75, 76, 77, 78] (by decide +kernel) (by decide +kernel)
set_option maxRecDepth 20000 in
theorem gX6_has_X6_rowOf : GoodIn wsX6_has (wsV RX6 108 RX6 yX6_rowOf wsX6_rowOf) := goodIn_app (goodIn_of _ (by decide +kernel)) ggX6_has_X6_rowOf
theorem dX6_has_0 : decode cX6_has 0 = .ok (.aload_n 0, 1) := by decide +kernel
theorem dX6_has_1 : decode cX6_has 1 = .ok (.iload_n 1, 1) := by decide +kernel
theorem dX6_has_2 : decode cX6_has 2 = .ok (.iload_n 2, 1) := by decide +kernel
theorem dX6_has_3 : decode cX6_has 3 = .ok (.invokevirtual 108, 3) := by decide +kernel
theorem dX6_has_6 : decode cX6_has 6 = .ok (.istore_n 3, 1) := by decide +kernel
theorem dX6_has_7 : decode cX6_has 7 = .ok (.iload_n 3, 1) := by decide +kernel
theorem dX6_has_8 : decode cX6_has 8 = .ok (.ifCond .lt 16, 3) := by decide +kernel
theorem dX6_has_11 : decode cX6_has 11 = .ok (.aload_n 0, 1) := by decide +kernel
theorem dX6_has_12 : decode cX6_has 12 = .ok (.getfield 45, 3) := by decide +kernel
theorem dX6_has_15 : decode cX6_has 15 = .ok (.iload_n 3, 1) := by decide +kernel
theorem dX6_has_16 : decode cX6_has 16 = .ok (.baload, 1) := by decide +kernel
theorem dX6_has_17 : decode cX6_has 17 = .ok (.ifCond .ne 7, 3) := by decide +kernel
theorem dX6_has_20 : decode cX6_has 20 = .ok (.iload_n 3, 1) := by decide +kernel
theorem dX6_has_21 : decode cX6_has 21 = .ok (.goto 4, 3) := by decide +kernel
theorem dX6_has_24 : decode cX6_has 24 = .ok (.iconst (-1), 1) := by decide +kernel
theorem dX6_has_25 : decode cX6_has 25 = .ok (.ireturn, 1) := by decide +kernel
set_option maxRecDepth 20000 in
theorem ggX6_lives_X6_rowOf : GoodIn wsX6_lives wsX6_rowOf := goodIn_r _ [12, 6, 1, 7, 13, 14, 15, 11, 16, 17, 18, 19, 20, 21, 22, 23, 24, 25, 5, 26, 27, 28, 29, 30, 31, 32, 33, 34, 35, 36, 37, 38, 39, 40, 41, 42, 43, 44, 45, 46, 47, 48, 49, 50, 51, 52, 53, 54, 55, 56, 57, 58, 59, 60, 61, 62, 63, 64, 65, 66, 67, 68, 69, 70, 71, 72, 73, 74, 75, 76, 77, 78, 79, 80, 81] (by decide +kernel) (by decide +kernel)
set_option maxRecDepth 20000 in
theorem gX6_lives_X6_rowOf : GoodIn wsX6_lives (wsV RX6 108 RX6 yX6_rowOf wsX6_rowOf) := goodIn_app (goodIn_of _ (by decide +kernel)) ggX6_lives_X6_rowOf
theorem dX6_lives_0 : decode cX6_lives 0 = .ok (.aload_n 0, 1) := by decide +kernel
theorem dX6_lives_1 : decode cX6_lives 1 = .ok (.aload_n 0, 1) := by decide +kernel
theorem dX6_lives_2 : decode cX6_lives 2 = .ok (.getfield 39, 3) := by decide +kernel
theorem dX6_lives_5 : decode cX6_lives 5 = .ok (.iload_n 1, 1) := by decide +kernel
theorem dX6_lives_6 : decode cX6_lives 6 = .ok (.iaload, 1) := by decide +kernel
theorem dX6_lives_7 : decode cX6_lives 7 = .ok (.ldc 111, 2) := by decide +kernel
theorem dX6_lives_9 : decode cX6_lives 9 = .ok (.invokevirtual 108, 3) := by decide +kernel
theorem dX6_lives_12 : decode cX6_lives 12 = .ok (.iload_n 1, 1) := by decide +kernel
theorem dX6_lives_13 : decode cX6_lives 13 = .ok (.if_icmp .ne 7, 3) := by decide +kernel
theorem dX6_lives_16 : decode cX6_lives 16 = .ok (.iconst 1, 1) := by decide +kernel
theorem dX6_lives_17 : decode cX6_lives 17 = .ok (.goto 4, 3) := by decide +kernel
theorem dX6_lives_20 : decode cX6_lives 20 = .ok (.iconst 0, 1) := by decide +kernel
theorem dX6_lives_21 : decode cX6_lives 21 = .ok (.istore_n 2, 1) := by decide +kernel
theorem dX6_lives_22 : decode cX6_lives 22 = .ok (.iconst 0, 1) := by decide +kernel
theorem dX6_lives_23 : decode cX6_lives 23 = .ok (.istore_n 3, 1) := by decide +kernel
theorem dX6_lives_24 : decode cX6_lives 24 = .ok (.iload_n 3, 1) := by decide +kernel
theorem dX6_lives_25 : decode cX6_lives 25 = .ok (.iconst 4, 1) := by decide +kernel
theorem dX6_lives_26 : decode cX6_lives 26 = .ok (.if_icmp .ge 48, 3) := by decide +kernel
theorem dX6_lives_29 : decode cX6_lives 29 = .ok (.iload_n 2, 1) := by decide +kernel
theorem dX6_lives_30 : decode cX6_lives 30 = .ok (.ifCond .ne 32, 3) := by decide +kernel
theorem dX6_lives_33 : decode cX6_lives 33 = .ok (.aload_n 0, 1) := by decide +kernel
theorem dX6_lives_34 : decode cX6_lives 34 = .ok (.getfield 26, 3) := by decide +kernel
theorem dX6_lives_37 : decode cX6_lives 37 = .ok (.iload_n 3, 1) := by decide +kernel
theorem dX6_lives_38 : decode cX6_lives 38 = .ok (.baload, 1) := by decide +kernel
theorem dX6_lives_39 : decode cX6_lives 39 = .ok (.ifCond .eq 27, 3) := by decide +kernel
theorem dX6_lives_42 : decode cX6_lives 42 = .ok (.aload_n 0, 1) := by decide +kernel
theorem dX6_lives_43 : decode cX6_lives 43 = .ok (.aload_n 0, 1) := by decide +kernel
theorem dX6_lives_44 : decode cX6_lives 44 = .ok (.getfield 39, 3) := by decide +kernel
theorem dX6_lives_47 : decode cX6_lives 47 = .ok (.iload_n 1, 1) := by decide +kernel
theorem dX6_lives_48 : decode cX6_lives 48 = .ok (.iaload, 1) := by decide +kernel
theorem dX6_lives_49 : decode cX6_lives 49 = .ok (.aload_n 0, 1) := by decide +kernel
theorem dX6_lives_50 : decode cX6_lives 50 = .ok (.getfield 30, 3) := by decide +kernel
theorem dX6_lives_53 : decode cX6_lives 53 = .ok (.iload_n 3, 1) := by decide +kernel
theorem dX6_lives_54 : decode cX6_lives 54 = .ok (.iaload, 1) := by decide +kernel
theorem dX6_lives_55 : decode cX6_lives 55 = .ok (.invokevirtual 108, 3) := by decide +kernel
theorem dX6_lives_58 : decode cX6_lives 58 = .ok (.iload_n 1, 1) := by decide +kernel
theorem dX6_lives_59 : decode cX6_lives 59 = .ok (.if_icmp .ne 7, 3) := by decide +kernel
theorem dX6_lives_62 : decode cX6_lives 62 = .ok (.iconst 1, 1) := by decide +kernel
theorem dX6_lives_63 : decode cX6_lives 63 = .ok (.goto 4, 3) := by decide +kernel
theorem dX6_lives_66 : decode cX6_lives 66 = .ok (.iconst 0, 1) := by decide +kernel
theorem dX6_lives_67 : decode cX6_lives 67 = .ok (.istore_n 2, 1) := by decide +kernel
theorem dX6_lives_68 : decode cX6_lives 68 = .ok (.iinc 3 1, 3) := by decide +kernel
theorem dX6_lives_71 : decode cX6_lives 71 = .ok (.goto (-47), 3) := by decide +kernel
theorem dX6_lives_74 : decode cX6_lives 74 = .ok (.aload_n 0, 1) := by decide +kernel
theorem dX6_lives_75 : decode cX6_lives 75 = .ok (.getfield 45, 3) := by decide +kernel
theorem dX6_lives_78 : decode cX6_lives 78 = .ok (.iload_n 1, 1) := by decide +kernel
theorem dX6_lives_79 : decode cX6_lives 79 = .ok (.baload, 1) := by decide +kernel
theorem dX6_lives_80 : decode cX6_lives 80 = .ok (.ifCond .ne 7, 3) := by decide +kernel
theorem dX6_lives_83 : decode cX6_lives 83 = .ok (.iconst 1, 1) := by decide +kernel
theorem dX6_lives_84 : decode cX6_lives 84 = .ok (.goto 4, 3) := by decide +kernel
theorem dX6_lives_87 : decode cX6_lives 87 = .ok (.iconst 0, 1) := by decide +kernel
theorem dX6_lives_88 : decode cX6_lives 88 = .ok (.istore_n 3, 1) := by decide +kernel
theorem dX6_lives_89 : decode cX6_lives 89 = .ok (.iconst 0, 1) := by decide +kernel
