set_option maxRecDepth 20000 in
theorem ggX0_init_X4_init : GoodIn wsX0_init wsX4_init := goodIn_r _ [16, 17, 2, 3, 12, 18, 19, 20, 21, 22, 23, 24, 25, 35, 36, 37, 38, 39, 40, 41, 42] (by decide +kernel) (by decide +kernel)
set_option maxRecDepth 20000 in
theorem gX0_init_X4_init_n11 : GoodIn wsX0_init (wsX4_init) := ggX0_init_X4_init
set_option maxRecDepth 20000 in
theorem ggX0_init_X3_init : GoodIn wsX0_init wsX3_init := goodIn_r _ [27, 28, 2, 3, 29, 12, 30, 31, 32, 33, 34, 47, 48, 49, 50, 51, 52] (by decide +kernel) (by decide +kernel)
set_option maxRecDepth 20000 in
theorem gX0_init_X3_init_n20 : GoodIn wsX0_init (wsX3_init) := ggX0_init_X3_init
theorem dX0_init_0 : decode cX0_init 0 = .ok (.aload_n 0, 1) := by decide +kernel
theorem dX0_init_1 : decode cX0_init 1 = .ok (.invokespecial 3, 3) := by decide +kernel
theorem dX0_init_4 : decode cX0_init 4 = .ok (.aload_n 0, 1) := by decide +kernel
theorem dX0_init_5 : decode cX0_init 5 = .ok (.new 9, 3) := by decide +kernel
theorem dX0_init_8 : decode cX0_init 8 = .ok (.dup, 1) := by decide +kernel
theorem dX0_init_9 : decode cX0_init 9 = .ok (.invokespecial 11, 3) := by decide +kernel
theorem dX0_init_12 : decode cX0_init 12 = .ok (.putfield 12, 3) := by decide +kernel
theorem dX0_init_15 : decode cX0_init 15 = .ok (.aload_n 0, 1) := by decide +kernel
theorem dX0_init_16 : decode cX0_init 16 = .ok (.new 18, 3) := by decide +kernel
theorem dX0_init_19 : decode cX0_init 19 = .ok (.dup, 1) := by decide +kernel
theorem dX0_init_20 : decode cX0_init 20 = .ok (.invokespecial 20, 3) := by decide +kernel
theorem dX0_init_23 : decode cX0_init 23 = .ok (.putfield 21, 3) := by decide +kernel
theorem dX0_init_26 : decode cX0_init 26 = .ok (.aload_n 0, 1) := by decide +kernel
theorem dX0_init_27 : decode cX0_init 27 = .ok (.bipush 48, 2) := by decide +kernel
theorem dX0_init_29 : decode cX0_init 29 = .ok (.newarray .int, 2) := by decide +kernel
theorem dX0_init_31 : decode cX0_init 31 = .ok (.putfield 25, 3) := by decide +kernel
theorem dX0_init_34 : decode cX0_init 34 = .ok (.aload_n 0, 1) := by decide +kernel
theorem dX0_init_35 : decode cX0_init 35 = .ok (.bipush 48, 2) := by decide +kernel
theorem dX0_init_37 : decode cX0_init 37 = .ok (.newarray .int, 2) := by decide +kernel
theorem dX0_init_39 : decode cX0_init 39 = .ok (.putfield 29, 3) := by decide +kernel
theorem dX0_init_42 : decode cX0_init 42 = .ok (.return_, 1) := by decide +kernel
set_option maxRecDepth 20000 in
theorem ggX0_becomeChoir_X4_copyFrom : GoodIn wsX0_becomeChoir wsX4_copyFrom := goodIn_r _ [8, 9, 10, 11, 12, 13, 14, 15, 16, 17, 18, 19, 20, 21, 22, 23, 24, 25, 26, 27, 42, 43, 44, 45, 46, 47, 48, 49] (by decide +kernel) (by decide +kernel)
set_option maxRecDepth 20000 in
theorem gX0_becomeChoir_X4_copyFrom : GoodIn wsX0_becomeChoir (wsV RX0 32 RX4 yX4_copyFrom wsX4_copyFrom) := goodIn_app (goodIn_of _ (by decide +kernel)) ggX0_becomeChoir_X4_copyFrom
set_option maxRecDepth 20000 in
theorem ggX0_becomeChoir_X3_copyFrom : GoodIn wsX0_becomeChoir wsX3_copyFrom := goodIn_r _ [32, 33, 34, 35, 36, 37, 17, 18, 19, 20, 21, 22, 23, 24, 25, 26, 27, 50, 51, 52, 53, 54, 55] (by decide +kernel) (by decide +kernel)
set_option maxRecDepth 20000 in
theorem gX0_becomeChoir_X3_copyFrom : GoodIn wsX0_becomeChoir (wsV RX0 36 RX3 yX3_copyFrom wsX3_copyFrom) := goodIn_app (goodIn_of _ (by decide +kernel)) ggX0_becomeChoir_X3_copyFrom
set_option maxRecDepth 20000 in
theorem ggX0_becomeChoir_X5_copyRow : GoodIn wsX0_becomeChoir wsX5_copyRow := goodIn_r _ [19, 20, 21, 22, 23, 24, 25, 26, 27] (by decide +kernel) (by decide +kernel)
set_option maxRecDepth 20000 in
theorem gX0_becomeChoir_X5_copyRow_n39 : GoodIn wsX0_becomeChoir (wsX5_copyRow) := ggX0_becomeChoir_X5_copyRow
theorem dX0_becomeChoir_0 : decode cX0_becomeChoir 0 = .ok (.aload_n 0, 1) := by decide +kernel
theorem dX0_becomeChoir_1 : decode cX0_becomeChoir 1 = .ok (.getfield 12, 3) := by decide +kernel
theorem dX0_becomeChoir_4 : decode cX0_becomeChoir 4 = .ok (.aload_n 1, 1) := by decide +kernel
theorem dX0_becomeChoir_5 : decode cX0_becomeChoir 5 = .ok (.getfield 12, 3) := by decide +kernel
theorem dX0_becomeChoir_8 : decode cX0_becomeChoir 8 = .ok (.invokevirtual 32, 3) := by decide +kernel
theorem dX0_becomeChoir_11 : decode cX0_becomeChoir 11 = .ok (.aload_n 0, 1) := by decide +kernel
theorem dX0_becomeChoir_12 : decode cX0_becomeChoir 12 = .ok (.getfield 21, 3) := by decide +kernel
theorem dX0_becomeChoir_15 : decode cX0_becomeChoir 15 = .ok (.aload_n 1, 1) := by decide +kernel
theorem dX0_becomeChoir_16 : decode cX0_becomeChoir 16 = .ok (.getfield 21, 3) := by decide +kernel
theorem dX0_becomeChoir_19 : decode cX0_becomeChoir 19 = .ok (.invokevirtual 36, 3) := by decide +kernel
theorem dX0_becomeChoir_22 : decode cX0_becomeChoir 22 = .ok (.aload_n 1, 1) := by decide +kernel
theorem dX0_becomeChoir_23 : decode cX0_becomeChoir 23 = .ok (.getfield 25, 3) := by decide +kernel
theorem dX0_becomeChoir_26 : decode cX0_becomeChoir 26 = .ok (.aload_n 0, 1) := by decide +kernel
theorem dX0_becomeChoir_27 : decode cX0_becomeChoir 27 = .ok (.getfield 25, 3) := by decide +kernel
theorem dX0_becomeChoir_30 : decode cX0_becomeChoir 30 = .ok (.invokestatic 39, 3) := by decide +kernel
theorem dX0_becomeChoir_33 : decode cX0_becomeChoir 33 = .ok (.return_, 1) := by decide +kernel
set_option maxRecDepth 20000 in
theorem ggX0_becomeSong_X4_copyFrom : GoodIn wsX0_becomeSong wsX4_copyFrom := goodIn_r _ [7, 8, 9, 10, 11, 12, 13, 14, 15, 16, 17, 18, 19, 20, 21, 22, 23, 24, 25, 26, 66, 67, 68, 69, 70, 71, 72, 73] (by decide +kernel) (by decide +kernel)
set_option maxRecDepth 20000 in
theorem gX0_becomeSong_X4_copyFrom : GoodIn wsX0_becomeSong (wsV RX0 32 RX4 yX4_copyFrom wsX4_copyFrom) := goodIn_app (goodIn_of _ (by decide +kernel)) ggX0_becomeSong_X4_copyFrom
set_option maxRecDepth 20000 in
theorem ggX0_becomeSong_X3_arrange : GoodIn wsX0_becomeSong wsX3_arrange := goodIn_r _ [31, 32, 33, 20, 21, 22, 34, 35, 36, 37, 38, 39, 40, 41, 42, 43, 44, 45, 30, 46, 66, 67, 68, 69, 70, 71, 72, 73, 74, 75, 76, 77, 78, 79] (by decide +kernel) (by decide +kernel)
set_option maxRecDepth 20000 in
theorem gX0_becomeSong_X3_arrange : GoodIn wsX0_becomeSong (wsV RX0 43 RX3 yX3_arrange wsX3_arrange) := goodIn_app (goodIn_of _ (by decide +kernel)) ggX0_becomeSong_X3_arrange
set_option maxRecDepth 20000 in
theorem ggX0_becomeSong_X0_shareOut : GoodIn wsX0_becomeSong wsX0_shareOut := goodIn_r _ [51, 1, 52, 2, 53, 54, 55, 56, 6, 57, 12, 10, 58, 59, 60, 30, 61, 37, 42, 62, 63, 64, 65, 66, 67, 68, 69, 70, 71, 72, 73, 74, 75, 76, 77, 78, 79] (by decide +kernel) (by decide +kernel)
set_option maxRecDepth 20000 in
theorem gX0_becomeSong_X0_shareOut : GoodIn wsX0_becomeSong (wsV RX0 46 RX0 yX0_shareOut wsX0_shareOut) := goodIn_app (goodIn_of _ (by decide +kernel)) ggX0_becomeSong_X0_shareOut
theorem dX0_becomeSong_0 : decode cX0_becomeSong 0 = .ok (.aload_n 0, 1) := by decide +kernel
theorem dX0_becomeSong_1 : decode cX0_becomeSong 1 = .ok (.getfield 12, 3) := by decide +kernel
theorem dX0_becomeSong_4 : decode cX0_becomeSong 4 = .ok (.aload_n 1, 1) := by decide +kernel
theorem dX0_becomeSong_5 : decode cX0_becomeSong 5 = .ok (.invokevirtual 32, 3) := by decide +kernel
theorem dX0_becomeSong_8 : decode cX0_becomeSong 8 = .ok (.aload_n 0, 1) := by decide +kernel
theorem dX0_becomeSong_9 : decode cX0_becomeSong 9 = .ok (.getfield 21, 3) := by decide +kernel
theorem dX0_becomeSong_12 : decode cX0_becomeSong 12 = .ok (.aload_n 0, 1) := by decide +kernel
theorem dX0_becomeSong_13 : decode cX0_becomeSong 13 = .ok (.getfield 12, 3) := by decide +kernel
theorem dX0_becomeSong_16 : decode cX0_becomeSong 16 = .ok (.invokevirtual 43, 3) := by decide +kernel
theorem dX0_becomeSong_19 : decode cX0_becomeSong 19 = .ok (.aload_n 0, 1) := by decide +kernel
theorem dX0_becomeSong_20 : decode cX0_becomeSong 20 = .ok (.invokevirtual 46, 3) := by decide +kernel
theorem dX0_becomeSong_23 : decode cX0_becomeSong 23 = .ok (.return_, 1) := by decide +kernel
set_option maxRecDepth 20000 in
theorem ggX0_keeperOf_X5_cellOf : GoodIn wsX0_keeperOf wsX5_cellOf := goodIn_r _ [4] (by decide +kernel) (by decide +kernel)
set_option maxRecDepth 20000 in
theorem gX0_keeperOf_X5_cellOf_n49 : GoodIn wsX0_keeperOf (wsX5_cellOf) := ggX0_keeperOf_X5_cellOf
theorem dX0_keeperOf_0 : decode cX0_keeperOf 0 = .ok (.aload_n 0, 1) := by decide +kernel
theorem dX0_keeperOf_1 : decode cX0_keeperOf 1 = .ok (.getfield 25, 3) := by decide +kernel
theorem dX0_keeperOf_4 : decode cX0_keeperOf 4 = .ok (.iload_n 1, 1) := by decide +kernel
theorem dX0_keeperOf_5 : decode cX0_keeperOf 5 = .ok (.invokestatic 49, 3) := by decide +kernel
theorem dX0_keeperOf_8 : decode cX0_keeperOf 8 = .ok (.ireturn, 1) := by decide +kernel
set_option maxRecDepth 20000 in
theorem ggX0_longestRepeatIn_X4_startOf : GoodIn wsX0_longestRepeatIn wsX4_startOf := goodIn_r _ [14, 15, 16, 17, 18, 19, 38, 39, 40, 41, 42, 43, 44, 45] (by decide +kernel) (by decide +kernel)
set_option maxRecDepth 20000 in
theorem gX0_longestRepeatIn_X4_startOf : GoodIn wsX0_longestRepeatIn (wsV RX0 53 RX4 yX4_startOf wsX4_startOf) := goodIn_app (goodIn_of _ (by decide +kernel)) ggX0_longestRepeatIn_X4_startOf
set_option maxRecDepth 20000 in
theorem ggX0_longestRepeatIn_X4_lengthOf : GoodIn wsX0_longestRepeatIn wsX4_lengthOf := goodIn_r _ [23, 16, 24, 25, 26, 13, 27, 15, 17, 18, 19, 38, 39, 40, 41, 42, 43, 44, 45] (by decide +kernel) (by decide +kernel)
set_option maxRecDepth 20000 in
theorem gX0_longestRepeatIn_X4_lengthOf : GoodIn wsX0_longestRepeatIn (wsV RX0 57 RX4 yX4_lengthOf wsX4_lengthOf) := goodIn_app (goodIn_of _ (by decide +kernel)) ggX0_longestRepeatIn_X4_lengthOf
set_option maxRecDepth 20000 in
theorem ggX0_longestRepeatIn_X3_repeatAt : GoodIn wsX0_longestRepeatIn wsX3_repeatAt := goodIn_r _ [32, 33, 17, 18, 19, 46, 47, 48, 49, 50, 51] (by decide +kernel) (by decide +kernel)
set_option maxRecDepth 20000 in
theorem gX0_longestRepeatIn_X3_repeatAt : GoodIn wsX0_longestRepeatIn (wsV RX0 60 RX3 yX3_repeatAt wsX3_repeatAt) := goodIn_app (goodIn_of _ (by decide +kernel)) ggX0_longestRepeatIn_X3_repeatAt
theorem dX0_longestRepeatIn_0 : decode cX0_longestRepeatIn 0 = .ok (.iconst 0, 1) := by decide +kernel
theorem dX0_longestRepeatIn_1 : decode cX0_longestRepeatIn 1 = .ok (.istore_n 2, 1) := by decide +kernel
theorem dX0_longestRepeatIn_2 : decode cX0_longestRepeatIn 2 = .ok (.aload_n 0, 1) := by decide +kernel
theorem dX0_longestRepeatIn_3 : decode cX0_longestRepeatIn 3 = .ok (.getfield 12, 3) := by decide +kernel
theorem dX0_longestRepeatIn_6 : decode cX0_longestRepeatIn 6 = .ok (.iload_n 1, 1) := by decide +kernel
theorem dX0_longestRepeatIn_7 : decode cX0_longestRepeatIn 7 = .ok (.invokevirtual 53, 3) := by decide +kernel
theorem dX0_longestRepeatIn_10 : decode cX0_longestRepeatIn 10 = .ok (.istore_n 3, 1) := by decide +kernel
theorem dX0_longestRepeatIn_11 : decode cX0_longestRepeatIn 11 = .ok (.iload_n 3, 1) := by decide +kernel
theorem dX0_longestRepeatIn_12 : decode cX0_longestRepeatIn 12 = .ok (.aload_n 0, 1) := by decide +kernel
theorem dX0_longestRepeatIn_13 : decode cX0_longestRepeatIn 13 = .ok (.getfield 12, 3) := by decide +kernel
theorem dX0_longestRepeatIn_16 : decode cX0_longestRepeatIn 16 = .ok (.iload_n 1, 1) := by decide +kernel
theorem dX0_longestRepeatIn_17 : decode cX0_longestRepeatIn 17 = .ok (.invokevirtual 57, 3) := by decide +kernel
theorem dX0_longestRepeatIn_20 : decode cX0_longestRepeatIn 20 = .ok (.iadd, 1) := by decide +kernel
theorem dX0_longestRepeatIn_21 : decode cX0_longestRepeatIn 21 = .ok (.istore 4, 2) := by decide +kernel
theorem dX0_longestRepeatIn_23 : decode cX0_longestRepeatIn 23 = .ok (.iload_n 3, 1) := by decide +kernel
theorem dX0_longestRepeatIn_24 : decode cX0_longestRepeatIn 24 = .ok (.istore 5, 2) := by decide +kernel
theorem dX0_longestRepeatIn_26 : decode cX0_longestRepeatIn 26 = .ok (.iload 5, 2) := by decide +kernel
theorem dX0_longestRepeatIn_28 : decode cX0_longestRepeatIn 28 = .ok (.iload 4, 2) := by decide +kernel
theorem dX0_longestRepeatIn_30 : decode cX0_longestRepeatIn 30 = .ok (.if_icmp .ge 31, 3) := by decide +kernel
theorem dX0_longestRepeatIn_33 : decode cX0_longestRepeatIn 33 = .ok (.iload_n 2, 1) := by decide +kernel
theorem dX0_longestRepeatIn_34 : decode cX0_longestRepeatIn 34 = .ok (.aload_n 0, 1) := by decide +kernel
theorem dX0_longestRepeatIn_35 : decode cX0_longestRepeatIn 35 = .ok (.getfield 21, 3) := by decide +kernel
theorem dX0_longestRepeatIn_38 : decode cX0_longestRepeatIn 38 = .ok (.iload 5, 2) := by decide +kernel
theorem dX0_longestRepeatIn_40 : decode cX0_longestRepeatIn 40 = .ok (.invokevirtual 60, 3) := by decide +kernel
theorem dX0_longestRepeatIn_43 : decode cX0_longestRepeatIn 43 = .ok (.iload 4, 2) := by decide +kernel
theorem dX0_longestRepeatIn_45 : decode cX0_longestRepeatIn 45 = .ok (.iload 5, 2) := by decide +kernel
theorem dX0_longestRepeatIn_47 : decode cX0_longestRepeatIn 47 = .ok (.isub, 1) := by decide +kernel
theorem dX0_longestRepeatIn_48 : decode cX0_longestRepeatIn 48 = .ok (.invokestatic 63, 3) := by decide +kernel
theorem dX0_longestRepeatIn_51 : decode cX0_longestRepeatIn 51 = .ok (.invokestatic 69, 3) := by decide +kernel
theorem dX0_longestRepeatIn_54 : decode cX0_longestRepeatIn 54 = .ok (.istore_n 2, 1) := by decide +kernel
theorem dX0_longestRepeatIn_55 : decode cX0_longestRepeatIn 55 = .ok (.iinc 5 1, 3) := by decide +kernel
theorem dX0_longestRepeatIn_58 : decode cX0_longestRepeatIn 58 = .ok (.goto (-32), 3) := by decide +kernel
theorem dX0_longestRepeatIn_61 : decode cX0_longestRepeatIn 61 = .ok (.iload_n 2, 1) := by decide +kernel
theorem dX0_longestRepeatIn_62 : decode cX0_longestRepeatIn 62 = .ok (.ireturn, 1) := by decide +kernel
set_option maxRecDepth 20000 in
theorem ggX0_addVerse_X4_makeRoomFor : GoodIn wsX0_addVerse wsX4_makeRoomFor := goodIn_r _ [10, 11, 12, 13, 14, 15, 9, 16, 17, 18, 19, 20, 21, 22, 95, 96, 97, 98, 99, 100, 101, 102] (by decide +kernel) (by decide +kernel)
set_option maxRecDepth 20000 in
theorem gX0_addVerse_X4_makeRoomFor : GoodIn wsX0_addVerse (wsV RX0 84 RX4 yX4_makeRoomFor wsX4_makeRoomFor) := goodIn_app (goodIn_of _ (by decide +kernel)) ggX0_addVerse_X4_makeRoomFor
set_option maxRecDepth 20000 in
theorem ggX0_addVerse_X4_addVerse : GoodIn wsX0_addVerse wsX4_addVerse := goodIn_r _ [26, 11, 17, 12, 27, 18, 28, 29, 30, 31, 32, 33, 34, 20, 21, 22, 95, 96, 97, 98, 99, 100, 101, 102, 103, 104] (by decide +kernel) (by decide +kernel)
set_option maxRecDepth 20000 in
theorem gX0_addVerse_X4_addVerse : GoodIn wsX0_addVerse (wsV RX0 88 RX4 yX4_addVerse wsX4_addVerse) := goodIn_app (goodIn_of _ (by decide +kernel)) ggX0_addVerse_X4_addVerse
set_option maxRecDepth 20000 in
theorem ggX0_addVerse_X3_arrange : GoodIn wsX0_addVerse wsX3_arrange := goodIn_r _ [39, 40, 41, 42, 43, 44, 45, 46, 47, 48, 49, 50, 51, 52, 53, 54, 55, 56, 38, 57, 95, 96, 97, 98, 99, 100, 101, 102, 105, 106, 107, 108, 109, 110] (by decide +kernel) (by decide +kernel)
set_option maxRecDepth 20000 in
theorem gX0_addVerse_X3_arrange : GoodIn wsX0_addVerse (wsV RX0 43 RX3 yX3_arrange wsX3_arrange) := goodIn_app (goodIn_of _ (by decide +kernel)) ggX0_addVerse_X3_arrange
set_option maxRecDepth 20000 in
theorem ggX0_addVerse_X0_handOver : GoodIn wsX0_addVerse wsX0_handOver := goodIn_r _ [62, 63, 64, 1, 65, 66, 21, 67, 68, 42, 43, 44, 69, 70, 71, 72, 73, 74, 75, 61, 76, 77, 5, 78, 79, 80, 9, 81, 82, 12, 83, 84, 85, 38, 86, 48, 53, 20, 22, 87, 88, 89, 90, 91, 92, 93, 94, 95, 96, 97, 98, 99, 100, 101, 102, 105, 106, 107, 108, 109, 110] (by decide +kernel) (by decide +kernel)
set_option maxRecDepth 20000 in
theorem gX0_addVerse_X0_handOver : GoodIn wsX0_addVerse (wsV RX0 92 RX0 yX0_handOver wsX0_handOver) := goodIn_app (goodIn_of _ (by decide +kernel)) ggX0_addVerse_X0_handOver
theorem dX0_addVerse_0 : decode cX0_addVerse 0 = .ok (.aload_n 0, 1) := by decide +kernel
theorem dX0_addVerse_1 : decode cX0_addVerse 1 = .ok (.getfield 12, 3) := by decide +kernel
theorem dX0_addVerse_4 : decode cX0_addVerse 4 = .ok (.getfield 72, 3) := by decide +kernel
theorem dX0_addVerse_7 : decode cX0_addVerse 7 = .ok (.istore_n 2, 1) := by decide +kernel
theorem dX0_addVerse_8 : decode cX0_addVerse 8 = .ok (.aload_n 0, 1) := by decide +kernel
theorem dX0_addVerse_9 : decode cX0_addVerse 9 = .ok (.getfield 12, 3) := by decide +kernel
theorem dX0_addVerse_12 : decode cX0_addVerse 12 = .ok (.getfield 76, 3) := by decide +kernel
theorem dX0_addVerse_15 : decode cX0_addVerse 15 = .ok (.istore_n 3, 1) := by decide +kernel
theorem dX0_addVerse_16 : decode cX0_addVerse 16 = .ok (.aload_n 0, 1) := by decide +kernel
theorem dX0_addVerse_17 : decode cX0_addVerse 17 = .ok (.getfield 12, 3) := by decide +kernel
theorem dX0_addVerse_20 : decode cX0_addVerse 20 = .ok (.aload_n 1, 1) := by decide +kernel
theorem dX0_addVerse_21 : decode cX0_addVerse 21 = .ok (.getfield 79, 3) := by decide +kernel
theorem dX0_addVerse_24 : decode cX0_addVerse 24 = .ok (.invokevirtual 84, 3) := by decide +kernel
theorem dX0_addVerse_27 : decode cX0_addVerse 27 = .ok (.aload_n 0, 1) := by decide +kernel
theorem dX0_addVerse_28 : decode cX0_addVerse 28 = .ok (.getfield 12, 3) := by decide +kernel
theorem dX0_addVerse_31 : decode cX0_addVerse 31 = .ok (.aload_n 1, 1) := by decide +kernel
theorem dX0_addVerse_32 : decode cX0_addVerse 32 = .ok (.invokevirtual 88, 3) := by decide +kernel
theorem dX0_addVerse_35 : decode cX0_addVerse 35 = .ok (.aload_n 0, 1) := by decide +kernel
theorem dX0_addVerse_36 : decode cX0_addVerse 36 = .ok (.getfield 21, 3) := by decide +kernel
theorem dX0_addVerse_39 : decode cX0_addVerse 39 = .ok (.aload_n 0, 1) := by decide +kernel
theorem dX0_addVerse_40 : decode cX0_addVerse 40 = .ok (.getfield 12, 3) := by decide +kernel
theorem dX0_addVerse_43 : decode cX0_addVerse 43 = .ok (.invokevirtual 43, 3) := by decide +kernel
theorem dX0_addVerse_46 : decode cX0_addVerse 46 = .ok (.aload_n 0, 1) := by decide +kernel
theorem dX0_addVerse_47 : decode cX0_addVerse 47 = .ok (.aload_n 0, 1) := by decide +kernel
theorem dX0_addVerse_48 : decode cX0_addVerse 48 = .ok (.getfield 12, 3) := by decide +kernel
theorem dX0_addVerse_51 : decode cX0_addVerse 51 = .ok (.getfield 76, 3) := by decide +kernel
theorem dX0_addVerse_54 : decode cX0_addVerse 54 = .ok (.iload_n 3, 1) := by decide +kernel
theorem dX0_addVerse_55 : decode cX0_addVerse 55 = .ok (.isub, 1) := by decide +kernel
theorem dX0_addVerse_56 : decode cX0_addVerse 56 = .ok (.iload_n 2, 1) := by decide +kernel
theorem dX0_addVerse_57 : decode cX0_addVerse 57 = .ok (.invokevirtual 92, 3) := by decide +kernel
theorem dX0_addVerse_60 : decode cX0_addVerse 60 = .ok (.ireturn, 1) := by decide +kernel
set_option maxRecDepth 20000 in
theorem ggX0_dropOldest_X4_dropVerse : GoodIn wsX0_dropOldest wsX4_dropVerse := goodIn_r _ [9, 10, 11, 12, 13, 14, 15, 16, 17, 78, 79, 80, 81, 82, 83, 84, 85] (by decide +kernel) (by decide +kernel)
set_option maxRecDepth 20000 in
theorem gX0_dropOldest_X4_dropVerse : GoodIn wsX0_dropOldest (wsV RX0 95 RX4 yX4_dropVerse wsX4_dropVerse) := goodIn_app (goodIn_of _ (by decide +kernel)) ggX0_dropOldest_X4_dropVerse
set_option maxRecDepth 20000 in
theorem ggX0_dropOldest_X3_arrange : GoodIn wsX0_dropOldest wsX3_arrange := goodIn_r _ [22, 23, 24, 25, 26, 27, 28, 29, 30, 31, 32, 33, 34, 35, 36, 37, 38, 39, 21, 40, 78, 79, 80, 81, 82, 83, 84, 85, 86, 87, 88, 89, 90, 91] (by decide +kernel) (by decide +kernel)
set_option maxRecDepth 20000 in
theorem gX0_dropOldest_X3_arrange : GoodIn wsX0_dropOldest (wsV RX0 43 RX3 yX3_arrange wsX3_arrange) := goodIn_app (goodIn_of _ (by decide +kernel)) ggX0_dropOldest_X3_arrange
set_option maxRecDepth 20000 in
theorem ggX0_dropOldest_X0_handOver : GoodIn wsX0_dropOldest wsX0_handOver := goodIn_r _ [45, 46, 47, 1, 48, 49, 16, 50, 51, 25, 26, 27, 52, 53, 54, 55, 56, 57, 58, 44, 59, 60, 4, 61, 62, 63, 8, 64, 65, 11, 66, 67, 68, 21, 69, 31, 36, 15, 17, 70, 71, 72, 73, 74, 75, 76, 77, 78, 79, 80, 81, 82, 83, 84, 85, 86, 87, 88, 89, 90, 91] (by decide +kernel) (by decide +kernel)
set_option maxRecDepth 20000 in
theorem gX0_dropOldest_X0_handOver : GoodIn wsX0_dropOldest (wsV RX0 92 RX0 yX0_handOver wsX0_handOver) := goodIn_app (goodIn_of _ (by decide +kernel)) ggX0_dropOldest_X0_handOver
theorem dX0_dropOldest_0 : decode cX0_dropOldest 0 = .ok (.aload_n 0, 1) := by decide +kernel
theorem dX0_dropOldest_1 : decode cX0_dropOldest 1 = .ok (.getfield 12, 3) := by decide +kernel
theorem dX0_dropOldest_4 : decode cX0_dropOldest 4 = .ok (.getfield 72, 3) := by decide +kernel
theorem dX0_dropOldest_7 : decode cX0_dropOldest 7 = .ok (.istore_n 1, 1) := by decide +kernel
theorem dX0_dropOldest_8 : decode cX0_dropOldest 8 = .ok (.aload_n 0, 1) := by decide +kernel
theorem dX0_dropOldest_9 : decode cX0_dropOldest 9 = .ok (.getfield 12, 3) := by decide +kernel
theorem dX0_dropOldest_12 : decode cX0_dropOldest 12 = .ok (.getfield 76, 3) := by decide +kernel
theorem dX0_dropOldest_15 : decode cX0_dropOldest 15 = .ok (.istore_n 2, 1) := by decide +kernel
theorem dX0_dropOldest_16 : decode cX0_dropOldest 16 = .ok (.aload_n 0, 1) := by decide +kernel
theorem dX0_dropOldest_17 : decode cX0_dropOldest 17 = .ok (.getfield 12, 3) := by decide +kernel
theorem dX0_dropOldest_20 : decode cX0_dropOldest 20 = .ok (.invokevirtual 95, 3) := by decide +kernel
theorem dX0_dropOldest_23 : decode cX0_dropOldest 23 = .ok (.aload_n 0, 1) := by decide +kernel
theorem dX0_dropOldest_24 : decode cX0_dropOldest 24 = .ok (.getfield 21, 3) := by decide +kernel
theorem dX0_dropOldest_27 : decode cX0_dropOldest 27 = .ok (.aload_n 0, 1) := by decide +kernel
theorem dX0_dropOldest_28 : decode cX0_dropOldest 28 = .ok (.getfield 12, 3) := by decide +kernel
theorem dX0_dropOldest_31 : decode cX0_dropOldest 31 = .ok (.invokevirtual 43, 3) := by decide +kernel
theorem dX0_dropOldest_34 : decode cX0_dropOldest 34 = .ok (.aload_n 0, 1) := by decide +kernel
theorem dX0_dropOldest_35 : decode cX0_dropOldest 35 = .ok (.aload_n 0, 1) := by decide +kernel
theorem dX0_dropOldest_36 : decode cX0_dropOldest 36 = .ok (.getfield 12, 3) := by decide +kernel
theorem dX0_dropOldest_39 : decode cX0_dropOldest 39 = .ok (.getfield 76, 3) := by decide +kernel
theorem dX0_dropOldest_42 : decode cX0_dropOldest 42 = .ok (.iload_n 2, 1) := by decide +kernel
theorem dX0_dropOldest_43 : decode cX0_dropOldest 43 = .ok (.isub, 1) := by decide +kernel
theorem dX0_dropOldest_44 : decode cX0_dropOldest 44 = .ok (.iload_n 1, 1) := by decide +kernel
theorem dX0_dropOldest_45 : decode cX0_dropOldest 45 = .ok (.invokevirtual 92, 3) := by decide +kernel
theorem dX0_dropOldest_48 : decode cX0_dropOldest 48 = .ok (.ireturn, 1) := by decide +kernel
set_option maxRecDepth 20000 in
theorem ggX0_changeSingers_X0_handOver : GoodIn wsX0_changeSingers wsX0_handOver := goodIn_r _ [8, 9, 10, 1, 11, 12, 13, 14, 15, 16, 17, 18, 19, 20, 21, 22, 23, 24, 25, 7, 26, 2, 27, 28, 29, 30, 31, 32, 33, 34, 35, 36, 37, 38, 39, 40, 41, 42, 43, 44, 45, 46, 47, 48, 49, 50, 51, 52, 53, 54, 55, 56, 57, 58, 59, 60, 61, 62, 63, 64, 65] (by decide +kernel) (by decide +kernel)
set_option maxRecDepth 20000 in
theorem gX0_changeSingers_X0_handOver : GoodIn wsX0_changeSingers (wsV RX0 92 RX0 yX0_handOver wsX0_handOver) := goodIn_app (goodIn_of _ (by decide +kernel)) ggX0_changeSingers_X0_handOver
theorem dX0_changeSingers_0 : decode cX0_changeSingers 0 = .ok (.aload_n 0, 1) := by decide +kernel
theorem dX0_changeSingers_1 : decode cX0_changeSingers 1 = .ok (.getfield 12, 3) := by decide +kernel
theorem dX0_changeSingers_4 : decode cX0_changeSingers 4 = .ok (.iload_n 1, 1) := by decide +kernel
theorem dX0_changeSingers_5 : decode cX0_changeSingers 5 = .ok (.putfield 98, 3) := by decide +kernel
theorem dX0_changeSingers_8 : decode cX0_changeSingers 8 = .ok (.aload_n 0, 1) := by decide +kernel
theorem dX0_changeSingers_9 : decode cX0_changeSingers 9 = .ok (.iconst 0, 1) := by decide +kernel
theorem dX0_changeSingers_10 : decode cX0_changeSingers 10 = .ok (.aload_n 0, 1) := by decide +kernel
theorem dX0_changeSingers_11 : decode cX0_changeSingers 11 = .ok (.getfield 12, 3) := by decide +kernel
theorem dX0_changeSingers_14 : decode cX0_changeSingers 14 = .ok (.getfield 72, 3) := by decide +kernel
theorem dX0_changeSingers_17 : decode cX0_changeSingers 17 = .ok (.invokevirtual 92, 3) := by decide +kernel
theorem dX0_changeSingers_20 : decode cX0_changeSingers 20 = .ok (.ireturn, 1) := by decide +kernel
set_option maxRecDepth 20000 in
theorem ggX0_handOver_X5_copyRow : GoodIn wsX0_handOver wsX5_copyRow := goodIn_r _ [7, 8, 9, 10, 11, 12, 13, 14, 15] (by decide +kernel) (by decide +kernel)
set_option maxRecDepth 20000 in
theorem gX0_handOver_X5_copyRow_n39 : GoodIn wsX0_handOver (wsX5_copyRow) := ggX0_handOver_X5_copyRow
set_option maxRecDepth 20000 in
theorem ggX0_handOver_X0_shareOut : GoodIn wsX0_handOver wsX0_shareOut := goodIn_r _ [20, 3, 21, 22, 1, 23, 24, 25, 26, 27, 28, 29, 30, 31, 32, 33, 34, 35, 36, 43, 44, 45, 46, 47, 48, 49, 50, 51, 52, 53, 54, 55, 56, 57, 58, 59, 60] (by decide +kernel) (by decide +kernel)
set_option maxRecDepth 20000 in
theorem gX0_handOver_X0_shareOut : GoodIn wsX0_handOver (wsV RX0 46 RX0 yX0_shareOut wsX0_shareOut) := goodIn_app (goodIn_of _ (by decide +kernel)) ggX0_handOver_X0_shareOut
set_option maxRecDepth 20000 in
theorem ggX0_handOver_X5_cellOf : GoodIn wsX0_handOver wsX5_cellOf := goodIn_r _ [38] (by decide +kernel) (by decide +kernel)
set_option maxRecDepth 20000 in
theorem gX0_handOver_X5_cellOf_n49 : GoodIn wsX0_handOver (wsX5_cellOf) := ggX0_handOver_X5_cellOf
set_option maxRecDepth 20000 in
theorem ggX0_handOver_X0_keeperOf : GoodIn wsX0_handOver wsX0_keeperOf := goodIn_r _ [42, 1, 37, 6, 38, 43, 44, 45, 46] (by decide +kernel) (by decide +kernel)
set_option maxRecDepth 20000 in
theorem gX0_handOver_X0_keeperOf : GoodIn wsX0_handOver (wsV RX0 101 RX0 yX0_keeperOf wsX0_keeperOf) := goodIn_app (goodIn_of _ (by decide +kernel)) ggX0_handOver_X0_keeperOf
theorem dX0_handOver_0 : decode cX0_handOver 0 = .ok (.aload_n 0, 1) := by decide +kernel
theorem dX0_handOver_1 : decode cX0_handOver 1 = .ok (.getfield 25, 3) := by decide +kernel
theorem dX0_handOver_4 : decode cX0_handOver 4 = .ok (.aload_n 0, 1) := by decide +kernel
theorem dX0_handOver_5 : decode cX0_handOver 5 = .ok (.getfield 29, 3) := by decide +kernel
theorem dX0_handOver_8 : decode cX0_handOver 8 = .ok (.invokestatic 39, 3) := by decide +kernel
theorem dX0_handOver_11 : decode cX0_handOver 11 = .ok (.aload_n 0, 1) := by decide +kernel
theorem dX0_handOver_12 : decode cX0_handOver 12 = .ok (.invokevirtual 46, 3) := by decide +kernel
theorem dX0_handOver_15 : decode cX0_handOver 15 = .ok (.iconst 0, 1) := by decide +kernel
theorem dX0_handOver_16 : decode cX0_handOver 16 = .ok (.istore_n 3, 1) := by decide +kernel
theorem dX0_handOver_17 : decode cX0_handOver 17 = .ok (.iload_n 1, 1) := by decide +kernel
theorem dX0_handOver_18 : decode cX0_handOver 18 = .ok (.istore 4, 2) := by decide +kernel
theorem dX0_handOver_20 : decode cX0_handOver 20 = .ok (.iload 4, 2) := by decide +kernel
theorem dX0_handOver_22 : decode cX0_handOver 22 = .ok (.iload_n 2, 1) := by decide +kernel
theorem dX0_handOver_23 : decode cX0_handOver 23 = .ok (.if_icmp .ge 32, 3) := by decide +kernel
theorem dX0_handOver_26 : decode cX0_handOver 26 = .ok (.aload_n 0, 1) := by decide +kernel
theorem dX0_handOver_27 : decode cX0_handOver 27 = .ok (.getfield 29, 3) := by decide +kernel
theorem dX0_handOver_30 : decode cX0_handOver 30 = .ok (.iload 4, 2) := by decide +kernel
theorem dX0_handOver_32 : decode cX0_handOver 32 = .ok (.invokestatic 49, 3) := by decide +kernel
theorem dX0_handOver_35 : decode cX0_handOver 35 = .ok (.aload_n 0, 1) := by decide +kernel
theorem dX0_handOver_36 : decode cX0_handOver 36 = .ok (.iload 4, 2) := by decide +kernel
theorem dX0_handOver_38 : decode cX0_handOver 38 = .ok (.iload_n 1, 1) := by decide +kernel
theorem dX0_handOver_39 : decode cX0_handOver 39 = .ok (.isub, 1) := by decide +kernel
theorem dX0_handOver_40 : decode cX0_handOver 40 = .ok (.invokevirtual 101, 3) := by decide +kernel
theorem dX0_handOver_43 : decode cX0_handOver 43 = .ok (.if_icmp .eq 6, 3) := by decide +kernel
theorem dX0_handOver_46 : decode cX0_handOver 46 = .ok (.iinc 3 1, 3) := by decide +kernel
theorem dX0_handOver_49 : decode cX0_handOver 49 = .ok (.iinc 4 1, 3) := by decide +kernel
theorem dX0_handOver_52 : decode cX0_handOver 52 = .ok (.goto (-32), 3) := by decide +kernel
theorem dX0_handOver_55 : decode cX0_handOver 55 = .ok (.aload_n 0, 1) := by decide +kernel
theorem dX0_handOver_56 : decode cX0_handOver 56 = .ok (.getfield 12, 3) := by decide +kernel
theorem dX0_handOver_59 : decode cX0_handOver 59 = .ok (.dup, 1) := by decide +kernel
theorem dX0_handOver_60 : decode cX0_handOver 60 = .ok (.getfield 104, 3) := by decide +kernel
theorem dX0_handOver_63 : decode cX0_handOver 63 = .ok (.iload_n 3, 1) := by decide +kernel
theorem dX0_handOver_64 : decode cX0_handOver 64 = .ok (.iadd, 1) := by decide +kernel
theorem dX0_handOver_65 : decode cX0_handOver 65 = .ok (.putfield 104, 3) := by decide +kernel
theorem dX0_handOver_68 : decode cX0_handOver 68 = .ok (.iload_n 3, 1) := by decide +kernel
theorem dX0_handOver_69 : decode cX0_handOver 69 = .ok (.ireturn, 1) := by decide +kernel
set_option maxRecDepth 20000 in
theorem ggX0_shareOut_X4_lowestRankOf : GoodIn wsX0_shareOut wsX4_lowestRankOf := goodIn_r _ [9, 10, 11, 23, 24, 25, 26, 27, 28, 29, 30] (by decide +kernel) (by decide +kernel)
set_option maxRecDepth 20000 in
theorem gX0_shareOut_X4_lowestRankOf : GoodIn wsX0_shareOut (wsV RX0 107 RX4 yX4_lowestRankOf wsX4_lowestRankOf) := goodIn_app (goodIn_of _ (by decide +kernel)) ggX0_shareOut_X4_lowestRankOf
set_option maxRecDepth 20000 in
theorem ggX0_shareOut_X3_placeAt : GoodIn wsX0_shareOut wsX3_placeAt := goodIn_r _ [16, 17, 18, 31, 32, 33, 34, 35, 36] (by decide +kernel) (by decide +kernel)
set_option maxRecDepth 20000 in
theorem gX0_shareOut_X3_placeAt : GoodIn wsX0_shareOut (wsV RX0 110 RX3 yX3_placeAt wsX3_placeAt) := goodIn_app (goodIn_of _ (by decide +kernel)) ggX0_shareOut_X3_placeAt
theorem dX0_shareOut_0 : decode cX0_shareOut 0 = .ok (.iconst 0, 1) := by decide +kernel
theorem dX0_shareOut_1 : decode cX0_shareOut 1 = .ok (.istore_n 1, 1) := by decide +kernel
theorem dX0_shareOut_2 : decode cX0_shareOut 2 = .ok (.iload_n 1, 1) := by decide +kernel
theorem dX0_shareOut_3 : decode cX0_shareOut 3 = .ok (.aload_n 0, 1) := by decide +kernel
theorem dX0_shareOut_4 : decode cX0_shareOut 4 = .ok (.getfield 12, 3) := by decide +kernel
theorem dX0_shareOut_7 : decode cX0_shareOut 7 = .ok (.getfield 98, 3) := by decide +kernel
theorem dX0_shareOut_10 : decode cX0_shareOut 10 = .ok (.if_icmp .ge 73, 3) := by decide +kernel
theorem dX0_shareOut_13 : decode cX0_shareOut 13 = .ok (.aload_n 0, 1) := by decide +kernel
theorem dX0_shareOut_14 : decode cX0_shareOut 14 = .ok (.getfield 12, 3) := by decide +kernel
theorem dX0_shareOut_17 : decode cX0_shareOut 17 = .ok (.iload_n 1, 1) := by decide +kernel
theorem dX0_shareOut_18 : decode cX0_shareOut 18 = .ok (.iconst 1, 1) := by decide +kernel
theorem dX0_shareOut_19 : decode cX0_shareOut 19 = .ok (.iadd, 1) := by decide +kernel
theorem dX0_shareOut_20 : decode cX0_shareOut 20 = .ok (.invokevirtual 107, 3) := by decide +kernel
theorem dX0_shareOut_23 : decode cX0_shareOut 23 = .ok (.istore_n 2, 1) := by decide +kernel
theorem dX0_shareOut_24 : decode cX0_shareOut 24 = .ok (.aload_n 0, 1) := by decide +kernel
theorem dX0_shareOut_25 : decode cX0_shareOut 25 = .ok (.getfield 12, 3) := by decide +kernel
theorem dX0_shareOut_28 : decode cX0_shareOut 28 = .ok (.iload_n 1, 1) := by decide +kernel
theorem dX0_shareOut_29 : decode cX0_shareOut 29 = .ok (.invokevirtual 107, 3) := by decide +kernel
theorem dX0_shareOut_32 : decode cX0_shareOut 32 = .ok (.istore_n 3, 1) := by decide +kernel
theorem dX0_shareOut_33 : decode cX0_shareOut 33 = .ok (.iload_n 3, 1) := by decide +kernel
theorem dX0_shareOut_34 : decode cX0_shareOut 34 = .ok (.iload_n 2, 1) := by decide +kernel
theorem dX0_shareOut_35 : decode cX0_shareOut 35 = .ok (.if_icmp .ge 42, 3) := by decide +kernel
theorem dX0_shareOut_38 : decode cX0_shareOut 38 = .ok (.aload_n 0, 1) := by decide +kernel
theorem dX0_shareOut_39 : decode cX0_shareOut 39 = .ok (.getfield 21, 3) := by decide +kernel
theorem dX0_shareOut_42 : decode cX0_shareOut 42 = .ok (.iload_n 3, 1) := by decide +kernel
theorem dX0_shareOut_43 : decode cX0_shareOut 43 = .ok (.invokevirtual 110, 3) := by decide +kernel
theorem dX0_shareOut_46 : decode cX0_shareOut 46 = .ok (.istore 4, 2) := by decide +kernel
theorem dX0_shareOut_48 : decode cX0_shareOut 48 = .ok (.iload 4, 2) := by decide +kernel
theorem dX0_shareOut_50 : decode cX0_shareOut 50 = .ok (.ifCond .lt 21, 3) := by decide +kernel
theorem dX0_shareOut_53 : decode cX0_shareOut 53 = .ok (.iload 4, 2) := by decide +kernel
theorem dX0_shareOut_55 : decode cX0_shareOut 55 = .ok (.aload_n 0, 1) := by decide +kernel
theorem dX0_shareOut_56 : decode cX0_shareOut 56 = .ok (.getfield 25, 3) := by decide +kernel
theorem dX0_shareOut_59 : decode cX0_shareOut 59 = .ok (.arraylength, 1) := by decide +kernel
theorem dX0_shareOut_60 : decode cX0_shareOut 60 = .ok (.if_icmp .ge 11, 3) := by decide +kernel
theorem dX0_shareOut_63 : decode cX0_shareOut 63 = .ok (.aload_n 0, 1) := by decide +kernel
theorem dX0_shareOut_64 : decode cX0_shareOut 64 = .ok (.getfield 25, 3) := by decide +kernel
theorem dX0_shareOut_67 : decode cX0_shareOut 67 = .ok (.iload 4, 2) := by decide +kernel
theorem dX0_shareOut_69 : decode cX0_shareOut 69 = .ok (.iload_n 1, 1) := by decide +kernel
theorem dX0_shareOut_70 : decode cX0_shareOut 70 = .ok (.iastore, 1) := by decide +kernel
theorem dX0_shareOut_71 : decode cX0_shareOut 71 = .ok (.iinc 3 1, 3) := by decide +kernel
theorem dX0_shareOut_74 : decode cX0_shareOut 74 = .ok (.goto (-41), 3) := by decide +kernel
theorem dX0_shareOut_77 : decode cX0_shareOut 77 = .ok (.iinc 1 1, 3) := by decide +kernel
theorem dX0_shareOut_80 : decode cX0_shareOut 80 = .ok (.goto (-78), 3) := by decide +kernel
theorem dX0_shareOut_83 : decode cX0_shareOut 83 = .ok (.return_, 1) := by decide +kernel
