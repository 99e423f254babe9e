theorem dX4_init_0 : decode cX4_init 0 = .ok (.aload_n 0, 1) := by decide +kernel
theorem dX4_init_1 : decode cX4_init 1 = .ok (.invokespecial 3, 3) := by decide +kernel
theorem dX4_init_4 : decode cX4_init 4 = .ok (.aload_n 0, 1) := by decide +kernel
theorem dX4_init_5 : decode cX4_init 5 = .ok (.bipush 48, 2) := by decide +kernel
theorem dX4_init_7 : decode cX4_init 7 = .ok (.newarray .int, 2) := by decide +kernel
theorem dX4_init_9 : decode cX4_init 9 = .ok (.putfield 9, 3) := by decide +kernel
theorem dX4_init_12 : decode cX4_init 12 = .ok (.aload_n 0, 1) := by decide +kernel
theorem dX4_init_13 : decode cX4_init 13 = .ok (.bipush 48, 2) := by decide +kernel
theorem dX4_init_15 : decode cX4_init 15 = .ok (.newarray .int, 2) := by decide +kernel
theorem dX4_init_17 : decode cX4_init 17 = .ok (.putfield 15, 3) := by decide +kernel
theorem dX4_init_20 : decode cX4_init 20 = .ok (.aload_n 0, 1) := by decide +kernel
theorem dX4_init_21 : decode cX4_init 21 = .ok (.iconst 0, 1) := by decide +kernel
theorem dX4_init_22 : decode cX4_init 22 = .ok (.putfield 18, 3) := by decide +kernel
theorem dX4_init_25 : decode cX4_init 25 = .ok (.aload_n 0, 1) := by decide +kernel
theorem dX4_init_26 : decode cX4_init 26 = .ok (.iconst 0, 1) := by decide +kernel
theorem dX4_init_27 : decode cX4_init 27 = .ok (.putfield 22, 3) := by decide +kernel
theorem dX4_init_30 : decode cX4_init 30 = .ok (.aload_n 0, 1) := by decide +kernel
theorem dX4_init_31 : decode cX4_init 31 = .ok (.iconst 1, 1) := by decide +kernel
theorem dX4_init_32 : decode cX4_init 32 = .ok (.putfield 25, 3) := by decide +kernel
theorem dX4_init_35 : decode cX4_init 35 = .ok (.aload_n 0, 1) := by decide +kernel
theorem dX4_init_36 : decode cX4_init 36 = .ok (.iconst 0, 1) := by decide +kernel
theorem dX4_init_37 : decode cX4_init 37 = .ok (.putfield 28, 3) := by decide +kernel
theorem dX4_init_40 : decode cX4_init 40 = .ok (.aload_n 0, 1) := by decide +kernel
theorem dX4_init_41 : decode cX4_init 41 = .ok (.iconst 0, 1) := by decide +kernel
theorem dX4_init_42 : decode cX4_init 42 = .ok (.putfield 31, 3) := by decide +kernel
theorem dX4_init_45 : decode cX4_init 45 = .ok (.aload_n 0, 1) := by decide +kernel
theorem dX4_init_46 : decode cX4_init 46 = .ok (.iconst 0, 1) := by decide +kernel
theorem dX4_init_47 : decode cX4_init 47 = .ok (.putfield 34, 3) := by decide +kernel
theorem dX4_init_50 : decode cX4_init 50 = .ok (.return_, 1) := by decide +kernel
set_option maxRecDepth 20000 in
theorem ggX4_copyFrom_X5_copyRow : GoodIn wsX4_copyFrom wsX5_copyRow := goodIn_r _ [11, 12, 13, 14, 15, 16, 17, 18, 19] (by decide +kernel) (by decide +kernel)
set_option maxRecDepth 20000 in
theorem gX4_copyFrom_X5_copyRow_n37 : GoodIn wsX4_copyFrom (wsX5_copyRow) := ggX4_copyFrom_X5_copyRow
theorem dX4_copyFrom_0 : decode cX4_copyFrom 0 = .ok (.aload_n 1, 1) := by decide +kernel
theorem dX4_copyFrom_1 : decode cX4_copyFrom 1 = .ok (.getfield 9, 3) := by decide +kernel
theorem dX4_copyFrom_4 : decode cX4_copyFrom 4 = .ok (.aload_n 0, 1) := by decide +kernel
theorem dX4_copyFrom_5 : decode cX4_copyFrom 5 = .ok (.getfield 9, 3) := by decide +kernel
theorem dX4_copyFrom_8 : decode cX4_copyFrom 8 = .ok (.invokestatic 37, 3) := by decide +kernel
theorem dX4_copyFrom_11 : decode cX4_copyFrom 11 = .ok (.aload_n 1, 1) := by decide +kernel
theorem dX4_copyFrom_12 : decode cX4_copyFrom 12 = .ok (.getfield 15, 3) := by decide +kernel
theorem dX4_copyFrom_15 : decode cX4_copyFrom 15 = .ok (.aload_n 0, 1) := by decide +kernel
theorem dX4_copyFrom_16 : decode cX4_copyFrom 16 = .ok (.getfield 15, 3) := by decide +kernel
theorem dX4_copyFrom_19 : decode cX4_copyFrom 19 = .ok (.invokestatic 37, 3) := by decide +kernel
theorem dX4_copyFrom_22 : decode cX4_copyFrom 22 = .ok (.aload_n 0, 1) := by decide +kernel
theorem dX4_copyFrom_23 : decode cX4_copyFrom 23 = .ok (.aload_n 1, 1) := by decide +kernel
theorem dX4_copyFrom_24 : decode cX4_copyFrom 24 = .ok (.getfield 18, 3) := by decide +kernel
theorem dX4_copyFrom_27 : decode cX4_copyFrom 27 = .ok (.putfield 18, 3) := by decide +kernel
theorem dX4_copyFrom_30 : decode cX4_copyFrom 30 = .ok (.aload_n 0, 1) := by decide +kernel
theorem dX4_copyFrom_31 : decode cX4_copyFrom 31 = .ok (.aload_n 1, 1) := by decide +kernel
theorem dX4_copyFrom_32 : decode cX4_copyFrom 32 = .ok (.getfield 22, 3) := by decide +kernel
theorem dX4_copyFrom_35 : decode cX4_copyFrom 35 = .ok (.putfield 22, 3) := by decide +kernel
theorem dX4_copyFrom_38 : decode cX4_copyFrom 38 = .ok (.aload_n 0, 1) := by decide +kernel
theorem dX4_copyFrom_39 : decode cX4_copyFrom 39 = .ok (.aload_n 1, 1) := by decide +kernel
theorem dX4_copyFrom_40 : decode cX4_copyFrom 40 = .ok (.getfield 25, 3) := by decide +kernel
theorem dX4_copyFrom_43 : decode cX4_copyFrom 43 = .ok (.putfield 25, 3) := by decide +kernel
theorem dX4_copyFrom_46 : decode cX4_copyFrom 46 = .ok (.aload_n 0, 1) := by decide +kernel
theorem dX4_copyFrom_47 : decode cX4_copyFrom 47 = .ok (.aload_n 1, 1) := by decide +kernel
theorem dX4_copyFrom_48 : decode cX4_copyFrom 48 = .ok (.getfield 28, 3) := by decide +kernel
theorem dX4_copyFrom_51 : decode cX4_copyFrom 51 = .ok (.putfield 28, 3) := by decide +kernel
theorem dX4_copyFrom_54 : decode cX4_copyFrom 54 = .ok (.aload_n 0, 1) := by decide +kernel
theorem dX4_copyFrom_55 : decode cX4_copyFrom 55 = .ok (.aload_n 1, 1) := by decide +kernel
theorem dX4_copyFrom_56 : decode cX4_copyFrom 56 = .ok (.getfield 31, 3) := by decide +kernel
theorem dX4_copyFrom_59 : decode cX4_copyFrom 59 = .ok (.putfield 31, 3) := by decide +kernel
theorem dX4_copyFrom_62 : decode cX4_copyFrom 62 = .ok (.aload_n 0, 1) := by decide +kernel
theorem dX4_copyFrom_63 : decode cX4_copyFrom 63 = .ok (.aload_n 1, 1) := by decide +kernel
theorem dX4_copyFrom_64 : decode cX4_copyFrom 64 = .ok (.getfield 34, 3) := by decide +kernel
theorem dX4_copyFrom_67 : decode cX4_copyFrom 67 = .ok (.putfield 34, 3) := by decide +kernel
theorem dX4_copyFrom_70 : decode cX4_copyFrom 70 = .ok (.return_, 1) := by decide +kernel
set_option maxRecDepth 20000 in
theorem ggX4_codeAt_X5_cellOf : GoodIn wsX4_codeAt wsX5_cellOf := goodIn_r _ [4] (by decide +kernel) (by decide +kernel)
set_option maxRecDepth 20000 in
theorem gX4_codeAt_X5_cellOf_n41 : GoodIn wsX4_codeAt (wsX5_cellOf) := ggX4_codeAt_X5_cellOf
theorem dX4_codeAt_0 : decode cX4_codeAt 0 = .ok (.aload_n 0, 1) := by decide +kernel
theorem dX4_codeAt_1 : decode cX4_codeAt 1 = .ok (.getfield 9, 3) := by decide +kernel
theorem dX4_codeAt_4 : decode cX4_codeAt 4 = .ok (.iload_n 1, 1) := by decide +kernel
theorem dX4_codeAt_5 : decode cX4_codeAt 5 = .ok (.invokestatic 41, 3) := by decide +kernel
theorem dX4_codeAt_8 : decode cX4_codeAt 8 = .ok (.ireturn, 1) := by decide +kernel
theorem dX4_hasVerse_0 : decode cX4_hasVerse 0 = .ok (.iload_n 1, 1) := by decide +kernel
theorem dX4_hasVerse_1 : decode cX4_hasVerse 1 = .ok (.ifCond .lt 15, 3) := by decide +kernel
theorem dX4_hasVerse_4 : decode cX4_hasVerse 4 = .ok (.iload_n 1, 1) := by decide +kernel
theorem dX4_hasVerse_5 : decode cX4_hasVerse 5 = .ok (.aload_n 0, 1) := by decide +kernel
theorem dX4_hasVerse_6 : decode cX4_hasVerse 6 = .ok (.getfield 22, 3) := by decide +kernel
theorem dX4_hasVerse_9 : decode cX4_hasVerse 9 = .ok (.if_icmp .ge 7, 3) := by decide +kernel
theorem dX4_hasVerse_12 : decode cX4_hasVerse 12 = .ok (.iconst 1, 1) := by decide +kernel
theorem dX4_hasVerse_13 : decode cX4_hasVerse 13 = .ok (.goto 4, 3) := by decide +kernel
theorem dX4_hasVerse_16 : decode cX4_hasVerse 16 = .ok (.iconst 0, 1) := by decide +kernel
theorem dX4_hasVerse_17 : decode cX4_hasVerse 17 = .ok (.ireturn, 1) := by decide +kernel
set_option maxRecDepth 20000 in
theorem ggX4_lengthOf_X4_hasVerse : GoodIn wsX4_lengthOf wsX4_hasVerse := goodIn_r _ [6, 7, 11, 12, 13, 14, 15, 16, 17, 18] (by decide +kernel) (by decide +kernel)
set_option maxRecDepth 20000 in
theorem gX4_lengthOf_X4_hasVerse : GoodIn wsX4_lengthOf (wsV RX4 45 RX4 yX4_hasVerse wsX4_hasVerse) := goodIn_app (goodIn_of _ (by decide +kernel)) ggX4_lengthOf_X4_hasVerse
set_option maxRecDepth 20000 in
theorem ggX4_lengthOf_X5_cellOf : GoodIn wsX4_lengthOf wsX5_cellOf := goodIn_r _ [10] (by decide +kernel) (by decide +kernel)
set_option maxRecDepth 20000 in
theorem gX4_lengthOf_X5_cellOf_n41 : GoodIn wsX4_lengthOf (wsX5_cellOf) := ggX4_lengthOf_X5_cellOf
theorem dX4_lengthOf_0 : decode cX4_lengthOf 0 = .ok (.aload_n 0, 1) := by decide +kernel
theorem dX4_lengthOf_1 : decode cX4_lengthOf 1 = .ok (.iload_n 1, 1) := by decide +kernel
theorem dX4_lengthOf_2 : decode cX4_lengthOf 2 = .ok (.invokevirtual 45, 3) := by decide +kernel
theorem dX4_lengthOf_5 : decode cX4_lengthOf 5 = .ok (.ifCond .eq 14, 3) := by decide +kernel
theorem dX4_lengthOf_8 : decode cX4_lengthOf 8 = .ok (.aload_n 0, 1) := by decide +kernel
theorem dX4_lengthOf_9 : decode cX4_lengthOf 9 = .ok (.getfield 15, 3) := by decide +kernel
theorem dX4_lengthOf_12 : decode cX4_lengthOf 12 = .ok (.iload_n 1, 1) := by decide +kernel
theorem dX4_lengthOf_13 : decode cX4_lengthOf 13 = .ok (.invokestatic 41, 3) := by decide +kernel
theorem dX4_lengthOf_16 : decode cX4_lengthOf 16 = .ok (.goto 4, 3) := by decide +kernel
theorem dX4_lengthOf_19 : decode cX4_lengthOf 19 = .ok (.iconst 0, 1) := by decide +kernel
theorem dX4_lengthOf_20 : decode cX4_lengthOf 20 = .ok (.ireturn, 1) := by decide +kernel
set_option maxRecDepth 20000 in
theorem ggX4_startOf_X5_cellOf : GoodIn wsX4_startOf wsX5_cellOf := goodIn_r _ [5] (by decide +kernel) (by decide +kernel)
set_option maxRecDepth 20000 in
theorem gX4_startOf_X5_cellOf_n41 : GoodIn wsX4_startOf (wsX5_cellOf) := ggX4_startOf_X5_cellOf
theorem dX4_startOf_0 : decode cX4_startOf 0 = .ok (.iconst 0, 1) := by decide +kernel
theorem dX4_startOf_1 : decode cX4_startOf 1 = .ok (.istore_n 2, 1) := by decide +kernel
theorem dX4_startOf_2 : decode cX4_startOf 2 = .ok (.iconst 0, 1) := by decide +kernel
theorem dX4_startOf_3 : decode cX4_startOf 3 = .ok (.istore_n 3, 1) := by decide +kernel
theorem dX4_startOf_4 : decode cX4_startOf 4 = .ok (.iload_n 3, 1) := by decide +kernel
theorem dX4_startOf_5 : decode cX4_startOf 5 = .ok (.iload_n 1, 1) := by decide +kernel
theorem dX4_startOf_6 : decode cX4_startOf 6 = .ok (.if_icmp .ge 28, 3) := by decide +kernel
theorem dX4_startOf_9 : decode cX4_startOf 9 = .ok (.iload_n 3, 1) := by decide +kernel
theorem dX4_startOf_10 : decode cX4_startOf 10 = .ok (.aload_n 0, 1) := by decide +kernel
theorem dX4_startOf_11 : decode cX4_startOf 11 = .ok (.getfield 22, 3) := by decide +kernel
theorem dX4_startOf_14 : decode cX4_startOf 14 = .ok (.if_icmp .ge 20, 3) := by decide +kernel
theorem dX4_startOf_17 : decode cX4_startOf 17 = .ok (.iload_n 2, 1) := by decide +kernel
theorem dX4_startOf_18 : decode cX4_startOf 18 = .ok (.aload_n 0, 1) := by decide +kernel
theorem dX4_startOf_19 : decode cX4_startOf 19 = .ok (.getfield 15, 3) := by decide +kernel
theorem dX4_startOf_22 : decode cX4_startOf 22 = .ok (.iload_n 3, 1) := by decide +kernel
theorem dX4_startOf_23 : decode cX4_startOf 23 = .ok (.invokestatic 41, 3) := by decide +kernel
theorem dX4_startOf_26 : decode cX4_startOf 26 = .ok (.iadd, 1) := by decide +kernel
theorem dX4_startOf_27 : decode cX4_startOf 27 = .ok (.istore_n 2, 1) := by decide +kernel
theorem dX4_startOf_28 : decode cX4_startOf 28 = .ok (.iinc 3 1, 3) := by decide +kernel
theorem dX4_startOf_31 : decode cX4_startOf 31 = .ok (.goto (-27), 3) := by decide +kernel
theorem dX4_startOf_34 : decode cX4_startOf 34 = .ok (.iload_n 2, 1) := by decide +kernel
theorem dX4_startOf_35 : decode cX4_startOf 35 = .ok (.ireturn, 1) := by decide +kernel
set_option maxRecDepth 20000 in
theorem ggX4_verseAt_X5_cellOf : GoodIn wsX4_verseAt wsX5_cellOf := goodIn_r _ [5] (by decide +kernel) (by decide +kernel)
set_option maxRecDepth 20000 in
theorem gX4_verseAt_X5_cellOf_n41 : GoodIn wsX4_verseAt (wsX5_cellOf) := ggX4_verseAt_X5_cellOf
theorem dX4_verseAt_0 : decode cX4_verseAt 0 = .ok (.iconst 0, 1) := by decide +kernel
theorem dX4_verseAt_1 : decode cX4_verseAt 1 = .ok (.istore_n 2, 1) := by decide +kernel
theorem dX4_verseAt_2 : decode cX4_verseAt 2 = .ok (.iconst 0, 1) := by decide +kernel
theorem dX4_verseAt_3 : decode cX4_verseAt 3 = .ok (.istore_n 3, 1) := by decide +kernel
theorem dX4_verseAt_4 : decode cX4_verseAt 4 = .ok (.iload_n 3, 1) := by decide +kernel
theorem dX4_verseAt_5 : decode cX4_verseAt 5 = .ok (.aload_n 0, 1) := by decide +kernel
theorem dX4_verseAt_6 : decode cX4_verseAt 6 = .ok (.getfield 22, 3) := by decide +kernel
theorem dX4_verseAt_9 : decode cX4_verseAt 9 = .ok (.if_icmp .ge 27, 3) := by decide +kernel
theorem dX4_verseAt_12 : decode cX4_verseAt 12 = .ok (.iload_n 2, 1) := by decide +kernel
theorem dX4_verseAt_13 : decode cX4_verseAt 13 = .ok (.aload_n 0, 1) := by decide +kernel
theorem dX4_verseAt_14 : decode cX4_verseAt 14 = .ok (.getfield 15, 3) := by decide +kernel
theorem dX4_verseAt_17 : decode cX4_verseAt 17 = .ok (.iload_n 3, 1) := by decide +kernel
theorem dX4_verseAt_18 : decode cX4_verseAt 18 = .ok (.invokestatic 41, 3) := by decide +kernel
theorem dX4_verseAt_21 : decode cX4_verseAt 21 = .ok (.iadd, 1) := by decide +kernel
theorem dX4_verseAt_22 : decode cX4_verseAt 22 = .ok (.istore_n 2, 1) := by decide +kernel
theorem dX4_verseAt_23 : decode cX4_verseAt 23 = .ok (.iload_n 1, 1) := by decide +kernel
theorem dX4_verseAt_24 : decode cX4_verseAt 24 = .ok (.iload_n 2, 1) := by decide +kernel
theorem dX4_verseAt_25 : decode cX4_verseAt 25 = .ok (.if_icmp .ge 5, 3) := by decide +kernel
theorem dX4_verseAt_28 : decode cX4_verseAt 28 = .ok (.iload_n 3, 1) := by decide +kernel
theorem dX4_verseAt_29 : decode cX4_verseAt 29 = .ok (.ireturn, 1) := by decide +kernel
theorem dX4_verseAt_30 : decode cX4_verseAt 30 = .ok (.iinc 3 1, 3) := by decide +kernel
theorem dX4_verseAt_33 : decode cX4_verseAt 33 = .ok (.goto (-29), 3) := by decide +kernel
theorem dX4_verseAt_36 : decode cX4_verseAt 36 = .ok (.iconst (-1), 1) := by decide +kernel
theorem dX4_verseAt_37 : decode cX4_verseAt 37 = .ok (.ireturn, 1) := by decide +kernel
theorem dX4_lowestRankOf_0 : decode cX4_lowestRankOf 0 = .ok (.aload_n 0, 1) := by decide +kernel
theorem dX4_lowestRankOf_1 : decode cX4_lowestRankOf 1 = .ok (.getfield 25, 3) := by decide +kernel
theorem dX4_lowestRankOf_4 : decode cX4_lowestRankOf 4 = .ok (.iconst 1, 1) := by decide +kernel
theorem dX4_lowestRankOf_5 : decode cX4_lowestRankOf 5 = .ok (.if_icmp .ge 7, 3) := by decide +kernel
theorem dX4_lowestRankOf_8 : decode cX4_lowestRankOf 8 = .ok (.iconst 0, 1) := by decide +kernel
theorem dX4_lowestRankOf_9 : decode cX4_lowestRankOf 9 = .ok (.goto 14, 3) := by decide +kernel
theorem dX4_lowestRankOf_12 : decode cX4_lowestRankOf 12 = .ok (.iload_n 1, 1) := by decide +kernel
theorem dX4_lowestRankOf_13 : decode cX4_lowestRankOf 13 = .ok (.aload_n 0, 1) := by decide +kernel
theorem dX4_lowestRankOf_14 : decode cX4_lowestRankOf 14 = .ok (.getfield 18, 3) := by decide +kernel
theorem dX4_lowestRankOf_17 : decode cX4_lowestRankOf 17 = .ok (.imul, 1) := by decide +kernel
theorem dX4_lowestRankOf_18 : decode cX4_lowestRankOf 18 = .ok (.aload_n 0, 1) := by decide +kernel
theorem dX4_lowestRankOf_19 : decode cX4_lowestRankOf 19 = .ok (.getfield 25, 3) := by decide +kernel
theorem dX4_lowestRankOf_22 : decode cX4_lowestRankOf 22 = .ok (.idiv, 1) := by decide +kernel
theorem dX4_lowestRankOf_23 : decode cX4_lowestRankOf 23 = .ok (.ireturn, 1) := by decide +kernel
set_option maxRecDepth 20000 in
theorem ggX4_longestInBoth_X4_lengthOf : GoodIn wsX4_longestInBoth wsX4_lengthOf := goodIn_r _ [12, 13, 14, 15, 16, 11, 17, 18, 19, 20, 21, 35, 36, 37, 38, 39, 40, 41, 42] (by decide +kernel) (by decide +kernel)
set_option maxRecDepth 20000 in
theorem gX4_longestInBoth_X4_lengthOf : GoodIn wsX4_longestInBoth (wsV RX4 49 RX4 yX4_lengthOf wsX4_lengthOf) := goodIn_app (goodIn_of _ (by decide +kernel)) ggX4_longestInBoth_X4_lengthOf
set_option maxRecDepth 20000 in
theorem ggX4_longestInBoth_X4_startOf : GoodIn wsX4_longestInBoth wsX4_startOf := goodIn_r _ [25, 18, 13, 19, 20, 21, 35, 36, 37, 38, 39, 40, 41, 42] (by decide +kernel) (by decide +kernel)
set_option maxRecDepth 20000 in
theorem gX4_longestInBoth_X4_startOf : GoodIn wsX4_longestInBoth (wsV RX4 59 RX4 yX4_startOf wsX4_startOf) := goodIn_app (goodIn_of _ (by decide +kernel)) ggX4_longestInBoth_X4_startOf
set_option maxRecDepth 20000 in
theorem ggX4_longestInBoth_X4_sharedFrom : GoodIn wsX4_longestInBoth wsX4_sharedFrom := goodIn_r _ [29, 30, 31, 32, 11, 33, 34, 19, 20, 21, 35, 36, 37, 38, 39, 40, 41, 42] (by decide +kernel) (by decide +kernel)
set_option maxRecDepth 20000 in
theorem gX4_longestInBoth_X4_sharedFrom : GoodIn wsX4_longestInBoth (wsV RX4 62 RX4 yX4_sharedFrom wsX4_sharedFrom) := goodIn_app (goodIn_of _ (by decide +kernel)) ggX4_longestInBoth_X4_sharedFrom
theorem dX4_longestInBoth_0 : decode cX4_longestInBoth 0 = .ok (.iconst 0, 1) := by decide +kernel
theorem dX4_longestInBoth_1 : decode cX4_longestInBoth 1 = .ok (.istore_n 3, 1) := by decide +kernel
theorem dX4_longestInBoth_2 : decode cX4_longestInBoth 2 = .ok (.aload_n 0, 1) := by decide +kernel
theorem dX4_longestInBoth_3 : decode cX4_longestInBoth 3 = .ok (.iload_n 1, 1) := by decide +kernel
theorem dX4_longestInBoth_4 : decode cX4_longestInBoth 4 = .ok (.invokevirtual 49, 3) := by decide +kernel
theorem dX4_longestInBoth_7 : decode cX4_longestInBoth 7 = .ok (.istore 4, 2) := by decide +kernel
theorem dX4_longestInBoth_9 : decode cX4_longestInBoth 9 = .ok (.aload_n 0, 1) := by decide +kernel
theorem dX4_longestInBoth_10 : decode cX4_longestInBoth 10 = .ok (.iload_n 2, 1) := by decide +kernel
theorem dX4_longestInBoth_11 : decode cX4_longestInBoth 11 = .ok (.invokevirtual 49, 3) := by decide +kernel
theorem dX4_longestInBoth_14 : decode cX4_longestInBoth 14 = .ok (.istore 5, 2) := by decide +kernel
theorem dX4_longestInBoth_16 : decode cX4_longestInBoth 16 = .ok (.iconst 0, 1) := by decide +kernel
theorem dX4_longestInBoth_17 : decode cX4_longestInBoth 17 = .ok (.istore 6, 2) := by decide +kernel
theorem dX4_longestInBoth_19 : decode cX4_longestInBoth 19 = .ok (.iload 6, 2) := by decide +kernel
theorem dX4_longestInBoth_21 : decode cX4_longestInBoth 21 = .ok (.iload 4, 2) := by decide +kernel
theorem dX4_longestInBoth_23 : decode cX4_longestInBoth 23 = .ok (.if_icmp .ge 67, 3) := by decide +kernel
theorem dX4_longestInBoth_26 : decode cX4_longestInBoth 26 = .ok (.iconst 0, 1) := by decide +kernel
theorem dX4_longestInBoth_27 : decode cX4_longestInBoth 27 = .ok (.istore 7, 2) := by decide +kernel
theorem dX4_longestInBoth_29 : decode cX4_longestInBoth 29 = .ok (.iload 7, 2) := by decide +kernel
theorem dX4_longestInBoth_31 : decode cX4_longestInBoth 31 = .ok (.iload 5, 2) := by decide +kernel
theorem dX4_longestInBoth_33 : decode cX4_longestInBoth 33 = .ok (.if_icmp .ge 51, 3) := by decide +kernel
theorem dX4_longestInBoth_36 : decode cX4_longestInBoth 36 = .ok (.iload 4, 2) := by decide +kernel
theorem dX4_longestInBoth_38 : decode cX4_longestInBoth 38 = .ok (.iload 6, 2) := by decide +kernel
theorem dX4_longestInBoth_40 : decode cX4_longestInBoth 40 = .ok (.isub, 1) := by decide +kernel
theorem dX4_longestInBoth_41 : decode cX4_longestInBoth 41 = .ok (.iload 5, 2) := by decide +kernel
theorem dX4_longestInBoth_43 : decode cX4_longestInBoth 43 = .ok (.iload 7, 2) := by decide +kernel
theorem dX4_longestInBoth_45 : decode cX4_longestInBoth 45 = .ok (.isub, 1) := by decide +kernel
theorem dX4_longestInBoth_46 : decode cX4_longestInBoth 46 = .ok (.invokestatic 53, 3) := by decide +kernel
theorem dX4_longestInBoth_49 : decode cX4_longestInBoth 49 = .ok (.istore 8, 2) := by decide +kernel
theorem dX4_longestInBoth_51 : decode cX4_longestInBoth 51 = .ok (.iload_n 3, 1) := by decide +kernel
theorem dX4_longestInBoth_52 : decode cX4_longestInBoth 52 = .ok (.aload_n 0, 1) := by decide +kernel
theorem dX4_longestInBoth_53 : decode cX4_longestInBoth 53 = .ok (.aload_n 0, 1) := by decide +kernel
theorem dX4_longestInBoth_54 : decode cX4_longestInBoth 54 = .ok (.iload_n 1, 1) := by decide +kernel
theorem dX4_longestInBoth_55 : decode cX4_longestInBoth 55 = .ok (.invokevirtual 59, 3) := by decide +kernel
theorem dX4_longestInBoth_58 : decode cX4_longestInBoth 58 = .ok (.iload 6, 2) := by decide +kernel
theorem dX4_longestInBoth_60 : decode cX4_longestInBoth 60 = .ok (.iadd, 1) := by decide +kernel
theorem dX4_longestInBoth_61 : decode cX4_longestInBoth 61 = .ok (.aload_n 0, 1) := by decide +kernel
theorem dX4_longestInBoth_62 : decode cX4_longestInBoth 62 = .ok (.iload_n 2, 1) := by decide +kernel
theorem dX4_longestInBoth_63 : decode cX4_longestInBoth 63 = .ok (.invokevirtual 59, 3) := by decide +kernel
theorem dX4_longestInBoth_66 : decode cX4_longestInBoth 66 = .ok (.iload 7, 2) := by decide +kernel
theorem dX4_longestInBoth_68 : decode cX4_longestInBoth 68 = .ok (.iadd, 1) := by decide +kernel
theorem dX4_longestInBoth_69 : decode cX4_longestInBoth 69 = .ok (.iload 8, 2) := by decide +kernel
theorem dX4_longestInBoth_71 : decode cX4_longestInBoth 71 = .ok (.invokevirtual 62, 3) := by decide +kernel
theorem dX4_longestInBoth_74 : decode cX4_longestInBoth 74 = .ok (.invokestatic 66, 3) := by decide +kernel
theorem dX4_longestInBoth_77 : decode cX4_longestInBoth 77 = .ok (.istore_n 3, 1) := by decide +kernel
theorem dX4_longestInBoth_78 : decode cX4_longestInBoth 78 = .ok (.iinc 7 1, 3) := by decide +kernel
theorem dX4_longestInBoth_81 : decode cX4_longestInBoth 81 = .ok (.goto (-52), 3) := by decide +kernel
theorem dX4_longestInBoth_84 : decode cX4_longestInBoth 84 = .ok (.iinc 6 1, 3) := by decide +kernel
theorem dX4_longestInBoth_87 : decode cX4_longestInBoth 87 = .ok (.goto (-68), 3) := by decide +kernel
theorem dX4_longestInBoth_90 : decode cX4_longestInBoth 90 = .ok (.iload_n 3, 1) := by decide +kernel
theorem dX4_longestInBoth_91 : decode cX4_longestInBoth 91 = .ok (.ireturn, 1) := by decide +kernel
set_option maxRecDepth 20000 in
theorem ggX4_sharedFrom_X4_codeAt : GoodIn wsX4_sharedFrom wsX4_codeAt := goodIn_r _ [5, 6, 7, 8, 9, 10, 11, 12, 13, 14, 15, 16, 17] (by decide +kernel) (by decide +kernel)
set_option maxRecDepth 20000 in
theorem gX4_sharedFrom_X4_codeAt : GoodIn wsX4_sharedFrom (wsV RX4 69 RX4 yX4_codeAt wsX4_codeAt) := goodIn_app (goodIn_of _ (by decide +kernel)) ggX4_sharedFrom_X4_codeAt
theorem dX4_sharedFrom_0 : decode cX4_sharedFrom 0 = .ok (.iconst 0, 1) := by decide +kernel
theorem dX4_sharedFrom_1 : decode cX4_sharedFrom 1 = .ok (.istore 4, 2) := by decide +kernel
theorem dX4_sharedFrom_3 : decode cX4_sharedFrom 3 = .ok (.iload 4, 2) := by decide +kernel
theorem dX4_sharedFrom_5 : decode cX4_sharedFrom 5 = .ok (.iload_n 3, 1) := by decide +kernel
theorem dX4_sharedFrom_6 : decode cX4_sharedFrom 6 = .ok (.if_icmp .ge 28, 3) := by decide +kernel
theorem dX4_sharedFrom_9 : decode cX4_sharedFrom 9 = .ok (.aload_n 0, 1) := by decide +kernel
theorem dX4_sharedFrom_10 : decode cX4_sharedFrom 10 = .ok (.iload_n 1, 1) := by decide +kernel
theorem dX4_sharedFrom_11 : decode cX4_sharedFrom 11 = .ok (.iload 4, 2) := by decide +kernel
theorem dX4_sharedFrom_13 : decode cX4_sharedFrom 13 = .ok (.iadd, 1) := by decide +kernel
theorem dX4_sharedFrom_14 : decode cX4_sharedFrom 14 = .ok (.invokevirtual 69, 3) := by decide +kernel
theorem dX4_sharedFrom_17 : decode cX4_sharedFrom 17 = .ok (.aload_n 0, 1) := by decide +kernel
theorem dX4_sharedFrom_18 : decode cX4_sharedFrom 18 = .ok (.iload_n 2, 1) := by decide +kernel
theorem dX4_sharedFrom_19 : decode cX4_sharedFrom 19 = .ok (.iload 4, 2) := by decide +kernel
theorem dX4_sharedFrom_21 : decode cX4_sharedFrom 21 = .ok (.iadd, 1) := by decide +kernel
theorem dX4_sharedFrom_22 : decode cX4_sharedFrom 22 = .ok (.invokevirtual 69, 3) := by decide +kernel
theorem dX4_sharedFrom_25 : decode cX4_sharedFrom 25 = .ok (.if_icmp .ne 9, 3) := by decide +kernel
theorem dX4_sharedFrom_28 : decode cX4_sharedFrom 28 = .ok (.iinc 4 1, 3) := by decide +kernel
theorem dX4_sharedFrom_31 : decode cX4_sharedFrom 31 = .ok (.goto (-28), 3) := by decide +kernel
theorem dX4_sharedFrom_34 : decode cX4_sharedFrom 34 = .ok (.iload 4, 2) := by decide +kernel
theorem dX4_sharedFrom_36 : decode cX4_sharedFrom 36 = .ok (.ireturn, 1) := by decide +kernel
set_option maxRecDepth 20000 in
theorem ggX4_dropVerse_X5_cellOf : GoodIn wsX4_dropVerse wsX5_cellOf := goodIn_r _ [8] (by decide +kernel) (by decide +kernel)
set_option maxRecDepth 20000 in
theorem gX4_dropVerse_X5_cellOf_n41 : GoodIn wsX4_dropVerse (wsX5_cellOf) := ggX4_dropVerse_X5_cellOf
theorem dX4_dropVerse_0 : decode cX4_dropVerse 0 = .ok (.aload_n 0, 1) := by decide +kernel
theorem dX4_dropVerse_1 : decode cX4_dropVerse 1 = .ok (.getfield 15, 3) := by decide +kernel
theorem dX4_dropVerse_4 : decode cX4_dropVerse 4 = .ok (.iconst 0, 1) := by decide +kernel
theorem dX4_dropVerse_5 : decode cX4_dropVerse 5 = .ok (.invokestatic 41, 3) := by decide +kernel
theorem dX4_dropVerse_8 : decode cX4_dropVerse 8 = .ok (.istore_n 1, 1) := by decide +kernel
theorem dX4_dropVerse_9 : decode cX4_dropVerse 9 = .ok (.iconst 0, 1) := by decide +kernel
theorem dX4_dropVerse_10 : decode cX4_dropVerse 10 = .ok (.istore_n 2, 1) := by decide +kernel
theorem dX4_dropVerse_11 : decode cX4_dropVerse 11 = .ok (.iload_n 2, 1) := by decide +kernel
theorem dX4_dropVerse_12 : decode cX4_dropVerse 12 = .ok (.aload_n 0, 1) := by decide +kernel
theorem dX4_dropVerse_13 : decode cX4_dropVerse 13 = .ok (.getfield 18, 3) := by decide +kernel
theorem dX4_dropVerse_16 : decode cX4_dropVerse 16 = .ok (.iload_n 1, 1) := by decide +kernel
theorem dX4_dropVerse_17 : decode cX4_dropVerse 17 = .ok (.isub, 1) := by decide +kernel
theorem dX4_dropVerse_18 : decode cX4_dropVerse 18 = .ok (.if_icmp .ge 34, 3) := by decide +kernel
theorem dX4_dropVerse_21 : decode cX4_dropVerse 21 = .ok (.iload_n 2, 1) := by decide +kernel
theorem dX4_dropVerse_22 : decode cX4_dropVerse 22 = .ok (.aload_n 0, 1) := by decide +kernel
theorem dX4_dropVerse_23 : decode cX4_dropVerse 23 = .ok (.getfield 9, 3) := by decide +kernel
theorem dX4_dropVerse_26 : decode cX4_dropVerse 26 = .ok (.arraylength, 1) := by decide +kernel
theorem dX4_dropVerse_27 : decode cX4_dropVerse 27 = .ok (.if_icmp .ge 25, 3) := by decide +kernel
theorem dX4_dropVerse_30 : decode cX4_dropVerse 30 = .ok (.aload_n 0, 1) := by decide +kernel
theorem dX4_dropVerse_31 : decode cX4_dropVerse 31 = .ok (.getfield 9, 3) := by decide +kernel
theorem dX4_dropVerse_34 : decode cX4_dropVerse 34 = .ok (.iload_n 2, 1) := by decide +kernel
theorem dX4_dropVerse_35 : decode cX4_dropVerse 35 = .ok (.aload_n 0, 1) := by decide +kernel
theorem dX4_dropVerse_36 : decode cX4_dropVerse 36 = .ok (.getfield 9, 3) := by decide +kernel
theorem dX4_dropVerse_39 : decode cX4_dropVerse 39 = .ok (.iload_n 2, 1) := by decide +kernel
theorem dX4_dropVerse_40 : decode cX4_dropVerse 40 = .ok (.iload_n 1, 1) := by decide +kernel
theorem dX4_dropVerse_41 : decode cX4_dropVerse 41 = .ok (.iadd, 1) := by decide +kernel
theorem dX4_dropVerse_42 : decode cX4_dropVerse 42 = .ok (.invokestatic 41, 3) := by decide +kernel
theorem dX4_dropVerse_45 : decode cX4_dropVerse 45 = .ok (.iastore, 1) := by decide +kernel
theorem dX4_dropVerse_46 : decode cX4_dropVerse 46 = .ok (.iinc 2 1, 3) := by decide +kernel
theorem dX4_dropVerse_49 : decode cX4_dropVerse 49 = .ok (.goto (-38), 3) := by decide +kernel
theorem dX4_dropVerse_52 : decode cX4_dropVerse 52 = .ok (.iconst 0, 1) := by decide +kernel
theorem dX4_dropVerse_53 : decode cX4_dropVerse 53 = .ok (.istore_n 2, 1) := by decide +kernel
theorem dX4_dropVerse_54 : decode cX4_dropVerse 54 = .ok (.iload_n 2, 1) := by decide +kernel
theorem dX4_dropVerse_55 : decode cX4_dropVerse 55 = .ok (.aload_n 0, 1) := by decide +kernel
theorem dX4_dropVerse_56 : decode cX4_dropVerse 56 = .ok (.getfield 22, 3) := by decide +kernel
theorem dX4_dropVerse_59 : decode cX4_dropVerse 59 = .ok (.iconst 1, 1) := by decide +kernel
theorem dX4_dropVerse_60 : decode cX4_dropVerse 60 = .ok (.isub, 1) := by decide +kernel
theorem dX4_dropVerse_61 : decode cX4_dropVerse 61 = .ok (.if_icmp .ge 34, 3) := by decide +kernel
theorem dX4_dropVerse_64 : decode cX4_dropVerse 64 = .ok (.iload_n 2, 1) := by decide +kernel
theorem dX4_dropVerse_65 : decode cX4_dropVerse 65 = .ok (.aload_n 0, 1) := by decide +kernel
theorem dX4_dropVerse_66 : decode cX4_dropVerse 66 = .ok (.getfield 15, 3) := by decide +kernel
theorem dX4_dropVerse_69 : decode cX4_dropVerse 69 = .ok (.arraylength, 1) := by decide +kernel
theorem dX4_dropVerse_70 : decode cX4_dropVerse 70 = .ok (.if_icmp .ge 25, 3) := by decide +kernel
theorem dX4_dropVerse_73 : decode cX4_dropVerse 73 = .ok (.aload_n 0, 1) := by decide +kernel
theorem dX4_dropVerse_74 : decode cX4_dropVerse 74 = .ok (.getfield 15, 3) := by decide +kernel
theorem dX4_dropVerse_77 : decode cX4_dropVerse 77 = .ok (.iload_n 2, 1) := by decide +kernel
theorem dX4_dropVerse_78 : decode cX4_dropVerse 78 = .ok (.aload_n 0, 1) := by decide +kernel
theorem dX4_dropVerse_79 : decode cX4_dropVerse 79 = .ok (.getfield 15, 3) := by decide +kernel
theorem dX4_dropVerse_82 : decode cX4_dropVerse 82 = .ok (.iload_n 2, 1) := by decide +kernel
theorem dX4_dropVerse_83 : decode cX4_dropVerse 83 = .ok (.iconst 1, 1) := by decide +kernel
theorem dX4_dropVerse_84 : decode cX4_dropVerse 84 = .ok (.iadd, 1) := by decide +kernel
theorem dX4_dropVerse_85 : decode cX4_dropVerse 85 = .ok (.invokestatic 41, 3) := by decide +kernel
theorem dX4_dropVerse_88 : decode cX4_dropVerse 88 = .ok (.iastore, 1) := by decide +kernel
theorem dX4_dropVerse_89 : decode cX4_dropVerse 89 = .ok (.iinc 2 1, 3) := by decide +kernel
theorem dX4_dropVerse_92 : decode cX4_dropVerse 92 = .ok (.goto (-38), 3) := by decide +kernel
theorem dX4_dropVerse_95 : decode cX4_dropVerse 95 = .ok (.aload_n 0, 1) := by decide +kernel
theorem dX4_dropVerse_96 : decode cX4_dropVerse 96 = .ok (.dup, 1) := by decide +kernel
theorem dX4_dropVerse_97 : decode cX4_dropVerse 97 = .ok (.getfield 18, 3) := by decide +kernel
theorem dX4_dropVerse_100 : decode cX4_dropVerse 100 = .ok (.iload_n 1, 1) := by decide +kernel
theorem dX4_dropVerse_101 : decode cX4_dropVerse 101 = .ok (.isub, 1) := by decide +kernel
theorem dX4_dropVerse_102 : decode cX4_dropVerse 102 = .ok (.putfield 18, 3) := by decide +kernel
theorem dX4_dropVerse_105 : decode cX4_dropVerse 105 = .ok (.aload_n 0, 1) := by decide +kernel
theorem dX4_dropVerse_106 : decode cX4_dropVerse 106 = .ok (.dup, 1) := by decide +kernel
theorem dX4_dropVerse_107 : decode cX4_dropVerse 107 = .ok (.getfield 28, 3) := by decide +kernel
theorem dX4_dropVerse_110 : decode cX4_dropVerse 110 = .ok (.iload_n 1, 1) := by decide +kernel
theorem dX4_dropVerse_111 : decode cX4_dropVerse 111 = .ok (.iadd, 1) := by decide +kernel
theorem dX4_dropVerse_112 : decode cX4_dropVerse 112 = .ok (.putfield 28, 3) := by decide +kernel
theorem dX4_dropVerse_115 : decode cX4_dropVerse 115 = .ok (.aload_n 0, 1) := by decide +kernel
theorem dX4_dropVerse_116 : decode cX4_dropVerse 116 = .ok (.dup, 1) := by decide +kernel
theorem dX4_dropVerse_117 : decode cX4_dropVerse 117 = .ok (.getfield 22, 3) := by decide +kernel
theorem dX4_dropVerse_120 : decode cX4_dropVerse 120 = .ok (.iconst 1, 1) := by decide +kernel
theorem dX4_dropVerse_121 : decode cX4_dropVerse 121 = .ok (.isub, 1) := by decide +kernel
theorem dX4_dropVerse_122 : decode cX4_dropVerse 122 = .ok (.putfield 22, 3) := by decide +kernel
theorem dX4_dropVerse_125 : decode cX4_dropVerse 125 = .ok (.return_, 1) := by decide +kernel
set_option maxRecDepth 20000 in
theorem ggX4_makeRoomFor_X4_dropVerse : GoodIn wsX4_makeRoomFor wsX4_dropVerse := goodIn_r _ [7, 8, 2, 9, 1, 10, 11, 12, 13, 14, 15, 16, 17, 18, 19, 20, 21] (by decide +kernel) (by decide +kernel)
set_option maxRecDepth 20000 in
theorem gX4_makeRoomFor_X4_dropVerse : GoodIn wsX4_makeRoomFor (wsV RX4 72 RX4 yX4_dropVerse wsX4_dropVerse) := goodIn_app (goodIn_of _ (by decide +kernel)) ggX4_makeRoomFor_X4_dropVerse
theorem dX4_makeRoomFor_0 : decode cX4_makeRoomFor 0 = .ok (.aload_n 0, 1) := by decide +kernel
theorem dX4_makeRoomFor_1 : decode cX4_makeRoomFor 1 = .ok (.getfield 22, 3) := by decide +kernel
theorem dX4_makeRoomFor_4 : decode cX4_makeRoomFor 4 = .ok (.istore_n 2, 1) := by decide +kernel
theorem dX4_makeRoomFor_5 : decode cX4_makeRoomFor 5 = .ok (.iload_n 2, 1) := by decide +kernel
theorem dX4_makeRoomFor_6 : decode cX4_makeRoomFor 6 = .ok (.ifCond .le 24, 3) := by decide +kernel
theorem dX4_makeRoomFor_9 : decode cX4_makeRoomFor 9 = .ok (.aload_n 0, 1) := by decide +kernel
theorem dX4_makeRoomFor_10 : decode cX4_makeRoomFor 10 = .ok (.getfield 18, 3) := by decide +kernel
theorem dX4_makeRoomFor_13 : decode cX4_makeRoomFor 13 = .ok (.iload_n 1, 1) := by decide +kernel
theorem dX4_makeRoomFor_14 : decode cX4_makeRoomFor 14 = .ok (.iadd, 1) := by decide +kernel
theorem dX4_makeRoomFor_15 : decode cX4_makeRoomFor 15 = .ok (.bipush 48, 2) := by decide +kernel
theorem dX4_makeRoomFor_17 : decode cX4_makeRoomFor 17 = .ok (.if_icmp .le 13, 3) := by decide +kernel
theorem dX4_makeRoomFor_20 : decode cX4_makeRoomFor 20 = .ok (.aload_n 0, 1) := by decide +kernel
theorem dX4_makeRoomFor_21 : decode cX4_makeRoomFor 21 = .ok (.invokevirtual 72, 3) := by decide +kernel
theorem dX4_makeRoomFor_24 : decode cX4_makeRoomFor 24 = .ok (.iinc 2 (-1), 3) := by decide +kernel
theorem dX4_makeRoomFor_27 : decode cX4_makeRoomFor 27 = .ok (.goto (-22), 3) := by decide +kernel
theorem dX4_makeRoomFor_30 : decode cX4_makeRoomFor 30 = .ok (.return_, 1) := by decide +kernel
set_option maxRecDepth 20000 in
theorem ggX4_addVerse_X2_codeAt : GoodIn wsX4_addVerse wsX2_codeAt := goodIn_r _ [11, 12, 13, 14, 15, 24, 25] (by decide +kernel) (by decide +kernel)
set_option maxRecDepth 20000 in
theorem gX4_addVerse_X2_codeAt : GoodIn wsX4_addVerse (wsV RX4 80 RX2 yX2_codeAt wsX2_codeAt) := goodIn_app (goodIn_of _ (by decide +kernel)) ggX4_addVerse_X2_codeAt
theorem dX4_addVerse_0 : decode cX4_addVerse 0 = .ok (.aload_n 0, 1) := by decide +kernel
theorem dX4_addVerse_1 : decode cX4_addVerse 1 = .ok (.getfield 22, 3) := by decide +kernel
theorem dX4_addVerse_4 : decode cX4_addVerse 4 = .ok (.aload_n 0, 1) := by decide +kernel
theorem dX4_addVerse_5 : decode cX4_addVerse 5 = .ok (.getfield 15, 3) := by decide +kernel
theorem dX4_addVerse_8 : decode cX4_addVerse 8 = .ok (.arraylength, 1) := by decide +kernel
theorem dX4_addVerse_9 : decode cX4_addVerse 9 = .ok (.if_icmp .ge 20, 3) := by decide +kernel
theorem dX4_addVerse_12 : decode cX4_addVerse 12 = .ok (.aload_n 0, 1) := by decide +kernel
theorem dX4_addVerse_13 : decode cX4_addVerse 13 = .ok (.getfield 18, 3) := by decide +kernel
theorem dX4_addVerse_16 : decode cX4_addVerse 16 = .ok (.aload_n 1, 1) := by decide +kernel
theorem dX4_addVerse_17 : decode cX4_addVerse 17 = .ok (.getfield 75, 3) := by decide +kernel
theorem dX4_addVerse_20 : decode cX4_addVerse 20 = .ok (.iadd, 1) := by decide +kernel
theorem dX4_addVerse_21 : decode cX4_addVerse 21 = .ok (.aload_n 0, 1) := by decide +kernel
theorem dX4_addVerse_22 : decode cX4_addVerse 22 = .ok (.getfield 9, 3) := by decide +kernel
theorem dX4_addVerse_25 : decode cX4_addVerse 25 = .ok (.arraylength, 1) := by decide +kernel
theorem dX4_addVerse_26 : decode cX4_addVerse 26 = .ok (.if_icmp .le 4, 3) := by decide +kernel
theorem dX4_addVerse_29 : decode cX4_addVerse 29 = .ok (.return_, 1) := by decide +kernel
theorem dX4_addVerse_30 : decode cX4_addVerse 30 = .ok (.aload_n 0, 1) := by decide +kernel
theorem dX4_addVerse_31 : decode cX4_addVerse 31 = .ok (.getfield 15, 3) := by decide +kernel
theorem dX4_addVerse_34 : decode cX4_addVerse 34 = .ok (.aload_n 0, 1) := by decide +kernel
theorem dX4_addVerse_35 : decode cX4_addVerse 35 = .ok (.getfield 22, 3) := by decide +kernel
theorem dX4_addVerse_38 : decode cX4_addVerse 38 = .ok (.aload_n 1, 1) := by decide +kernel
theorem dX4_addVerse_39 : decode cX4_addVerse 39 = .ok (.getfield 75, 3) := by decide +kernel
theorem dX4_addVerse_42 : decode cX4_addVerse 42 = .ok (.iastore, 1) := by decide +kernel
theorem dX4_addVerse_43 : decode cX4_addVerse 43 = .ok (.aload_n 0, 1) := by decide +kernel
theorem dX4_addVerse_44 : decode cX4_addVerse 44 = .ok (.dup, 1) := by decide +kernel
theorem dX4_addVerse_45 : decode cX4_addVerse 45 = .ok (.getfield 22, 3) := by decide +kernel
theorem dX4_addVerse_48 : decode cX4_addVerse 48 = .ok (.iconst 1, 1) := by decide +kernel
theorem dX4_addVerse_49 : decode cX4_addVerse 49 = .ok (.iadd, 1) := by decide +kernel
theorem dX4_addVerse_50 : decode cX4_addVerse 50 = .ok (.putfield 22, 3) := by decide +kernel
theorem dX4_addVerse_53 : decode cX4_addVerse 53 = .ok (.aload_n 0, 1) := by decide +kernel
theorem dX4_addVerse_54 : decode cX4_addVerse 54 = .ok (.dup, 1) := by decide +kernel
theorem dX4_addVerse_55 : decode cX4_addVerse 55 = .ok (.getfield 34, 3) := by decide +kernel
theorem dX4_addVerse_58 : decode cX4_addVerse 58 = .ok (.iconst 1, 1) := by decide +kernel
theorem dX4_addVerse_59 : decode cX4_addVerse 59 = .ok (.iadd, 1) := by decide +kernel
theorem dX4_addVerse_60 : decode cX4_addVerse 60 = .ok (.putfield 34, 3) := by decide +kernel
theorem dX4_addVerse_63 : decode cX4_addVerse 63 = .ok (.iconst 0, 1) := by decide +kernel
theorem dX4_addVerse_64 : decode cX4_addVerse 64 = .ok (.istore_n 2, 1) := by decide +kernel
theorem dX4_addVerse_65 : decode cX4_addVerse 65 = .ok (.iload_n 2, 1) := by decide +kernel
theorem dX4_addVerse_66 : decode cX4_addVerse 66 = .ok (.aload_n 1, 1) := by decide +kernel
theorem dX4_addVerse_67 : decode cX4_addVerse 67 = .ok (.getfield 75, 3) := by decide +kernel
theorem dX4_addVerse_70 : decode cX4_addVerse 70 = .ok (.if_icmp .ge 45, 3) := by decide +kernel
theorem dX4_addVerse_73 : decode cX4_addVerse 73 = .ok (.aload_n 0, 1) := by decide +kernel
theorem dX4_addVerse_74 : decode cX4_addVerse 74 = .ok (.getfield 18, 3) := by decide +kernel
theorem dX4_addVerse_77 : decode cX4_addVerse 77 = .ok (.aload_n 0, 1) := by decide +kernel
theorem dX4_addVerse_78 : decode cX4_addVerse 78 = .ok (.getfield 9, 3) := by decide +kernel
theorem dX4_addVerse_81 : decode cX4_addVerse 81 = .ok (.arraylength, 1) := by decide +kernel
theorem dX4_addVerse_82 : decode cX4_addVerse 82 = .ok (.if_icmp .ge 33, 3) := by decide +kernel
theorem dX4_addVerse_85 : decode cX4_addVerse 85 = .ok (.aload_n 0, 1) := by decide +kernel
theorem dX4_addVerse_86 : decode cX4_addVerse 86 = .ok (.getfield 9, 3) := by decide +kernel
theorem dX4_addVerse_89 : decode cX4_addVerse 89 = .ok (.aload_n 0, 1) := by decide +kernel
theorem dX4_addVerse_90 : decode cX4_addVerse 90 = .ok (.getfield 18, 3) := by decide +kernel
theorem dX4_addVerse_93 : decode cX4_addVerse 93 = .ok (.aload_n 1, 1) := by decide +kernel
theorem dX4_addVerse_94 : decode cX4_addVerse 94 = .ok (.iload_n 2, 1) := by decide +kernel
theorem dX4_addVerse_95 : decode cX4_addVerse 95 = .ok (.invokevirtual 80, 3) := by decide +kernel
theorem dX4_addVerse_98 : decode cX4_addVerse 98 = .ok (.iastore, 1) := by decide +kernel
theorem dX4_addVerse_99 : decode cX4_addVerse 99 = .ok (.aload_n 0, 1) := by decide +kernel
theorem dX4_addVerse_100 : decode cX4_addVerse 100 = .ok (.dup, 1) := by decide +kernel
theorem dX4_addVerse_101 : decode cX4_addVerse 101 = .ok (.getfield 18, 3) := by decide +kernel
theorem dX4_addVerse_104 : decode cX4_addVerse 104 = .ok (.iconst 1, 1) := by decide +kernel
theorem dX4_addVerse_105 : decode cX4_addVerse 105 = .ok (.iadd, 1) := by decide +kernel
theorem dX4_addVerse_106 : decode cX4_addVerse 106 = .ok (.putfield 18, 3) := by decide +kernel
theorem dX4_addVerse_109 : decode cX4_addVerse 109 = .ok (.iinc 2 1, 3) := by decide +kernel
theorem dX4_addVerse_112 : decode cX4_addVerse 112 = .ok (.goto (-47), 3) := by decide +kernel
theorem dX4_addVerse_115 : decode cX4_addVerse 115 = .ok (.return_, 1) := by decide +kernel
