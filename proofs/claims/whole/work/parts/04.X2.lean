theorem dX2_init_0 : decode cX2_init 0 = .ok (.aload_n 0, 1) := by decide +kernel
theorem dX2_init_1 : decode cX2_init 1 = .ok (.invokespecial 3, 3) := by decide +kernel
theorem dX2_init_4 : decode cX2_init 4 = .ok (.aload_n 0, 1) := by decide +kernel
theorem dX2_init_5 : decode cX2_init 5 = .ok (.iconst 0, 1) := by decide +kernel
theorem dX2_init_6 : decode cX2_init 6 = .ok (.putfield 9, 3) := by decide +kernel
theorem dX2_init_9 : decode cX2_init 9 = .ok (.aload_n 0, 1) := by decide +kernel
theorem dX2_init_10 : decode cX2_init 10 = .ok (.iconst 0, 1) := by decide +kernel
theorem dX2_init_11 : decode cX2_init 11 = .ok (.iload_n 1, 1) := by decide +kernel
theorem dX2_init_12 : decode cX2_init 12 = .ok (.invokestatic 15, 3) := by decide +kernel
theorem dX2_init_15 : decode cX2_init 15 = .ok (.newarray .int, 2) := by decide +kernel
theorem dX2_init_17 : decode cX2_init 17 = .ok (.putfield 21, 3) := by decide +kernel
theorem dX2_init_20 : decode cX2_init 20 = .ok (.return_, 1) := by decide +kernel
theorem dX2_isFull_0 : decode cX2_isFull 0 = .ok (.aload_n 0, 1) := by decide +kernel
theorem dX2_isFull_1 : decode cX2_isFull 1 = .ok (.getfield 9, 3) := by decide +kernel
theorem dX2_isFull_4 : decode cX2_isFull 4 = .ok (.aload_n 0, 1) := by decide +kernel
theorem dX2_isFull_5 : decode cX2_isFull 5 = .ok (.getfield 21, 3) := by decide +kernel
theorem dX2_isFull_8 : decode cX2_isFull 8 = .ok (.arraylength, 1) := by decide +kernel
theorem dX2_isFull_9 : decode cX2_isFull 9 = .ok (.if_icmp .lt 7, 3) := by decide +kernel
theorem dX2_isFull_12 : decode cX2_isFull 12 = .ok (.iconst 1, 1) := by decide +kernel
theorem dX2_isFull_13 : decode cX2_isFull 13 = .ok (.goto 4, 3) := by decide +kernel
theorem dX2_isFull_16 : decode cX2_isFull 16 = .ok (.iconst 0, 1) := by decide +kernel
theorem dX2_isFull_17 : decode cX2_isFull 17 = .ok (.ireturn, 1) := by decide +kernel
theorem dX2_add_0 : decode cX2_add 0 = .ok (.aload_n 0, 1) := by decide +kernel
theorem dX2_add_1 : decode cX2_add 1 = .ok (.getfield 9, 3) := by decide +kernel
theorem dX2_add_4 : decode cX2_add 4 = .ok (.ifCond .lt 35, 3) := by decide +kernel
theorem dX2_add_7 : decode cX2_add 7 = .ok (.aload_n 0, 1) := by decide +kernel
theorem dX2_add_8 : decode cX2_add 8 = .ok (.getfield 9, 3) := by decide +kernel
theorem dX2_add_11 : decode cX2_add 11 = .ok (.aload_n 0, 1) := by decide +kernel
theorem dX2_add_12 : decode cX2_add 12 = .ok (.getfield 21, 3) := by decide +kernel
theorem dX2_add_15 : decode cX2_add 15 = .ok (.arraylength, 1) := by decide +kernel
theorem dX2_add_16 : decode cX2_add 16 = .ok (.if_icmp .ge 23, 3) := by decide +kernel
theorem dX2_add_19 : decode cX2_add 19 = .ok (.aload_n 0, 1) := by decide +kernel
theorem dX2_add_20 : decode cX2_add 20 = .ok (.getfield 21, 3) := by decide +kernel
theorem dX2_add_23 : decode cX2_add 23 = .ok (.aload_n 0, 1) := by decide +kernel
theorem dX2_add_24 : decode cX2_add 24 = .ok (.getfield 9, 3) := by decide +kernel
theorem dX2_add_27 : decode cX2_add 27 = .ok (.iload_n 1, 1) := by decide +kernel
theorem dX2_add_28 : decode cX2_add 28 = .ok (.iastore, 1) := by decide +kernel
theorem dX2_add_29 : decode cX2_add 29 = .ok (.aload_n 0, 1) := by decide +kernel
theorem dX2_add_30 : decode cX2_add 30 = .ok (.dup, 1) := by decide +kernel
theorem dX2_add_31 : decode cX2_add 31 = .ok (.getfield 9, 3) := by decide +kernel
theorem dX2_add_34 : decode cX2_add 34 = .ok (.iconst 1, 1) := by decide +kernel
theorem dX2_add_35 : decode cX2_add 35 = .ok (.iadd, 1) := by decide +kernel
theorem dX2_add_36 : decode cX2_add 36 = .ok (.putfield 9, 3) := by decide +kernel
theorem dX2_add_39 : decode cX2_add 39 = .ok (.return_, 1) := by decide +kernel
theorem dX2_empty_0 : decode cX2_empty 0 = .ok (.aload_n 0, 1) := by decide +kernel
theorem dX2_empty_1 : decode cX2_empty 1 = .ok (.iconst 0, 1) := by decide +kernel
theorem dX2_empty_2 : decode cX2_empty 2 = .ok (.putfield 9, 3) := by decide +kernel
theorem dX2_empty_5 : decode cX2_empty 5 = .ok (.return_, 1) := by decide +kernel
set_option maxRecDepth 20000 in
theorem ggX2_codeAt_X5_cellOf : GoodIn wsX2_codeAt wsX5_cellOf := goodIn_r _ [4] (by decide +kernel) (by decide +kernel)
set_option maxRecDepth 20000 in
theorem gX2_codeAt_X5_cellOf_n25 : GoodIn wsX2_codeAt (wsX5_cellOf) := ggX2_codeAt_X5_cellOf
theorem dX2_codeAt_0 : decode cX2_codeAt 0 = .ok (.aload_n 0, 1) := by decide +kernel
theorem dX2_codeAt_1 : decode cX2_codeAt 1 = .ok (.getfield 21, 3) := by decide +kernel
theorem dX2_codeAt_4 : decode cX2_codeAt 4 = .ok (.iload_n 1, 1) := by decide +kernel
theorem dX2_codeAt_5 : decode cX2_codeAt 5 = .ok (.invokestatic 25, 3) := by decide +kernel
theorem dX2_codeAt_8 : decode cX2_codeAt 8 = .ok (.ireturn, 1) := by decide +kernel
set_option maxRecDepth 20000 in
theorem ggX2_firstError_X2_codeAt : GoodIn wsX2_firstError wsX2_codeAt := goodIn_r _ [6, 7, 8, 9, 10, 13, 14] (by decide +kernel) (by decide +kernel)
set_option maxRecDepth 20000 in
theorem gX2_firstError_X2_codeAt : GoodIn wsX2_firstError (wsV RX2 29 RX2 yX2_codeAt wsX2_codeAt) := goodIn_app (goodIn_of _ (by decide +kernel)) ggX2_firstError_X2_codeAt
set_option maxRecDepth 20000 in
theorem ggX2_firstError_X5_isLetter : GoodIn wsX2_firstError wsX5_isLetter := goodIn_r _ [12] (by decide +kernel) (by decide +kernel)
set_option maxRecDepth 20000 in
theorem gX2_firstError_X5_isLetter_n33 : GoodIn wsX2_firstError (wsX5_isLetter) := ggX2_firstError_X5_isLetter
theorem dX2_firstError_0 : decode cX2_firstError 0 = .ok (.iconst 0, 1) := by decide +kernel
theorem dX2_firstError_1 : decode cX2_firstError 1 = .ok (.istore_n 1, 1) := by decide +kernel
theorem dX2_firstError_2 : decode cX2_firstError 2 = .ok (.iload_n 1, 1) := by decide +kernel
theorem dX2_firstError_3 : decode cX2_firstError 3 = .ok (.aload_n 0, 1) := by decide +kernel
theorem dX2_firstError_4 : decode cX2_firstError 4 = .ok (.getfield 9, 3) := by decide +kernel
theorem dX2_firstError_7 : decode cX2_firstError 7 = .ok (.if_icmp .ge 22, 3) := by decide +kernel
theorem dX2_firstError_10 : decode cX2_firstError 10 = .ok (.aload_n 0, 1) := by decide +kernel
theorem dX2_firstError_11 : decode cX2_firstError 11 = .ok (.iload_n 1, 1) := by decide +kernel
theorem dX2_firstError_12 : decode cX2_firstError 12 = .ok (.invokevirtual 29, 3) := by decide +kernel
theorem dX2_firstError_15 : decode cX2_firstError 15 = .ok (.invokestatic 33, 3) := by decide +kernel
theorem dX2_firstError_18 : decode cX2_firstError 18 = .ok (.ifCond .ne 5, 3) := by decide +kernel
theorem dX2_firstError_21 : decode cX2_firstError 21 = .ok (.iload_n 1, 1) := by decide +kernel
theorem dX2_firstError_22 : decode cX2_firstError 22 = .ok (.ireturn, 1) := by decide +kernel
theorem dX2_firstError_23 : decode cX2_firstError 23 = .ok (.iinc 1 1, 3) := by decide +kernel
theorem dX2_firstError_26 : decode cX2_firstError 26 = .ok (.goto (-24), 3) := by decide +kernel
theorem dX2_firstError_29 : decode cX2_firstError 29 = .ok (.aload_n 0, 1) := by decide +kernel
theorem dX2_firstError_30 : decode cX2_firstError 30 = .ok (.getfield 9, 3) := by decide +kernel
theorem dX2_firstError_33 : decode cX2_firstError 33 = .ok (.ifCond .ne 7, 3) := by decide +kernel
theorem dX2_firstError_36 : decode cX2_firstError 36 = .ok (.iconst 0, 1) := by decide +kernel
theorem dX2_firstError_37 : decode cX2_firstError 37 = .ok (.goto 4, 3) := by decide +kernel
theorem dX2_firstError_40 : decode cX2_firstError 40 = .ok (.iconst (-1), 1) := by decide +kernel
theorem dX2_firstError_41 : decode cX2_firstError 41 = .ok (.ireturn, 1) := by decide +kernel
set_option maxRecDepth 20000 in
theorem ggX2_isPattern_X2_firstError : GoodIn wsX2_isPattern wsX2_firstError := goodIn_r _ [5, 6, 7, 8, 9, 4, 10, 11, 12, 13, 14, 15, 16, 17, 18] (by decide +kernel) (by decide +kernel)
set_option maxRecDepth 20000 in
theorem gX2_isPattern_X2_firstError : GoodIn wsX2_isPattern (wsV RX2 37 RX2 yX2_firstError wsX2_firstError) := goodIn_app (goodIn_of _ (by decide +kernel)) ggX2_isPattern_X2_firstError
theorem dX2_isPattern_0 : decode cX2_isPattern 0 = .ok (.aload_n 0, 1) := by decide +kernel
theorem dX2_isPattern_1 : decode cX2_isPattern 1 = .ok (.invokevirtual 37, 3) := by decide +kernel
theorem dX2_isPattern_4 : decode cX2_isPattern 4 = .ok (.iconst (-1), 1) := by decide +kernel
theorem dX2_isPattern_5 : decode cX2_isPattern 5 = .ok (.if_icmp .ne 7, 3) := by decide +kernel
theorem dX2_isPattern_8 : decode cX2_isPattern 8 = .ok (.iconst 1, 1) := by decide +kernel
theorem dX2_isPattern_9 : decode cX2_isPattern 9 = .ok (.goto 4, 3) := by decide +kernel
theorem dX2_isPattern_12 : decode cX2_isPattern 12 = .ok (.iconst 0, 1) := by decide +kernel
theorem dX2_isPattern_13 : decode cX2_isPattern 13 = .ok (.ireturn, 1) := by decide +kernel
set_option maxRecDepth 20000 in
theorem ggX2_fitsVerse_X2_isPattern : GoodIn wsX2_fitsVerse wsX2_isPattern := goodIn_r _ [6, 7, 8, 9, 5, 10, 1, 11, 12, 13, 14, 15, 16, 17, 18, 19, 20, 21, 22] (by decide +kernel) (by decide +kernel)
set_option maxRecDepth 20000 in
theorem gX2_fitsVerse_X2_isPattern : GoodIn wsX2_fitsVerse (wsV RX2 41 RX2 yX2_isPattern wsX2_isPattern) := goodIn_app (goodIn_of _ (by decide +kernel)) ggX2_fitsVerse_X2_isPattern
theorem dX2_fitsVerse_0 : decode cX2_fitsVerse 0 = .ok (.aload_n 0, 1) := by decide +kernel
theorem dX2_fitsVerse_1 : decode cX2_fitsVerse 1 = .ok (.getfield 9, 3) := by decide +kernel
theorem dX2_fitsVerse_4 : decode cX2_fitsVerse 4 = .ok (.bipush 12, 2) := by decide +kernel
theorem dX2_fitsVerse_6 : decode cX2_fitsVerse 6 = .ok (.if_icmp .gt 14, 3) := by decide +kernel
theorem dX2_fitsVerse_9 : decode cX2_fitsVerse 9 = .ok (.aload_n 0, 1) := by decide +kernel
theorem dX2_fitsVerse_10 : decode cX2_fitsVerse 10 = .ok (.invokevirtual 41, 3) := by decide +kernel
theorem dX2_fitsVerse_13 : decode cX2_fitsVerse 13 = .ok (.ifCond .eq 7, 3) := by decide +kernel
theorem dX2_fitsVerse_16 : decode cX2_fitsVerse 16 = .ok (.iconst 1, 1) := by decide +kernel
theorem dX2_fitsVerse_17 : decode cX2_fitsVerse 17 = .ok (.goto 4, 3) := by decide +kernel
theorem dX2_fitsVerse_20 : decode cX2_fitsVerse 20 = .ok (.iconst 0, 1) := by decide +kernel
theorem dX2_fitsVerse_21 : decode cX2_fitsVerse 21 = .ok (.ireturn, 1) := by decide +kernel
set_option maxRecDepth 20000 in
theorem ggX2_sharedWith_X2_codeAt : GoodIn wsX2_sharedWith wsX2_codeAt := goodIn_r _ [7, 8, 9, 10, 11, 18, 19] (by decide +kernel) (by decide +kernel)
set_option maxRecDepth 20000 in
theorem gX2_sharedWith_X2_codeAt : GoodIn wsX2_sharedWith (wsV RX2 29 RX2 yX2_codeAt wsX2_codeAt) := goodIn_app (goodIn_of _ (by decide +kernel)) ggX2_sharedWith_X2_codeAt
set_option maxRecDepth 20000 in
theorem ggX2_sharedWith_X4_codeAt : GoodIn wsX2_sharedWith wsX4_codeAt := goodIn_r _ [16, 17, 9, 10, 11, 20, 21, 22, 23, 24, 25, 26, 27] (by decide +kernel) (by decide +kernel)
set_option maxRecDepth 20000 in
theorem gX2_sharedWith_X4_codeAt : GoodIn wsX2_sharedWith (wsV RX2 50 RX4 yX4_codeAt wsX4_codeAt) := goodIn_app (goodIn_of _ (by decide +kernel)) ggX2_sharedWith_X4_codeAt
theorem dX2_sharedWith_0 : decode cX2_sharedWith 0 = .ok (.iconst 0, 1) := by decide +kernel
theorem dX2_sharedWith_1 : decode cX2_sharedWith 1 = .ok (.istore_n 3, 1) := by decide +kernel
theorem dX2_sharedWith_2 : decode cX2_sharedWith 2 = .ok (.iload_n 3, 1) := by decide +kernel
theorem dX2_sharedWith_3 : decode cX2_sharedWith 3 = .ok (.aload_n 0, 1) := by decide +kernel
theorem dX2_sharedWith_4 : decode cX2_sharedWith 4 = .ok (.getfield 9, 3) := by decide +kernel
theorem dX2_sharedWith_7 : decode cX2_sharedWith 7 = .ok (.if_icmp .ge 34, 3) := by decide +kernel
theorem dX2_sharedWith_10 : decode cX2_sharedWith 10 = .ok (.iload_n 2, 1) := by decide +kernel
theorem dX2_sharedWith_11 : decode cX2_sharedWith 11 = .ok (.iload_n 3, 1) := by decide +kernel
theorem dX2_sharedWith_12 : decode cX2_sharedWith 12 = .ok (.iadd, 1) := by decide +kernel
theorem dX2_sharedWith_13 : decode cX2_sharedWith 13 = .ok (.aload_n 1, 1) := by decide +kernel
theorem dX2_sharedWith_14 : decode cX2_sharedWith 14 = .ok (.getfield 45, 3) := by decide +kernel
theorem dX2_sharedWith_17 : decode cX2_sharedWith 17 = .ok (.if_icmp .ge 24, 3) := by decide +kernel
theorem dX2_sharedWith_20 : decode cX2_sharedWith 20 = .ok (.aload_n 0, 1) := by decide +kernel
theorem dX2_sharedWith_21 : decode cX2_sharedWith 21 = .ok (.iload_n 3, 1) := by decide +kernel
theorem dX2_sharedWith_22 : decode cX2_sharedWith 22 = .ok (.invokevirtual 29, 3) := by decide +kernel
theorem dX2_sharedWith_25 : decode cX2_sharedWith 25 = .ok (.aload_n 1, 1) := by decide +kernel
theorem dX2_sharedWith_26 : decode cX2_sharedWith 26 = .ok (.iload_n 2, 1) := by decide +kernel
theorem dX2_sharedWith_27 : decode cX2_sharedWith 27 = .ok (.iload_n 3, 1) := by decide +kernel
theorem dX2_sharedWith_28 : decode cX2_sharedWith 28 = .ok (.iadd, 1) := by decide +kernel
theorem dX2_sharedWith_29 : decode cX2_sharedWith 29 = .ok (.invokevirtual 50, 3) := by decide +kernel
theorem dX2_sharedWith_32 : decode cX2_sharedWith 32 = .ok (.if_icmp .ne 9, 3) := by decide +kernel
theorem dX2_sharedWith_35 : decode cX2_sharedWith 35 = .ok (.iinc 3 1, 3) := by decide +kernel
theorem dX2_sharedWith_38 : decode cX2_sharedWith 38 = .ok (.goto (-36), 3) := by decide +kernel
theorem dX2_sharedWith_41 : decode cX2_sharedWith 41 = .ok (.iload_n 3, 1) := by decide +kernel
theorem dX2_sharedWith_42 : decode cX2_sharedWith 42 = .ok (.ireturn, 1) := by decide +kernel
set_option maxRecDepth 20000 in
theorem ggX2_takeLine_X2_empty : GoodIn wsX2_takeLine wsX2_empty := goodIn_r _ [6, 1, 19, 20] (by decide +kernel) (by decide +kernel)
set_option maxRecDepth 20000 in
theorem gX2_takeLine_X2_empty : GoodIn wsX2_takeLine (wsV RX2 51 RX2 yX2_empty wsX2_empty) := goodIn_app (goodIn_of _ (by decide +kernel)) ggX2_takeLine_X2_empty
set_option maxRecDepth 20000 in
theorem ggX2_takeLine_X2_codeAt : GoodIn wsX2_takeLine wsX2_codeAt := goodIn_r _ [10, 11, 12, 13, 14, 19, 20] (by decide +kernel) (by decide +kernel)
set_option maxRecDepth 20000 in
theorem gX2_takeLine_X2_codeAt : GoodIn wsX2_takeLine (wsV RX2 29 RX2 yX2_codeAt wsX2_codeAt) := goodIn_app (goodIn_of _ (by decide +kernel)) ggX2_takeLine_X2_codeAt
set_option maxRecDepth 20000 in
theorem ggX2_takeLine_X2_add : GoodIn wsX2_takeLine wsX2_add := goodIn_r _ [18, 1, 11, 19, 20] (by decide +kernel) (by decide +kernel)
set_option maxRecDepth 20000 in
theorem gX2_takeLine_X2_add : GoodIn wsX2_takeLine (wsV RX2 54 RX2 yX2_add wsX2_add) := goodIn_app (goodIn_of _ (by decide +kernel)) ggX2_takeLine_X2_add
theorem dX2_takeLine_0 : decode cX2_takeLine 0 = .ok (.aload_n 0, 1) := by decide +kernel
theorem dX2_takeLine_1 : decode cX2_takeLine 1 = .ok (.invokevirtual 51, 3) := by decide +kernel
theorem dX2_takeLine_4 : decode cX2_takeLine 4 = .ok (.iconst 0, 1) := by decide +kernel
theorem dX2_takeLine_5 : decode cX2_takeLine 5 = .ok (.istore_n 2, 1) := by decide +kernel
theorem dX2_takeLine_6 : decode cX2_takeLine 6 = .ok (.iload_n 2, 1) := by decide +kernel
theorem dX2_takeLine_7 : decode cX2_takeLine 7 = .ok (.aload_n 1, 1) := by decide +kernel
theorem dX2_takeLine_8 : decode cX2_takeLine 8 = .ok (.getfield 9, 3) := by decide +kernel
theorem dX2_takeLine_11 : decode cX2_takeLine 11 = .ok (.if_icmp .ge 18, 3) := by decide +kernel
theorem dX2_takeLine_14 : decode cX2_takeLine 14 = .ok (.aload_n 0, 1) := by decide +kernel
theorem dX2_takeLine_15 : decode cX2_takeLine 15 = .ok (.aload_n 1, 1) := by decide +kernel
theorem dX2_takeLine_16 : decode cX2_takeLine 16 = .ok (.iload_n 2, 1) := by decide +kernel
theorem dX2_takeLine_17 : decode cX2_takeLine 17 = .ok (.invokevirtual 29, 3) := by decide +kernel
theorem dX2_takeLine_20 : decode cX2_takeLine 20 = .ok (.invokevirtual 54, 3) := by decide +kernel
theorem dX2_takeLine_23 : decode cX2_takeLine 23 = .ok (.iinc 2 1, 3) := by decide +kernel
theorem dX2_takeLine_26 : decode cX2_takeLine 26 = .ok (.goto (-20), 3) := by decide +kernel
theorem dX2_takeLine_29 : decode cX2_takeLine 29 = .ok (.return_, 1) := by decide +kernel
set_option maxRecDepth 20000 in
theorem ggX2_takeVerse_X2_empty : GoodIn wsX2_takeVerse wsX2_empty := goodIn_r _ [5, 6, 35, 36] (by decide +kernel) (by decide +kernel)
set_option maxRecDepth 20000 in
theorem gX2_takeVerse_X2_empty : GoodIn wsX2_takeVerse (wsV RX2 51 RX2 yX2_empty wsX2_empty) := goodIn_app (goodIn_of _ (by decide +kernel)) ggX2_takeVerse_X2_empty
set_option maxRecDepth 20000 in
theorem ggX2_takeVerse_X4_startOf : GoodIn wsX2_takeVerse wsX4_startOf := goodIn_r _ [11, 12, 13, 14, 15, 16, 37, 38, 39, 40, 41, 42, 43, 44] (by decide +kernel) (by decide +kernel)
set_option maxRecDepth 20000 in
theorem gX2_takeVerse_X4_startOf : GoodIn wsX2_takeVerse (wsV RX2 58 RX4 yX4_startOf wsX4_startOf) := goodIn_app (goodIn_of _ (by decide +kernel)) ggX2_takeVerse_X4_startOf
set_option maxRecDepth 20000 in
theorem ggX2_takeVerse_X4_lengthOf : GoodIn wsX2_takeVerse wsX4_lengthOf := goodIn_r _ [20, 13, 21, 22, 23, 10, 24, 12, 14, 15, 16, 37, 38, 39, 40, 41, 42, 43, 44] (by decide +kernel) (by decide +kernel)
set_option maxRecDepth 20000 in
theorem gX2_takeVerse_X4_lengthOf : GoodIn wsX2_takeVerse (wsV RX2 61 RX4 yX4_lengthOf wsX4_lengthOf) := goodIn_app (goodIn_of _ (by decide +kernel)) ggX2_takeVerse_X4_lengthOf
set_option maxRecDepth 20000 in
theorem ggX2_takeVerse_X4_codeAt : GoodIn wsX2_takeVerse wsX4_codeAt := goodIn_r _ [28, 29, 14, 15, 16, 37, 38, 39, 40, 41, 42, 43, 44] (by decide +kernel) (by decide +kernel)
set_option maxRecDepth 20000 in
theorem gX2_takeVerse_X4_codeAt : GoodIn wsX2_takeVerse (wsV RX2 50 RX4 yX4_codeAt wsX4_codeAt) := goodIn_app (goodIn_of _ (by decide +kernel)) ggX2_takeVerse_X4_codeAt
set_option maxRecDepth 20000 in
theorem ggX2_takeVerse_X2_add : GoodIn wsX2_takeVerse wsX2_add := goodIn_r _ [33, 6, 34, 35, 36] (by decide +kernel) (by decide +kernel)
set_option maxRecDepth 20000 in
theorem gX2_takeVerse_X2_add : GoodIn wsX2_takeVerse (wsV RX2 54 RX2 yX2_add wsX2_add) := goodIn_app (goodIn_of _ (by decide +kernel)) ggX2_takeVerse_X2_add
theorem dX2_takeVerse_0 : decode cX2_takeVerse 0 = .ok (.aload_n 0, 1) := by decide +kernel
theorem dX2_takeVerse_1 : decode cX2_takeVerse 1 = .ok (.invokevirtual 51, 3) := by decide +kernel
theorem dX2_takeVerse_4 : decode cX2_takeVerse 4 = .ok (.aload_n 1, 1) := by decide +kernel
theorem dX2_takeVerse_5 : decode cX2_takeVerse 5 = .ok (.iload_n 2, 1) := by decide +kernel
theorem dX2_takeVerse_6 : decode cX2_takeVerse 6 = .ok (.invokevirtual 58, 3) := by decide +kernel
theorem dX2_takeVerse_9 : decode cX2_takeVerse 9 = .ok (.istore_n 3, 1) := by decide +kernel
theorem dX2_takeVerse_10 : decode cX2_takeVerse 10 = .ok (.iload_n 3, 1) := by decide +kernel
theorem dX2_takeVerse_11 : decode cX2_takeVerse 11 = .ok (.aload_n 1, 1) := by decide +kernel
theorem dX2_takeVerse_12 : decode cX2_takeVerse 12 = .ok (.iload_n 2, 1) := by decide +kernel
theorem dX2_takeVerse_13 : decode cX2_takeVerse 13 = .ok (.invokevirtual 61, 3) := by decide +kernel
theorem dX2_takeVerse_16 : decode cX2_takeVerse 16 = .ok (.iadd, 1) := by decide +kernel
theorem dX2_takeVerse_17 : decode cX2_takeVerse 17 = .ok (.istore 4, 2) := by decide +kernel
theorem dX2_takeVerse_19 : decode cX2_takeVerse 19 = .ok (.iload_n 3, 1) := by decide +kernel
theorem dX2_takeVerse_20 : decode cX2_takeVerse 20 = .ok (.istore 5, 2) := by decide +kernel
theorem dX2_takeVerse_22 : decode cX2_takeVerse 22 = .ok (.iload 5, 2) := by decide +kernel
theorem dX2_takeVerse_24 : decode cX2_takeVerse 24 = .ok (.iload 4, 2) := by decide +kernel
theorem dX2_takeVerse_26 : decode cX2_takeVerse 26 = .ok (.if_icmp .ge 19, 3) := by decide +kernel
theorem dX2_takeVerse_29 : decode cX2_takeVerse 29 = .ok (.aload_n 0, 1) := by decide +kernel
theorem dX2_takeVerse_30 : decode cX2_takeVerse 30 = .ok (.aload_n 1, 1) := by decide +kernel
theorem dX2_takeVerse_31 : decode cX2_takeVerse 31 = .ok (.iload 5, 2) := by decide +kernel
theorem dX2_takeVerse_33 : decode cX2_takeVerse 33 = .ok (.invokevirtual 50, 3) := by decide +kernel
theorem dX2_takeVerse_36 : decode cX2_takeVerse 36 = .ok (.invokevirtual 54, 3) := by decide +kernel
theorem dX2_takeVerse_39 : decode cX2_takeVerse 39 = .ok (.iinc 5 1, 3) := by decide +kernel
theorem dX2_takeVerse_42 : decode cX2_takeVerse 42 = .ok (.goto (-20), 3) := by decide +kernel
theorem dX2_takeVerse_45 : decode cX2_takeVerse 45 = .ok (.return_, 1) := by decide +kernel
set_option maxRecDepth 20000 in
theorem ggX2_takeDigits_X2_empty : GoodIn wsX2_takeDigits wsX2_empty := goodIn_r _ [6, 1, 12, 13] (by decide +kernel) (by decide +kernel)
set_option maxRecDepth 20000 in
theorem gX2_takeDigits_X2_empty : GoodIn wsX2_takeDigits (wsV RX2 51 RX2 yX2_empty wsX2_empty) := goodIn_app (goodIn_of _ (by decide +kernel)) ggX2_takeDigits_X2_empty
set_option maxRecDepth 20000 in
theorem ggX2_takeDigits_X2_add : GoodIn wsX2_takeDigits wsX2_add := goodIn_r _ [10, 1, 11, 12, 13] (by decide +kernel) (by decide +kernel)
set_option maxRecDepth 20000 in
theorem gX2_takeDigits_X2_add : GoodIn wsX2_takeDigits (wsV RX2 54 RX2 yX2_add wsX2_add) := goodIn_app (goodIn_of _ (by decide +kernel)) ggX2_takeDigits_X2_add
theorem dX2_takeDigits_0 : decode cX2_takeDigits 0 = .ok (.aload_n 0, 1) := by decide +kernel
theorem dX2_takeDigits_1 : decode cX2_takeDigits 1 = .ok (.invokevirtual 51, 3) := by decide +kernel
theorem dX2_takeDigits_4 : decode cX2_takeDigits 4 = .ok (.iconst 0, 1) := by decide +kernel
theorem dX2_takeDigits_5 : decode cX2_takeDigits 5 = .ok (.istore_n 2, 1) := by decide +kernel
theorem dX2_takeDigits_6 : decode cX2_takeDigits 6 = .ok (.iload_n 1, 1) := by decide +kernel
theorem dX2_takeDigits_7 : decode cX2_takeDigits 7 = .ok (.istore_n 3, 1) := by decide +kernel
theorem dX2_takeDigits_8 : decode cX2_takeDigits 8 = .ok (.iconst 0, 1) := by decide +kernel
theorem dX2_takeDigits_9 : decode cX2_takeDigits 9 = .ok (.istore 4, 2) := by decide +kernel
theorem dX2_takeDigits_11 : decode cX2_takeDigits 11 = .ok (.iload 4, 2) := by decide +kernel
theorem dX2_takeDigits_13 : decode cX2_takeDigits 13 = .ok (.iconst 4, 1) := by decide +kernel
theorem dX2_takeDigits_14 : decode cX2_takeDigits 14 = .ok (.if_icmp .ge 63, 3) := by decide +kernel
theorem dX2_takeDigits_17 : decode cX2_takeDigits 17 = .ok (.iload_n 3, 1) := by decide +kernel
theorem dX2_takeDigits_18 : decode cX2_takeDigits 18 = .ok (.sipush 1000, 3) := by decide +kernel
theorem dX2_takeDigits_21 : decode cX2_takeDigits 21 = .ok (.idiv, 1) := by decide +kernel
theorem dX2_takeDigits_22 : decode cX2_takeDigits 22 = .ok (.bipush 10, 2) := by decide +kernel
theorem dX2_takeDigits_24 : decode cX2_takeDigits 24 = .ok (.irem, 1) := by decide +kernel
theorem dX2_takeDigits_25 : decode cX2_takeDigits 25 = .ok (.istore 5, 2) := by decide +kernel
theorem dX2_takeDigits_27 : decode cX2_takeDigits 27 = .ok (.iload_n 3, 1) := by decide +kernel
theorem dX2_takeDigits_28 : decode cX2_takeDigits 28 = .ok (.bipush 10, 2) := by decide +kernel
theorem dX2_takeDigits_30 : decode cX2_takeDigits 30 = .ok (.imul, 1) := by decide +kernel
theorem dX2_takeDigits_31 : decode cX2_takeDigits 31 = .ok (.istore_n 3, 1) := by decide +kernel
theorem dX2_takeDigits_32 : decode cX2_takeDigits 32 = .ok (.iload 5, 2) := by decide +kernel
theorem dX2_takeDigits_34 : decode cX2_takeDigits 34 = .ok (.bipush 8, 2) := by decide +kernel
theorem dX2_takeDigits_36 : decode cX2_takeDigits 36 = .ok (.if_icmp .gt 12, 3) := by decide +kernel
theorem dX2_takeDigits_39 : decode cX2_takeDigits 39 = .ok (.iload 5, 2) := by decide +kernel
theorem dX2_takeDigits_41 : decode cX2_takeDigits 41 = .ok (.ifCond .eq 9, 3) := by decide +kernel
theorem dX2_takeDigits_44 : decode cX2_takeDigits 44 = .ok (.iload_n 2, 1) := by decide +kernel
theorem dX2_takeDigits_45 : decode cX2_takeDigits 45 = .ok (.ifCond .eq 5, 3) := by decide +kernel
theorem dX2_takeDigits_48 : decode cX2_takeDigits 48 = .ok (.iconst 0, 1) := by decide +kernel
theorem dX2_takeDigits_49 : decode cX2_takeDigits 49 = .ok (.ireturn, 1) := by decide +kernel
theorem dX2_takeDigits_50 : decode cX2_takeDigits 50 = .ok (.iload 5, 2) := by decide +kernel
theorem dX2_takeDigits_52 : decode cX2_takeDigits 52 = .ok (.ifCond .ne 8, 3) := by decide +kernel
theorem dX2_takeDigits_55 : decode cX2_takeDigits 55 = .ok (.iconst 1, 1) := by decide +kernel
theorem dX2_takeDigits_56 : decode cX2_takeDigits 56 = .ok (.istore_n 2, 1) := by decide +kernel
theorem dX2_takeDigits_57 : decode cX2_takeDigits 57 = .ok (.goto 14, 3) := by decide +kernel
theorem dX2_takeDigits_60 : decode cX2_takeDigits 60 = .ok (.aload_n 0, 1) := by decide +kernel
theorem dX2_takeDigits_61 : decode cX2_takeDigits 61 = .ok (.bipush 97, 2) := by decide +kernel
theorem dX2_takeDigits_63 : decode cX2_takeDigits 63 = .ok (.iload 5, 2) := by decide +kernel
theorem dX2_takeDigits_65 : decode cX2_takeDigits 65 = .ok (.iadd, 1) := by decide +kernel
theorem dX2_takeDigits_66 : decode cX2_takeDigits 66 = .ok (.iconst 1, 1) := by decide +kernel
theorem dX2_takeDigits_67 : decode cX2_takeDigits 67 = .ok (.isub, 1) := by decide +kernel
theorem dX2_takeDigits_68 : decode cX2_takeDigits 68 = .ok (.invokevirtual 54, 3) := by decide +kernel
theorem dX2_takeDigits_71 : decode cX2_takeDigits 71 = .ok (.iinc 4 1, 3) := by decide +kernel
theorem dX2_takeDigits_74 : decode cX2_takeDigits 74 = .ok (.goto (-63), 3) := by decide +kernel
theorem dX2_takeDigits_77 : decode cX2_takeDigits 77 = .ok (.aload_n 0, 1) := by decide +kernel
theorem dX2_takeDigits_78 : decode cX2_takeDigits 78 = .ok (.getfield 9, 3) := by decide +kernel
theorem dX2_takeDigits_81 : decode cX2_takeDigits 81 = .ok (.ifCond .le 7, 3) := by decide +kernel
theorem dX2_takeDigits_84 : decode cX2_takeDigits 84 = .ok (.iconst 1, 1) := by decide +kernel
theorem dX2_takeDigits_85 : decode cX2_takeDigits 85 = .ok (.goto 4, 3) := by decide +kernel
theorem dX2_takeDigits_88 : decode cX2_takeDigits 88 = .ok (.iconst 0, 1) := by decide +kernel
theorem dX2_takeDigits_89 : decode cX2_takeDigits 89 = .ok (.ireturn, 1) := by decide +kernel
