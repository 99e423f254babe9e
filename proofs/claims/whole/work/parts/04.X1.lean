theorem dX1_init_0 : decode cX1_init 0 = .ok (.aload_n 0, 1) := by decide +kernel
theorem dX1_init_1 : decode cX1_init 1 = .ok (.invokespecial 3, 3) := by decide +kernel
theorem dX1_init_4 : decode cX1_init 4 = .ok (.aload_n 0, 1) := by decide +kernel
theorem dX1_init_5 : decode cX1_init 5 = .ok (.bipush 14, 2) := by decide +kernel
theorem dX1_init_7 : decode cX1_init 7 = .ok (.anewarray 9, 3) := by decide +kernel
theorem dX1_init_10 : decode cX1_init 10 = .ok (.putfield 11, 3) := by decide +kernel
theorem dX1_init_13 : decode cX1_init 13 = .ok (.aload_n 0, 1) := by decide +kernel
theorem dX1_init_14 : decode cX1_init 14 = .ok (.iconst 0, 1) := by decide +kernel
theorem dX1_init_15 : decode cX1_init 15 = .ok (.putfield 17, 3) := by decide +kernel
theorem dX1_init_18 : decode cX1_init 18 = .ok (.aload_n 0, 1) := by decide +kernel
theorem dX1_init_19 : decode cX1_init 19 = .ok (.iconst 0, 1) := by decide +kernel
theorem dX1_init_20 : decode cX1_init 20 = .ok (.putfield 21, 3) := by decide +kernel
theorem dX1_init_23 : decode cX1_init 23 = .ok (.return_, 1) := by decide +kernel
theorem dX1_empty_0 : decode cX1_empty 0 = .ok (.aload_n 0, 1) := by decide +kernel
theorem dX1_empty_1 : decode cX1_empty 1 = .ok (.iconst 0, 1) := by decide +kernel
theorem dX1_empty_2 : decode cX1_empty 2 = .ok (.putfield 21, 3) := by decide +kernel
theorem dX1_empty_5 : decode cX1_empty 5 = .ok (.return_, 1) := by decide +kernel
set_option maxRecDepth 20000 in
theorem ggX1_remember_X4_init : GoodIn wsX1_remember wsX4_init := goodIn_r _ [8, 9, 10, 11, 12, 13, 14, 15, 16, 17, 18, 19, 20, 39, 40, 41, 42, 43, 44, 45, 46] (by decide +kernel) (by decide +kernel)
set_option maxRecDepth 20000 in
theorem gX1_remember_X4_init_n24 : GoodIn wsX1_remember (wsX4_init) := ggX1_remember_X4_init
set_option maxRecDepth 20000 in
theorem ggX1_remember_X4_copyFrom : GoodIn wsX1_remember wsX4_copyFrom := goodIn_r _ [24, 13, 14, 15, 16, 17, 18, 19, 20, 25, 26, 27, 28, 29, 30, 31, 32, 33, 34, 35, 39, 40, 41, 42, 43, 44, 45, 46] (by decide +kernel) (by decide +kernel)
set_option maxRecDepth 20000 in
theorem gX1_remember_X4_copyFrom : GoodIn wsX1_remember (wsV RX1 25 RX4 yX4_copyFrom wsX4_copyFrom) := goodIn_app (goodIn_of _ (by decide +kernel)) ggX1_remember_X4_copyFrom
theorem dX1_remember_0 : decode cX1_remember 0 = .ok (.aload_n 0, 1) := by decide +kernel
theorem dX1_remember_1 : decode cX1_remember 1 = .ok (.getfield 17, 3) := by decide +kernel
theorem dX1_remember_4 : decode cX1_remember 4 = .ok (.aload_n 0, 1) := by decide +kernel
theorem dX1_remember_5 : decode cX1_remember 5 = .ok (.getfield 21, 3) := by decide +kernel
theorem dX1_remember_8 : decode cX1_remember 8 = .ok (.iadd, 1) := by decide +kernel
theorem dX1_remember_9 : decode cX1_remember 9 = .ok (.bipush 14, 2) := by decide +kernel
theorem dX1_remember_11 : decode cX1_remember 11 = .ok (.irem, 1) := by decide +kernel
theorem dX1_remember_12 : decode cX1_remember 12 = .ok (.istore_n 2, 1) := by decide +kernel
theorem dX1_remember_13 : decode cX1_remember 13 = .ok (.iload_n 2, 1) := by decide +kernel
theorem dX1_remember_14 : decode cX1_remember 14 = .ok (.ifCond .lt 12, 3) := by decide +kernel
theorem dX1_remember_17 : decode cX1_remember 17 = .ok (.iload_n 2, 1) := by decide +kernel
theorem dX1_remember_18 : decode cX1_remember 18 = .ok (.aload_n 0, 1) := by decide +kernel
theorem dX1_remember_19 : decode cX1_remember 19 = .ok (.getfield 11, 3) := by decide +kernel
theorem dX1_remember_22 : decode cX1_remember 22 = .ok (.arraylength, 1) := by decide +kernel
theorem dX1_remember_23 : decode cX1_remember 23 = .ok (.if_icmp .lt 4, 3) := by decide +kernel
theorem dX1_remember_26 : decode cX1_remember 26 = .ok (.return_, 1) := by decide +kernel
theorem dX1_remember_27 : decode cX1_remember 27 = .ok (.aload_n 0, 1) := by decide +kernel
theorem dX1_remember_28 : decode cX1_remember 28 = .ok (.getfield 11, 3) := by decide +kernel
theorem dX1_remember_31 : decode cX1_remember 31 = .ok (.iload_n 2, 1) := by decide +kernel
theorem dX1_remember_32 : decode cX1_remember 32 = .ok (.aaload, 1) := by decide +kernel
theorem dX1_remember_33 : decode cX1_remember 33 = .ok (.ifnonnull 16, 3) := by decide +kernel
theorem dX1_remember_36 : decode cX1_remember 36 = .ok (.aload_n 0, 1) := by decide +kernel
theorem dX1_remember_37 : decode cX1_remember 37 = .ok (.getfield 11, 3) := by decide +kernel
theorem dX1_remember_40 : decode cX1_remember 40 = .ok (.iload_n 2, 1) := by decide +kernel
theorem dX1_remember_41 : decode cX1_remember 41 = .ok (.new 9, 3) := by decide +kernel
theorem dX1_remember_44 : decode cX1_remember 44 = .ok (.dup, 1) := by decide +kernel
theorem dX1_remember_45 : decode cX1_remember 45 = .ok (.invokespecial 24, 3) := by decide +kernel
theorem dX1_remember_48 : decode cX1_remember 48 = .ok (.aastore, 1) := by decide +kernel
theorem dX1_remember_49 : decode cX1_remember 49 = .ok (.aload_n 0, 1) := by decide +kernel
theorem dX1_remember_50 : decode cX1_remember 50 = .ok (.getfield 11, 3) := by decide +kernel
theorem dX1_remember_53 : decode cX1_remember 53 = .ok (.iload_n 2, 1) := by decide +kernel
theorem dX1_remember_54 : decode cX1_remember 54 = .ok (.aaload, 1) := by decide +kernel
theorem dX1_remember_55 : decode cX1_remember 55 = .ok (.aload_n 1, 1) := by decide +kernel
theorem dX1_remember_56 : decode cX1_remember 56 = .ok (.invokevirtual 25, 3) := by decide +kernel
theorem dX1_remember_59 : decode cX1_remember 59 = .ok (.aload_n 0, 1) := by decide +kernel
theorem dX1_remember_60 : decode cX1_remember 60 = .ok (.getfield 21, 3) := by decide +kernel
theorem dX1_remember_63 : decode cX1_remember 63 = .ok (.bipush 14, 2) := by decide +kernel
theorem dX1_remember_65 : decode cX1_remember 65 = .ok (.if_icmp .ge 16, 3) := by decide +kernel
theorem dX1_remember_68 : decode cX1_remember 68 = .ok (.aload_n 0, 1) := by decide +kernel
theorem dX1_remember_69 : decode cX1_remember 69 = .ok (.dup, 1) := by decide +kernel
theorem dX1_remember_70 : decode cX1_remember 70 = .ok (.getfield 21, 3) := by decide +kernel
theorem dX1_remember_73 : decode cX1_remember 73 = .ok (.iconst 1, 1) := by decide +kernel
theorem dX1_remember_74 : decode cX1_remember 74 = .ok (.iadd, 1) := by decide +kernel
theorem dX1_remember_75 : decode cX1_remember 75 = .ok (.putfield 21, 3) := by decide +kernel
theorem dX1_remember_78 : decode cX1_remember 78 = .ok (.goto 16, 3) := by decide +kernel
theorem dX1_remember_81 : decode cX1_remember 81 = .ok (.aload_n 0, 1) := by decide +kernel
theorem dX1_remember_82 : decode cX1_remember 82 = .ok (.aload_n 0, 1) := by decide +kernel
theorem dX1_remember_83 : decode cX1_remember 83 = .ok (.getfield 17, 3) := by decide +kernel
theorem dX1_remember_86 : decode cX1_remember 86 = .ok (.iconst 1, 1) := by decide +kernel
theorem dX1_remember_87 : decode cX1_remember 87 = .ok (.iadd, 1) := by decide +kernel
theorem dX1_remember_88 : decode cX1_remember 88 = .ok (.bipush 14, 2) := by decide +kernel
theorem dX1_remember_90 : decode cX1_remember 90 = .ok (.irem, 1) := by decide +kernel
theorem dX1_remember_91 : decode cX1_remember 91 = .ok (.putfield 17, 3) := by decide +kernel
theorem dX1_remember_94 : decode cX1_remember 94 = .ok (.return_, 1) := by decide +kernel
theorem dX1_takeLast_0 : decode cX1_takeLast 0 = .ok (.aload_n 0, 1) := by decide +kernel
theorem dX1_takeLast_1 : decode cX1_takeLast 1 = .ok (.getfield 21, 3) := by decide +kernel
theorem dX1_takeLast_4 : decode cX1_takeLast 4 = .ok (.ifCond .ne 5, 3) := by decide +kernel
theorem dX1_takeLast_7 : decode cX1_takeLast 7 = .ok (.aconst_null, 1) := by decide +kernel
theorem dX1_takeLast_8 : decode cX1_takeLast 8 = .ok (.areturn, 1) := by decide +kernel
theorem dX1_takeLast_9 : decode cX1_takeLast 9 = .ok (.aload_n 0, 1) := by decide +kernel
theorem dX1_takeLast_10 : decode cX1_takeLast 10 = .ok (.dup, 1) := by decide +kernel
theorem dX1_takeLast_11 : decode cX1_takeLast 11 = .ok (.getfield 21, 3) := by decide +kernel
theorem dX1_takeLast_14 : decode cX1_takeLast 14 = .ok (.iconst 1, 1) := by decide +kernel
theorem dX1_takeLast_15 : decode cX1_takeLast 15 = .ok (.isub, 1) := by decide +kernel
theorem dX1_takeLast_16 : decode cX1_takeLast 16 = .ok (.putfield 21, 3) := by decide +kernel
theorem dX1_takeLast_19 : decode cX1_takeLast 19 = .ok (.aload_n 0, 1) := by decide +kernel
theorem dX1_takeLast_20 : decode cX1_takeLast 20 = .ok (.getfield 17, 3) := by decide +kernel
theorem dX1_takeLast_23 : decode cX1_takeLast 23 = .ok (.aload_n 0, 1) := by decide +kernel
theorem dX1_takeLast_24 : decode cX1_takeLast 24 = .ok (.getfield 21, 3) := by decide +kernel
theorem dX1_takeLast_27 : decode cX1_takeLast 27 = .ok (.iadd, 1) := by decide +kernel
theorem dX1_takeLast_28 : decode cX1_takeLast 28 = .ok (.bipush 14, 2) := by decide +kernel
theorem dX1_takeLast_30 : decode cX1_takeLast 30 = .ok (.irem, 1) := by decide +kernel
theorem dX1_takeLast_31 : decode cX1_takeLast 31 = .ok (.istore_n 1, 1) := by decide +kernel
theorem dX1_takeLast_32 : decode cX1_takeLast 32 = .ok (.iload_n 1, 1) := by decide +kernel
theorem dX1_takeLast_33 : decode cX1_takeLast 33 = .ok (.ifCond .lt 21, 3) := by decide +kernel
theorem dX1_takeLast_36 : decode cX1_takeLast 36 = .ok (.iload_n 1, 1) := by decide +kernel
theorem dX1_takeLast_37 : decode cX1_takeLast 37 = .ok (.aload_n 0, 1) := by decide +kernel
theorem dX1_takeLast_38 : decode cX1_takeLast 38 = .ok (.getfield 11, 3) := by decide +kernel
theorem dX1_takeLast_41 : decode cX1_takeLast 41 = .ok (.arraylength, 1) := by decide +kernel
theorem dX1_takeLast_42 : decode cX1_takeLast 42 = .ok (.if_icmp .ge 12, 3) := by decide +kernel
theorem dX1_takeLast_45 : decode cX1_takeLast 45 = .ok (.aload_n 0, 1) := by decide +kernel
theorem dX1_takeLast_46 : decode cX1_takeLast 46 = .ok (.getfield 11, 3) := by decide +kernel
theorem dX1_takeLast_49 : decode cX1_takeLast 49 = .ok (.iload_n 1, 1) := by decide +kernel
theorem dX1_takeLast_50 : decode cX1_takeLast 50 = .ok (.aaload, 1) := by decide +kernel
theorem dX1_takeLast_51 : decode cX1_takeLast 51 = .ok (.goto 4, 3) := by decide +kernel
theorem dX1_takeLast_54 : decode cX1_takeLast 54 = .ok (.aconst_null, 1) := by decide +kernel
theorem dX1_takeLast_55 : decode cX1_takeLast 55 = .ok (.areturn, 1) := by decide +kernel
