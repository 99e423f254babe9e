theorem dX3_init_0 : decode cX3_init 0 = .ok (.aload_n 0, 1) := by decide +kernel
theorem dX3_init_1 : decode cX3_init 1 = .ok (.invokespecial 3, 3) := by decide +kernel
theorem dX3_init_4 : decode cX3_init 4 = .ok (.aload_n 0, 1) := by decide +kernel
theorem dX3_init_5 : decode cX3_init 5 = .ok (.iconst 0, 1) := by decide +kernel
theorem dX3_init_6 : decode cX3_init 6 = .ok (.putfield 9, 3) := by decide +kernel
theorem dX3_init_9 : decode cX3_init 9 = .ok (.aload_n 0, 1) := by decide +kernel
theorem dX3_init_10 : decode cX3_init 10 = .ok (.bipush 48, 2) := by decide +kernel
theorem dX3_init_12 : decode cX3_init 12 = .ok (.newarray .int, 2) := by decide +kernel
theorem dX3_init_14 : decode cX3_init 14 = .ok (.putfield 15, 3) := by decide +kernel
theorem dX3_init_17 : decode cX3_init 17 = .ok (.aload_n 0, 1) := by decide +kernel
theorem dX3_init_18 : decode cX3_init 18 = .ok (.bipush 48, 2) := by decide +kernel
theorem dX3_init_20 : decode cX3_init 20 = .ok (.newarray .int, 2) := by decide +kernel
theorem dX3_init_22 : decode cX3_init 22 = .ok (.putfield 19, 3) := by decide +kernel
theorem dX3_init_25 : decode cX3_init 25 = .ok (.aload_n 0, 1) := by decide +kernel
theorem dX3_init_26 : decode cX3_init 26 = .ok (.bipush 48, 2) := by decide +kernel
theorem dX3_init_28 : decode cX3_init 28 = .ok (.newarray .int, 2) := by decide +kernel
theorem dX3_init_30 : decode cX3_init 30 = .ok (.putfield 22, 3) := by decide +kernel
theorem dX3_init_33 : decode cX3_init 33 = .ok (.aload_n 0, 1) := by decide +kernel
theorem dX3_init_34 : decode cX3_init 34 = .ok (.bipush 48, 2) := by decide +kernel
theorem dX3_init_36 : decode cX3_init 36 = .ok (.newarray .int, 2) := by decide +kernel
theorem dX3_init_38 : decode cX3_init 38 = .ok (.putfield 25, 3) := by decide +kernel
theorem dX3_init_41 : decode cX3_init 41 = .ok (.aload_n 0, 1) := by decide +kernel
theorem dX3_init_42 : decode cX3_init 42 = .ok (.bipush 49, 2) := by decide +kernel
theorem dX3_init_44 : decode cX3_init 44 = .ok (.newarray .int, 2) := by decide +kernel
theorem dX3_init_46 : decode cX3_init 46 = .ok (.putfield 28, 3) := by decide +kernel
theorem dX3_init_49 : decode cX3_init 49 = .ok (.return_, 1) := by decide +kernel
set_option maxRecDepth 20000 in
theorem ggX3_copyFrom_X5_copyRow : GoodIn wsX3_copyFrom wsX5_copyRow := goodIn_r _ [8, 9, 10, 11, 12, 13, 14, 15, 16] (by decide +kernel) (by decide +kernel)
set_option maxRecDepth 20000 in
theorem gX3_copyFrom_X5_copyRow_n31 : GoodIn wsX3_copyFrom (wsX5_copyRow) := ggX3_copyFrom_X5_copyRow
theorem dX3_copyFrom_0 : decode cX3_copyFrom 0 = .ok (.aload_n 0, 1) := by decide +kernel
theorem dX3_copyFrom_1 : decode cX3_copyFrom 1 = .ok (.aload_n 1, 1) := by decide +kernel
theorem dX3_copyFrom_2 : decode cX3_copyFrom 2 = .ok (.getfield 9, 3) := by decide +kernel
theorem dX3_copyFrom_5 : decode cX3_copyFrom 5 = .ok (.putfield 9, 3) := by decide +kernel
theorem dX3_copyFrom_8 : decode cX3_copyFrom 8 = .ok (.aload_n 1, 1) := by decide +kernel
theorem dX3_copyFrom_9 : decode cX3_copyFrom 9 = .ok (.getfield 15, 3) := by decide +kernel
theorem dX3_copyFrom_12 : decode cX3_copyFrom 12 = .ok (.aload_n 0, 1) := by decide +kernel
theorem dX3_copyFrom_13 : decode cX3_copyFrom 13 = .ok (.getfield 15, 3) := by decide +kernel
theorem dX3_copyFrom_16 : decode cX3_copyFrom 16 = .ok (.invokestatic 31, 3) := by decide +kernel
theorem dX3_copyFrom_19 : decode cX3_copyFrom 19 = .ok (.aload_n 1, 1) := by decide +kernel
theorem dX3_copyFrom_20 : decode cX3_copyFrom 20 = .ok (.getfield 19, 3) := by decide +kernel
theorem dX3_copyFrom_23 : decode cX3_copyFrom 23 = .ok (.aload_n 0, 1) := by decide +kernel
theorem dX3_copyFrom_24 : decode cX3_copyFrom 24 = .ok (.getfield 19, 3) := by decide +kernel
theorem dX3_copyFrom_27 : decode cX3_copyFrom 27 = .ok (.invokestatic 31, 3) := by decide +kernel
theorem dX3_copyFrom_30 : decode cX3_copyFrom 30 = .ok (.aload_n 1, 1) := by decide +kernel
theorem dX3_copyFrom_31 : decode cX3_copyFrom 31 = .ok (.getfield 22, 3) := by decide +kernel
theorem dX3_copyFrom_34 : decode cX3_copyFrom 34 = .ok (.aload_n 0, 1) := by decide +kernel
theorem dX3_copyFrom_35 : decode cX3_copyFrom 35 = .ok (.getfield 22, 3) := by decide +kernel
theorem dX3_copyFrom_38 : decode cX3_copyFrom 38 = .ok (.invokestatic 31, 3) := by decide +kernel
theorem dX3_copyFrom_41 : decode cX3_copyFrom 41 = .ok (.aload_n 1, 1) := by decide +kernel
theorem dX3_copyFrom_42 : decode cX3_copyFrom 42 = .ok (.getfield 25, 3) := by decide +kernel
theorem dX3_copyFrom_45 : decode cX3_copyFrom 45 = .ok (.aload_n 0, 1) := by decide +kernel
theorem dX3_copyFrom_46 : decode cX3_copyFrom 46 = .ok (.getfield 25, 3) := by decide +kernel
theorem dX3_copyFrom_49 : decode cX3_copyFrom 49 = .ok (.invokestatic 31, 3) := by decide +kernel
theorem dX3_copyFrom_52 : decode cX3_copyFrom 52 = .ok (.return_, 1) := by decide +kernel
set_option maxRecDepth 20000 in
theorem ggX3_arrange_X3_compareWithLater : GoodIn wsX3_arrange wsX3_compareWithLater := goodIn_r _ [19, 9, 13, 12, 6, 7, 4, 8, 10, 11, 28, 29, 30, 31, 32, 33] (by decide +kernel) (by decide +kernel)
set_option maxRecDepth 20000 in
theorem gX3_arrange_X3_compareWithLater : GoodIn wsX3_arrange (wsV RX3 50 RX3 yX3_compareWithLater wsX3_compareWithLater) := goodIn_app (goodIn_of _ (by decide +kernel)) ggX3_arrange_X3_compareWithLater
theorem dX3_arrange_0 : decode cX3_arrange 0 = .ok (.aload_n 0, 1) := by decide +kernel
theorem dX3_arrange_1 : decode cX3_arrange 1 = .ok (.iconst 0, 1) := by decide +kernel
theorem dX3_arrange_2 : decode cX3_arrange 2 = .ok (.aload_n 1, 1) := by decide +kernel
theorem dX3_arrange_3 : decode cX3_arrange 3 = .ok (.getfield 35, 3) := by decide +kernel
theorem dX3_arrange_6 : decode cX3_arrange 6 = .ok (.bipush 48, 2) := by decide +kernel
theorem dX3_arrange_8 : decode cX3_arrange 8 = .ok (.invokestatic 38, 3) := by decide +kernel
theorem dX3_arrange_11 : decode cX3_arrange 11 = .ok (.invokestatic 44, 3) := by decide +kernel
theorem dX3_arrange_14 : decode cX3_arrange 14 = .ok (.putfield 9, 3) := by decide +kernel
theorem dX3_arrange_17 : decode cX3_arrange 17 = .ok (.iconst 0, 1) := by decide +kernel
theorem dX3_arrange_18 : decode cX3_arrange 18 = .ok (.istore_n 2, 1) := by decide +kernel
theorem dX3_arrange_19 : decode cX3_arrange 19 = .ok (.iload_n 2, 1) := by decide +kernel
theorem dX3_arrange_20 : decode cX3_arrange 20 = .ok (.aload_n 0, 1) := by decide +kernel
theorem dX3_arrange_21 : decode cX3_arrange 21 = .ok (.getfield 9, 3) := by decide +kernel
theorem dX3_arrange_24 : decode cX3_arrange 24 = .ok (.if_icmp .ge 30, 3) := by decide +kernel
theorem dX3_arrange_27 : decode cX3_arrange 27 = .ok (.aload_n 0, 1) := by decide +kernel
theorem dX3_arrange_28 : decode cX3_arrange 28 = .ok (.getfield 15, 3) := by decide +kernel
theorem dX3_arrange_31 : decode cX3_arrange 31 = .ok (.iload_n 2, 1) := by decide +kernel
theorem dX3_arrange_32 : decode cX3_arrange 32 = .ok (.iconst 0, 1) := by decide +kernel
theorem dX3_arrange_33 : decode cX3_arrange 33 = .ok (.iastore, 1) := by decide +kernel
theorem dX3_arrange_34 : decode cX3_arrange 34 = .ok (.aload_n 0, 1) := by decide +kernel
theorem dX3_arrange_35 : decode cX3_arrange 35 = .ok (.getfield 22, 3) := by decide +kernel
theorem dX3_arrange_38 : decode cX3_arrange 38 = .ok (.iload_n 2, 1) := by decide +kernel
theorem dX3_arrange_39 : decode cX3_arrange 39 = .ok (.iconst 0, 1) := by decide +kernel
theorem dX3_arrange_40 : decode cX3_arrange 40 = .ok (.iastore, 1) := by decide +kernel
theorem dX3_arrange_41 : decode cX3_arrange 41 = .ok (.aload_n 0, 1) := by decide +kernel
theorem dX3_arrange_42 : decode cX3_arrange 42 = .ok (.getfield 25, 3) := by decide +kernel
theorem dX3_arrange_45 : decode cX3_arrange 45 = .ok (.iload_n 2, 1) := by decide +kernel
theorem dX3_arrange_46 : decode cX3_arrange 46 = .ok (.iconst 0, 1) := by decide +kernel
theorem dX3_arrange_47 : decode cX3_arrange 47 = .ok (.iastore, 1) := by decide +kernel
theorem dX3_arrange_48 : decode cX3_arrange 48 = .ok (.iinc 2 1, 3) := by decide +kernel
theorem dX3_arrange_51 : decode cX3_arrange 51 = .ok (.goto (-32), 3) := by decide +kernel
theorem dX3_arrange_54 : decode cX3_arrange 54 = .ok (.aload_n 0, 1) := by decide +kernel
theorem dX3_arrange_55 : decode cX3_arrange 55 = .ok (.getfield 28, 3) := by decide +kernel
theorem dX3_arrange_58 : decode cX3_arrange 58 = .ok (.aload_n 0, 1) := by decide +kernel
theorem dX3_arrange_59 : decode cX3_arrange 59 = .ok (.getfield 9, 3) := by decide +kernel
theorem dX3_arrange_62 : decode cX3_arrange 62 = .ok (.iconst 0, 1) := by decide +kernel
theorem dX3_arrange_63 : decode cX3_arrange 63 = .ok (.iastore, 1) := by decide +kernel
theorem dX3_arrange_64 : decode cX3_arrange 64 = .ok (.aload_n 0, 1) := by decide +kernel
theorem dX3_arrange_65 : decode cX3_arrange 65 = .ok (.getfield 9, 3) := by decide +kernel
theorem dX3_arrange_68 : decode cX3_arrange 68 = .ok (.iconst 1, 1) := by decide +kernel
theorem dX3_arrange_69 : decode cX3_arrange 69 = .ok (.isub, 1) := by decide +kernel
theorem dX3_arrange_70 : decode cX3_arrange 70 = .ok (.istore_n 2, 1) := by decide +kernel
theorem dX3_arrange_71 : decode cX3_arrange 71 = .ok (.iload_n 2, 1) := by decide +kernel
theorem dX3_arrange_72 : decode cX3_arrange 72 = .ok (.ifCond .lt 18, 3) := by decide +kernel
theorem dX3_arrange_75 : decode cX3_arrange 75 = .ok (.aload_n 0, 1) := by decide +kernel
theorem dX3_arrange_76 : decode cX3_arrange 76 = .ok (.aload_n 1, 1) := by decide +kernel
theorem dX3_arrange_77 : decode cX3_arrange 77 = .ok (.getfield 47, 3) := by decide +kernel
theorem dX3_arrange_80 : decode cX3_arrange 80 = .ok (.iload_n 2, 1) := by decide +kernel
theorem dX3_arrange_81 : decode cX3_arrange 81 = .ok (.invokevirtual 50, 3) := by decide +kernel
theorem dX3_arrange_84 : decode cX3_arrange 84 = .ok (.iinc 2 (-1), 3) := by decide +kernel
theorem dX3_arrange_87 : decode cX3_arrange 87 = .ok (.goto (-16), 3) := by decide +kernel
theorem dX3_arrange_90 : decode cX3_arrange 90 = .ok (.iconst 0, 1) := by decide +kernel
theorem dX3_arrange_91 : decode cX3_arrange 91 = .ok (.istore_n 2, 1) := by decide +kernel
theorem dX3_arrange_92 : decode cX3_arrange 92 = .ok (.iload_n 2, 1) := by decide +kernel
theorem dX3_arrange_93 : decode cX3_arrange 93 = .ok (.aload_n 0, 1) := by decide +kernel
theorem dX3_arrange_94 : decode cX3_arrange 94 = .ok (.getfield 9, 3) := by decide +kernel
theorem dX3_arrange_97 : decode cX3_arrange 97 = .ok (.if_icmp .ge 44, 3) := by decide +kernel
theorem dX3_arrange_100 : decode cX3_arrange 100 = .ok (.aload_n 0, 1) := by decide +kernel
theorem dX3_arrange_101 : decode cX3_arrange 101 = .ok (.getfield 15, 3) := by decide +kernel
theorem dX3_arrange_104 : decode cX3_arrange 104 = .ok (.iload_n 2, 1) := by decide +kernel
theorem dX3_arrange_105 : decode cX3_arrange 105 = .ok (.iaload, 1) := by decide +kernel
theorem dX3_arrange_106 : decode cX3_arrange 106 = .ok (.ifCond .lt 29, 3) := by decide +kernel
theorem dX3_arrange_109 : decode cX3_arrange 109 = .ok (.aload_n 0, 1) := by decide +kernel
theorem dX3_arrange_110 : decode cX3_arrange 110 = .ok (.getfield 15, 3) := by decide +kernel
theorem dX3_arrange_113 : decode cX3_arrange 113 = .ok (.iload_n 2, 1) := by decide +kernel
theorem dX3_arrange_114 : decode cX3_arrange 114 = .ok (.iaload, 1) := by decide +kernel
theorem dX3_arrange_115 : decode cX3_arrange 115 = .ok (.aload_n 0, 1) := by decide +kernel
theorem dX3_arrange_116 : decode cX3_arrange 116 = .ok (.getfield 19, 3) := by decide +kernel
theorem dX3_arrange_119 : decode cX3_arrange 119 = .ok (.arraylength, 1) := by decide +kernel
theorem dX3_arrange_120 : decode cX3_arrange 120 = .ok (.if_icmp .ge 15, 3) := by decide +kernel
theorem dX3_arrange_123 : decode cX3_arrange 123 = .ok (.aload_n 0, 1) := by decide +kernel
theorem dX3_arrange_124 : decode cX3_arrange 124 = .ok (.getfield 19, 3) := by decide +kernel
theorem dX3_arrange_127 : decode cX3_arrange 127 = .ok (.aload_n 0, 1) := by decide +kernel
theorem dX3_arrange_128 : decode cX3_arrange 128 = .ok (.getfield 15, 3) := by decide +kernel
theorem dX3_arrange_131 : decode cX3_arrange 131 = .ok (.iload_n 2, 1) := by decide +kernel
theorem dX3_arrange_132 : decode cX3_arrange 132 = .ok (.iaload, 1) := by decide +kernel
theorem dX3_arrange_133 : decode cX3_arrange 133 = .ok (.iload_n 2, 1) := by decide +kernel
theorem dX3_arrange_134 : decode cX3_arrange 134 = .ok (.iastore, 1) := by decide +kernel
theorem dX3_arrange_135 : decode cX3_arrange 135 = .ok (.iinc 2 1, 3) := by decide +kernel
theorem dX3_arrange_138 : decode cX3_arrange 138 = .ok (.goto (-46), 3) := by decide +kernel
theorem dX3_arrange_141 : decode cX3_arrange 141 = .ok (.return_, 1) := by decide +kernel
theorem dX3_compareWithLater_0 : decode cX3_compareWithLater 0 = .ok (.iload_n 2, 1) := by decide +kernel
theorem dX3_compareWithLater_1 : decode cX3_compareWithLater 1 = .ok (.ifCond .lt 20, 3) := by decide +kernel
theorem dX3_compareWithLater_4 : decode cX3_compareWithLater 4 = .ok (.iload_n 2, 1) := by decide +kernel
theorem dX3_compareWithLater_5 : decode cX3_compareWithLater 5 = .ok (.aload_n 0, 1) := by decide +kernel
theorem dX3_compareWithLater_6 : decode cX3_compareWithLater 6 = .ok (.getfield 9, 3) := by decide +kernel
theorem dX3_compareWithLater_9 : decode cX3_compareWithLater 9 = .ok (.if_icmp .ge 12, 3) := by decide +kernel
theorem dX3_compareWithLater_12 : decode cX3_compareWithLater 12 = .ok (.aload_n 0, 1) := by decide +kernel
theorem dX3_compareWithLater_13 : decode cX3_compareWithLater 13 = .ok (.getfield 9, 3) := by decide +kernel
theorem dX3_compareWithLater_16 : decode cX3_compareWithLater 16 = .ok (.aload_n 1, 1) := by decide +kernel
theorem dX3_compareWithLater_17 : decode cX3_compareWithLater 17 = .ok (.arraylength, 1) := by decide +kernel
theorem dX3_compareWithLater_18 : decode cX3_compareWithLater 18 = .ok (.if_icmp .le 4, 3) := by decide +kernel
theorem dX3_compareWithLater_21 : decode cX3_compareWithLater 21 = .ok (.return_, 1) := by decide +kernel
theorem dX3_compareWithLater_22 : decode cX3_compareWithLater 22 = .ok (.iload_n 2, 1) := by decide +kernel
theorem dX3_compareWithLater_23 : decode cX3_compareWithLater 23 = .ok (.iconst 1, 1) := by decide +kernel
theorem dX3_compareWithLater_24 : decode cX3_compareWithLater 24 = .ok (.iadd, 1) := by decide +kernel
theorem dX3_compareWithLater_25 : decode cX3_compareWithLater 25 = .ok (.istore_n 3, 1) := by decide +kernel
theorem dX3_compareWithLater_26 : decode cX3_compareWithLater 26 = .ok (.iload_n 3, 1) := by decide +kernel
theorem dX3_compareWithLater_27 : decode cX3_compareWithLater 27 = .ok (.aload_n 0, 1) := by decide +kernel
theorem dX3_compareWithLater_28 : decode cX3_compareWithLater 28 = .ok (.getfield 9, 3) := by decide +kernel
theorem dX3_compareWithLater_31 : decode cX3_compareWithLater 31 = .ok (.if_icmp .ge 151, 3) := by decide +kernel
theorem dX3_compareWithLater_34 : decode cX3_compareWithLater 34 = .ok (.aload_n 1, 1) := by decide +kernel
theorem dX3_compareWithLater_35 : decode cX3_compareWithLater 35 = .ok (.iload_n 2, 1) := by decide +kernel
theorem dX3_compareWithLater_36 : decode cX3_compareWithLater 36 = .ok (.iaload, 1) := by decide +kernel
theorem dX3_compareWithLater_37 : decode cX3_compareWithLater 37 = .ok (.aload_n 1, 1) := by decide +kernel
theorem dX3_compareWithLater_38 : decode cX3_compareWithLater 38 = .ok (.iload_n 3, 1) := by decide +kernel
theorem dX3_compareWithLater_39 : decode cX3_compareWithLater 39 = .ok (.iaload, 1) := by decide +kernel
theorem dX3_compareWithLater_40 : decode cX3_compareWithLater 40 = .ok (.if_icmp .ne 16, 3) := by decide +kernel
theorem dX3_compareWithLater_43 : decode cX3_compareWithLater 43 = .ok (.aload_n 0, 1) := by decide +kernel
theorem dX3_compareWithLater_44 : decode cX3_compareWithLater 44 = .ok (.getfield 28, 3) := by decide +kernel
theorem dX3_compareWithLater_47 : decode cX3_compareWithLater 47 = .ok (.iload_n 3, 1) := by decide +kernel
theorem dX3_compareWithLater_48 : decode cX3_compareWithLater 48 = .ok (.iconst 1, 1) := by decide +kernel
theorem dX3_compareWithLater_49 : decode cX3_compareWithLater 49 = .ok (.iadd, 1) := by decide +kernel
theorem dX3_compareWithLater_50 : decode cX3_compareWithLater 50 = .ok (.iaload, 1) := by decide +kernel
theorem dX3_compareWithLater_51 : decode cX3_compareWithLater 51 = .ok (.iconst 1, 1) := by decide +kernel
theorem dX3_compareWithLater_52 : decode cX3_compareWithLater 52 = .ok (.iadd, 1) := by decide +kernel
theorem dX3_compareWithLater_53 : decode cX3_compareWithLater 53 = .ok (.goto 4, 3) := by decide +kernel
theorem dX3_compareWithLater_56 : decode cX3_compareWithLater 56 = .ok (.iconst 0, 1) := by decide +kernel
theorem dX3_compareWithLater_57 : decode cX3_compareWithLater 57 = .ok (.istore 4, 2) := by decide +kernel
theorem dX3_compareWithLater_59 : decode cX3_compareWithLater 59 = .ok (.aload_n 0, 1) := by decide +kernel
theorem dX3_compareWithLater_60 : decode cX3_compareWithLater 60 = .ok (.getfield 28, 3) := by decide +kernel
theorem dX3_compareWithLater_63 : decode cX3_compareWithLater 63 = .ok (.iload_n 3, 1) := by decide +kernel
theorem dX3_compareWithLater_64 : decode cX3_compareWithLater 64 = .ok (.iload 4, 2) := by decide +kernel
theorem dX3_compareWithLater_66 : decode cX3_compareWithLater 66 = .ok (.iastore, 1) := by decide +kernel
theorem dX3_compareWithLater_67 : decode cX3_compareWithLater 67 = .ok (.aload_n 0, 1) := by decide +kernel
theorem dX3_compareWithLater_68 : decode cX3_compareWithLater 68 = .ok (.getfield 25, 3) := by decide +kernel
theorem dX3_compareWithLater_71 : decode cX3_compareWithLater 71 = .ok (.iload_n 2, 1) := by decide +kernel
theorem dX3_compareWithLater_72 : decode cX3_compareWithLater 72 = .ok (.aload_n 0, 1) := by decide +kernel
theorem dX3_compareWithLater_73 : decode cX3_compareWithLater 73 = .ok (.getfield 25, 3) := by decide +kernel
theorem dX3_compareWithLater_76 : decode cX3_compareWithLater 76 = .ok (.iload_n 2, 1) := by decide +kernel
theorem dX3_compareWithLater_77 : decode cX3_compareWithLater 77 = .ok (.iaload, 1) := by decide +kernel
theorem dX3_compareWithLater_78 : decode cX3_compareWithLater 78 = .ok (.iload 4, 2) := by decide +kernel
theorem dX3_compareWithLater_80 : decode cX3_compareWithLater 80 = .ok (.invokestatic 44, 3) := by decide +kernel
theorem dX3_compareWithLater_83 : decode cX3_compareWithLater 83 = .ok (.iastore, 1) := by decide +kernel
theorem dX3_compareWithLater_84 : decode cX3_compareWithLater 84 = .ok (.aload_n 0, 1) := by decide +kernel
theorem dX3_compareWithLater_85 : decode cX3_compareWithLater 85 = .ok (.getfield 25, 3) := by decide +kernel
theorem dX3_compareWithLater_88 : decode cX3_compareWithLater 88 = .ok (.iload_n 3, 1) := by decide +kernel
theorem dX3_compareWithLater_89 : decode cX3_compareWithLater 89 = .ok (.aload_n 0, 1) := by decide +kernel
theorem dX3_compareWithLater_90 : decode cX3_compareWithLater 90 = .ok (.getfield 25, 3) := by decide +kernel
theorem dX3_compareWithLater_93 : decode cX3_compareWithLater 93 = .ok (.iload_n 3, 1) := by decide +kernel
theorem dX3_compareWithLater_94 : decode cX3_compareWithLater 94 = .ok (.iaload, 1) := by decide +kernel
theorem dX3_compareWithLater_95 : decode cX3_compareWithLater 95 = .ok (.iload 4, 2) := by decide +kernel
theorem dX3_compareWithLater_97 : decode cX3_compareWithLater 97 = .ok (.invokestatic 44, 3) := by decide +kernel
theorem dX3_compareWithLater_100 : decode cX3_compareWithLater 100 = .ok (.iastore, 1) := by decide +kernel
theorem dX3_compareWithLater_101 : decode cX3_compareWithLater 101 = .ok (.iload_n 3, 1) := by decide +kernel
theorem dX3_compareWithLater_102 : decode cX3_compareWithLater 102 = .ok (.iload 4, 2) := by decide +kernel
theorem dX3_compareWithLater_104 : decode cX3_compareWithLater 104 = .ok (.iadd, 1) := by decide +kernel
theorem dX3_compareWithLater_105 : decode cX3_compareWithLater 105 = .ok (.aload_n 0, 1) := by decide +kernel
theorem dX3_compareWithLater_106 : decode cX3_compareWithLater 106 = .ok (.getfield 9, 3) := by decide +kernel
theorem dX3_compareWithLater_109 : decode cX3_compareWithLater 109 = .ok (.if_icmp .ge 18, 3) := by decide +kernel
theorem dX3_compareWithLater_112 : decode cX3_compareWithLater 112 = .ok (.aload_n 1, 1) := by decide +kernel
theorem dX3_compareWithLater_113 : decode cX3_compareWithLater 113 = .ok (.iload_n 3, 1) := by decide +kernel
theorem dX3_compareWithLater_114 : decode cX3_compareWithLater 114 = .ok (.iload 4, 2) := by decide +kernel
theorem dX3_compareWithLater_116 : decode cX3_compareWithLater 116 = .ok (.iadd, 1) := by decide +kernel
theorem dX3_compareWithLater_117 : decode cX3_compareWithLater 117 = .ok (.iaload, 1) := by decide +kernel
theorem dX3_compareWithLater_118 : decode cX3_compareWithLater 118 = .ok (.aload_n 1, 1) := by decide +kernel
theorem dX3_compareWithLater_119 : decode cX3_compareWithLater 119 = .ok (.iload_n 2, 1) := by decide +kernel
theorem dX3_compareWithLater_120 : decode cX3_compareWithLater 120 = .ok (.iload 4, 2) := by decide +kernel
theorem dX3_compareWithLater_122 : decode cX3_compareWithLater 122 = .ok (.iadd, 1) := by decide +kernel
theorem dX3_compareWithLater_123 : decode cX3_compareWithLater 123 = .ok (.iaload, 1) := by decide +kernel
theorem dX3_compareWithLater_124 : decode cX3_compareWithLater 124 = .ok (.if_icmp .ge 7, 3) := by decide +kernel
theorem dX3_compareWithLater_127 : decode cX3_compareWithLater 127 = .ok (.iconst 1, 1) := by decide +kernel
theorem dX3_compareWithLater_128 : decode cX3_compareWithLater 128 = .ok (.goto 4, 3) := by decide +kernel
theorem dX3_compareWithLater_131 : decode cX3_compareWithLater 131 = .ok (.iconst 0, 1) := by decide +kernel
theorem dX3_compareWithLater_132 : decode cX3_compareWithLater 132 = .ok (.istore 5, 2) := by decide +kernel
theorem dX3_compareWithLater_134 : decode cX3_compareWithLater 134 = .ok (.iload 5, 2) := by decide +kernel
theorem dX3_compareWithLater_136 : decode cX3_compareWithLater 136 = .ok (.ifCond .eq 7, 3) := by decide +kernel
theorem dX3_compareWithLater_139 : decode cX3_compareWithLater 139 = .ok (.iload_n 2, 1) := by decide +kernel
theorem dX3_compareWithLater_140 : decode cX3_compareWithLater 140 = .ok (.goto 4, 3) := by decide +kernel
theorem dX3_compareWithLater_143 : decode cX3_compareWithLater 143 = .ok (.iload_n 3, 1) := by decide +kernel
theorem dX3_compareWithLater_144 : decode cX3_compareWithLater 144 = .ok (.istore 6, 2) := by decide +kernel
theorem dX3_compareWithLater_146 : decode cX3_compareWithLater 146 = .ok (.aload_n 0, 1) := by decide +kernel
theorem dX3_compareWithLater_147 : decode cX3_compareWithLater 147 = .ok (.getfield 15, 3) := by decide +kernel
theorem dX3_compareWithLater_150 : decode cX3_compareWithLater 150 = .ok (.iload 6, 2) := by decide +kernel
theorem dX3_compareWithLater_152 : decode cX3_compareWithLater 152 = .ok (.dup2, 1) := by decide +kernel
theorem dX3_compareWithLater_153 : decode cX3_compareWithLater 153 = .ok (.iaload, 1) := by decide +kernel
theorem dX3_compareWithLater_154 : decode cX3_compareWithLater 154 = .ok (.iconst 1, 1) := by decide +kernel
theorem dX3_compareWithLater_155 : decode cX3_compareWithLater 155 = .ok (.iadd, 1) := by decide +kernel
theorem dX3_compareWithLater_156 : decode cX3_compareWithLater 156 = .ok (.iastore, 1) := by decide +kernel
theorem dX3_compareWithLater_157 : decode cX3_compareWithLater 157 = .ok (.aload_n 0, 1) := by decide +kernel
theorem dX3_compareWithLater_158 : decode cX3_compareWithLater 158 = .ok (.getfield 22, 3) := by decide +kernel
theorem dX3_compareWithLater_161 : decode cX3_compareWithLater 161 = .ok (.iload 6, 2) := by decide +kernel
theorem dX3_compareWithLater_163 : decode cX3_compareWithLater 163 = .ok (.aload_n 0, 1) := by decide +kernel
theorem dX3_compareWithLater_164 : decode cX3_compareWithLater 164 = .ok (.getfield 22, 3) := by decide +kernel
theorem dX3_compareWithLater_167 : decode cX3_compareWithLater 167 = .ok (.iload 6, 2) := by decide +kernel
theorem dX3_compareWithLater_169 : decode cX3_compareWithLater 169 = .ok (.iaload, 1) := by decide +kernel
theorem dX3_compareWithLater_170 : decode cX3_compareWithLater 170 = .ok (.iload 4, 2) := by decide +kernel
theorem dX3_compareWithLater_172 : decode cX3_compareWithLater 172 = .ok (.invokestatic 44, 3) := by decide +kernel
theorem dX3_compareWithLater_175 : decode cX3_compareWithLater 175 = .ok (.iastore, 1) := by decide +kernel
theorem dX3_compareWithLater_176 : decode cX3_compareWithLater 176 = .ok (.iinc 3 1, 3) := by decide +kernel
theorem dX3_compareWithLater_179 : decode cX3_compareWithLater 179 = .ok (.goto (-153), 3) := by decide +kernel
theorem dX3_compareWithLater_182 : decode cX3_compareWithLater 182 = .ok (.return_, 1) := by decide +kernel
set_option maxRecDepth 20000 in
theorem ggX3_rankOf_X5_cellOf : GoodIn wsX3_rankOf wsX5_cellOf := goodIn_r _ [4] (by decide +kernel) (by decide +kernel)
set_option maxRecDepth 20000 in
theorem gX3_rankOf_X5_cellOf_n54 : GoodIn wsX3_rankOf (wsX5_cellOf) := ggX3_rankOf_X5_cellOf
theorem dX3_rankOf_0 : decode cX3_rankOf 0 = .ok (.aload_n 0, 1) := by decide +kernel
theorem dX3_rankOf_1 : decode cX3_rankOf 1 = .ok (.getfield 15, 3) := by decide +kernel
theorem dX3_rankOf_4 : decode cX3_rankOf 4 = .ok (.iload_n 1, 1) := by decide +kernel
theorem dX3_rankOf_5 : decode cX3_rankOf 5 = .ok (.invokestatic 54, 3) := by decide +kernel
theorem dX3_rankOf_8 : decode cX3_rankOf 8 = .ok (.ireturn, 1) := by decide +kernel
theorem dX3_placeAt_0 : decode cX3_placeAt 0 = .ok (.iload_n 1, 1) := by decide +kernel
theorem dX3_placeAt_1 : decode cX3_placeAt 1 = .ok (.ifCond .lt 29, 3) := by decide +kernel
theorem dX3_placeAt_4 : decode cX3_placeAt 4 = .ok (.iload_n 1, 1) := by decide +kernel
theorem dX3_placeAt_5 : decode cX3_placeAt 5 = .ok (.aload_n 0, 1) := by decide +kernel
theorem dX3_placeAt_6 : decode cX3_placeAt 6 = .ok (.getfield 9, 3) := by decide +kernel
theorem dX3_placeAt_9 : decode cX3_placeAt 9 = .ok (.if_icmp .ge 21, 3) := by decide +kernel
theorem dX3_placeAt_12 : decode cX3_placeAt 12 = .ok (.iload_n 1, 1) := by decide +kernel
theorem dX3_placeAt_13 : decode cX3_placeAt 13 = .ok (.aload_n 0, 1) := by decide +kernel
theorem dX3_placeAt_14 : decode cX3_placeAt 14 = .ok (.getfield 19, 3) := by decide +kernel
theorem dX3_placeAt_17 : decode cX3_placeAt 17 = .ok (.arraylength, 1) := by decide +kernel
theorem dX3_placeAt_18 : decode cX3_placeAt 18 = .ok (.if_icmp .ge 12, 3) := by decide +kernel
theorem dX3_placeAt_21 : decode cX3_placeAt 21 = .ok (.aload_n 0, 1) := by decide +kernel
theorem dX3_placeAt_22 : decode cX3_placeAt 22 = .ok (.getfield 19, 3) := by decide +kernel
theorem dX3_placeAt_25 : decode cX3_placeAt 25 = .ok (.iload_n 1, 1) := by decide +kernel
theorem dX3_placeAt_26 : decode cX3_placeAt 26 = .ok (.iaload, 1) := by decide +kernel
theorem dX3_placeAt_27 : decode cX3_placeAt 27 = .ok (.goto 4, 3) := by decide +kernel
theorem dX3_placeAt_30 : decode cX3_placeAt 30 = .ok (.iconst (-1), 1) := by decide +kernel
theorem dX3_placeAt_31 : decode cX3_placeAt 31 = .ok (.ireturn, 1) := by decide +kernel
set_option maxRecDepth 20000 in
theorem ggX3_sharedWithAhead_X5_cellOf : GoodIn wsX3_sharedWithAhead wsX5_cellOf := goodIn_r _ [4] (by decide +kernel) (by decide +kernel)
set_option maxRecDepth 20000 in
theorem gX3_sharedWithAhead_X5_cellOf_n54 : GoodIn wsX3_sharedWithAhead (wsX5_cellOf) := ggX3_sharedWithAhead_X5_cellOf
theorem dX3_sharedWithAhead_0 : decode cX3_sharedWithAhead 0 = .ok (.aload_n 0, 1) := by decide +kernel
theorem dX3_sharedWithAhead_1 : decode cX3_sharedWithAhead 1 = .ok (.getfield 22, 3) := by decide +kernel
theorem dX3_sharedWithAhead_4 : decode cX3_sharedWithAhead 4 = .ok (.iload_n 1, 1) := by decide +kernel
theorem dX3_sharedWithAhead_5 : decode cX3_sharedWithAhead 5 = .ok (.invokestatic 54, 3) := by decide +kernel
theorem dX3_sharedWithAhead_8 : decode cX3_sharedWithAhead 8 = .ok (.ireturn, 1) := by decide +kernel
set_option maxRecDepth 20000 in
theorem ggX3_repeatAt_X5_cellOf : GoodIn wsX3_repeatAt wsX5_cellOf := goodIn_r _ [4] (by decide +kernel) (by decide +kernel)
set_option maxRecDepth 20000 in
theorem gX3_repeatAt_X5_cellOf_n54 : GoodIn wsX3_repeatAt (wsX5_cellOf) := ggX3_repeatAt_X5_cellOf
theorem dX3_repeatAt_0 : decode cX3_repeatAt 0 = .ok (.aload_n 0, 1) := by decide +kernel
theorem dX3_repeatAt_1 : decode cX3_repeatAt 1 = .ok (.getfield 25, 3) := by decide +kernel
theorem dX3_repeatAt_4 : decode cX3_repeatAt 4 = .ok (.iload_n 1, 1) := by decide +kernel
theorem dX3_repeatAt_5 : decode cX3_repeatAt 5 = .ok (.invokestatic 54, 3) := by decide +kernel
theorem dX3_repeatAt_8 : decode cX3_repeatAt 8 = .ok (.ireturn, 1) := by decide +kernel
set_option maxRecDepth 20000 in
theorem ggX3_pieces_X3_sharedWithAhead : GoodIn wsX3_pieces wsX3_sharedWithAhead := goodIn_r _ [6, 7, 8, 9, 10, 11, 12, 13, 14, 15, 16] (by decide +kernel) (by decide +kernel)
set_option maxRecDepth 20000 in
theorem gX3_pieces_X3_sharedWithAhead : GoodIn wsX3_pieces (wsV RX3 58 RX3 yX3_sharedWithAhead wsX3_sharedWithAhead) := goodIn_app (goodIn_of _ (by decide +kernel)) ggX3_pieces_X3_sharedWithAhead
theorem dX3_pieces_0 : decode cX3_pieces 0 = .ok (.iconst 0, 1) := by decide +kernel
theorem dX3_pieces_1 : decode cX3_pieces 1 = .ok (.istore_n 1, 1) := by decide +kernel
theorem dX3_pieces_2 : decode cX3_pieces 2 = .ok (.iconst 0, 1) := by decide +kernel
theorem dX3_pieces_3 : decode cX3_pieces 3 = .ok (.istore_n 2, 1) := by decide +kernel
theorem dX3_pieces_4 : decode cX3_pieces 4 = .ok (.iload_n 2, 1) := by decide +kernel
theorem dX3_pieces_5 : decode cX3_pieces 5 = .ok (.aload_n 0, 1) := by decide +kernel
theorem dX3_pieces_6 : decode cX3_pieces 6 = .ok (.getfield 9, 3) := by decide +kernel
theorem dX3_pieces_9 : decode cX3_pieces 9 = .ok (.if_icmp .ge 24, 3) := by decide +kernel
theorem dX3_pieces_12 : decode cX3_pieces 12 = .ok (.iload_n 1, 1) := by decide +kernel
theorem dX3_pieces_13 : decode cX3_pieces 13 = .ok (.aload_n 0, 1) := by decide +kernel
theorem dX3_pieces_14 : decode cX3_pieces 14 = .ok (.getfield 9, 3) := by decide +kernel
theorem dX3_pieces_17 : decode cX3_pieces 17 = .ok (.iload_n 2, 1) := by decide +kernel
theorem dX3_pieces_18 : decode cX3_pieces 18 = .ok (.isub, 1) := by decide +kernel
theorem dX3_pieces_19 : decode cX3_pieces 19 = .ok (.aload_n 0, 1) := by decide +kernel
theorem dX3_pieces_20 : decode cX3_pieces 20 = .ok (.iload_n 2, 1) := by decide +kernel
theorem dX3_pieces_21 : decode cX3_pieces 21 = .ok (.invokevirtual 58, 3) := by decide +kernel
theorem dX3_pieces_24 : decode cX3_pieces 24 = .ok (.isub, 1) := by decide +kernel
theorem dX3_pieces_25 : decode cX3_pieces 25 = .ok (.iadd, 1) := by decide +kernel
theorem dX3_pieces_26 : decode cX3_pieces 26 = .ok (.istore_n 1, 1) := by decide +kernel
theorem dX3_pieces_27 : decode cX3_pieces 27 = .ok (.iinc 2 1, 3) := by decide +kernel
theorem dX3_pieces_30 : decode cX3_pieces 30 = .ok (.goto (-26), 3) := by decide +kernel
theorem dX3_pieces_33 : decode cX3_pieces 33 = .ok (.iload_n 1, 1) := by decide +kernel
theorem dX3_pieces_34 : decode cX3_pieces 34 = .ok (.ireturn, 1) := by decide +kernel
set_option maxRecDepth 20000 in
theorem ggX3_longestRepeat_X3_repeatAt : GoodIn wsX3_longestRepeat wsX3_repeatAt := goodIn_r _ [10, 11, 12, 13, 14, 15, 16, 17, 18, 19, 20] (by decide +kernel) (by decide +kernel)
set_option maxRecDepth 20000 in
theorem gX3_longestRepeat_X3_repeatAt : GoodIn wsX3_longestRepeat (wsV RX3 62 RX3 yX3_repeatAt wsX3_repeatAt) := goodIn_app (goodIn_of _ (by decide +kernel)) ggX3_longestRepeat_X3_repeatAt
theorem dX3_longestRepeat_0 : decode cX3_longestRepeat 0 = .ok (.iconst 0, 1) := by decide +kernel
theorem dX3_longestRepeat_1 : decode cX3_longestRepeat 1 = .ok (.istore_n 1, 1) := by decide +kernel
theorem dX3_longestRepeat_2 : decode cX3_longestRepeat 2 = .ok (.iconst 0, 1) := by decide +kernel
theorem dX3_longestRepeat_3 : decode cX3_longestRepeat 3 = .ok (.istore_n 2, 1) := by decide +kernel
theorem dX3_longestRepeat_4 : decode cX3_longestRepeat 4 = .ok (.iload_n 2, 1) := by decide +kernel
theorem dX3_longestRepeat_5 : decode cX3_longestRepeat 5 = .ok (.aload_n 0, 1) := by decide +kernel
theorem dX3_longestRepeat_6 : decode cX3_longestRepeat 6 = .ok (.getfield 9, 3) := by decide +kernel
theorem dX3_longestRepeat_9 : decode cX3_longestRepeat 9 = .ok (.if_icmp .ge 19, 3) := by decide +kernel
theorem dX3_longestRepeat_12 : decode cX3_longestRepeat 12 = .ok (.iload_n 1, 1) := by decide +kernel
theorem dX3_longestRepeat_13 : decode cX3_longestRepeat 13 = .ok (.aload_n 0, 1) := by decide +kernel
theorem dX3_longestRepeat_14 : decode cX3_longestRepeat 14 = .ok (.iload_n 2, 1) := by decide +kernel
theorem dX3_longestRepeat_15 : decode cX3_longestRepeat 15 = .ok (.invokevirtual 62, 3) := by decide +kernel
theorem dX3_longestRepeat_18 : decode cX3_longestRepeat 18 = .ok (.invokestatic 44, 3) := by decide +kernel
theorem dX3_longestRepeat_21 : decode cX3_longestRepeat 21 = .ok (.istore_n 1, 1) := by decide +kernel
theorem dX3_longestRepeat_22 : decode cX3_longestRepeat 22 = .ok (.iinc 2 1, 3) := by decide +kernel
theorem dX3_longestRepeat_25 : decode cX3_longestRepeat 25 = .ok (.goto (-21), 3) := by decide +kernel
theorem dX3_longestRepeat_28 : decode cX3_longestRepeat 28 = .ok (.iload_n 1, 1) := by decide +kernel
theorem dX3_longestRepeat_29 : decode cX3_longestRepeat 29 = .ok (.ireturn, 1) := by decide +kernel
set_option maxRecDepth 20000 in
theorem ggX3_placeOfLongestRepeat_X3_longestRepeat : GoodIn wsX3_placeOfLongestRepeat wsX3_longestRepeat := goodIn_r _ [6, 1, 7, 8, 9, 10, 11, 12, 13, 5, 14, 15, 16, 17, 18, 19, 20, 21, 22, 23, 24] (by decide +kernel) (by decide +kernel)
set_option maxRecDepth 20000 in
theorem gX3_placeOfLongestRepeat_X3_longestRepeat : GoodIn wsX3_placeOfLongestRepeat (wsV RX3 65 RX3 yX3_longestRepeat wsX3_longestRepeat) := goodIn_app (goodIn_of _ (by decide +kernel)) ggX3_placeOfLongestRepeat_X3_longestRepeat
set_option maxRecDepth 20000 in
theorem ggX3_placeOfLongestRepeat_X3_repeatAt : GoodIn wsX3_placeOfLongestRepeat wsX3_repeatAt := goodIn_r _ [14, 15, 16, 17, 18, 19, 20, 21, 22, 23, 24] (by decide +kernel) (by decide +kernel)
set_option maxRecDepth 20000 in
theorem gX3_placeOfLongestRepeat_X3_repeatAt : GoodIn wsX3_placeOfLongestRepeat (wsV RX3 62 RX3 yX3_repeatAt wsX3_repeatAt) := goodIn_app (goodIn_of _ (by decide +kernel)) ggX3_placeOfLongestRepeat_X3_repeatAt
theorem dX3_placeOfLongestRepeat_0 : decode cX3_placeOfLongestRepeat 0 = .ok (.aload_n 0, 1) := by decide +kernel
theorem dX3_placeOfLongestRepeat_1 : decode cX3_placeOfLongestRepeat 1 = .ok (.invokevirtual 65, 3) := by decide +kernel
theorem dX3_placeOfLongestRepeat_4 : decode cX3_placeOfLongestRepeat 4 = .ok (.istore_n 1, 1) := by decide +kernel
theorem dX3_placeOfLongestRepeat_5 : decode cX3_placeOfLongestRepeat 5 = .ok (.iconst 0, 1) := by decide +kernel
theorem dX3_placeOfLongestRepeat_6 : decode cX3_placeOfLongestRepeat 6 = .ok (.istore_n 2, 1) := by decide +kernel
theorem dX3_placeOfLongestRepeat_7 : decode cX3_placeOfLongestRepeat 7 = .ok (.iload_n 2, 1) := by decide +kernel
theorem dX3_placeOfLongestRepeat_8 : decode cX3_placeOfLongestRepeat 8 = .ok (.aload_n 0, 1) := by decide +kernel
theorem dX3_placeOfLongestRepeat_9 : decode cX3_placeOfLongestRepeat 9 = .ok (.getfield 9, 3) := by decide +kernel
theorem dX3_placeOfLongestRepeat_12 : decode cX3_placeOfLongestRepeat 12 = .ok (.if_icmp .ge 24, 3) := by decide +kernel
theorem dX3_placeOfLongestRepeat_15 : decode cX3_placeOfLongestRepeat 15 = .ok (.iload_n 1, 1) := by decide +kernel
theorem dX3_placeOfLongestRepeat_16 : decode cX3_placeOfLongestRepeat 16 = .ok (.ifCond .le 20, 3) := by decide +kernel
theorem dX3_placeOfLongestRepeat_19 : decode cX3_placeOfLongestRepeat 19 = .ok (.aload_n 0, 1) := by decide +kernel
theorem dX3_placeOfLongestRepeat_20 : decode cX3_placeOfLongestRepeat 20 = .ok (.iload_n 2, 1) := by decide +kernel
theorem dX3_placeOfLongestRepeat_21 : decode cX3_placeOfLongestRepeat 21 = .ok (.invokevirtual 62, 3) := by decide +kernel
theorem dX3_placeOfLongestRepeat_24 : decode cX3_placeOfLongestRepeat 24 = .ok (.iload_n 1, 1) := by decide +kernel
theorem dX3_placeOfLongestRepeat_25 : decode cX3_placeOfLongestRepeat 25 = .ok (.if_icmp .ne 5, 3) := by decide +kernel
theorem dX3_placeOfLongestRepeat_28 : decode cX3_placeOfLongestRepeat 28 = .ok (.iload_n 2, 1) := by decide +kernel
theorem dX3_placeOfLongestRepeat_29 : decode cX3_placeOfLongestRepeat 29 = .ok (.ireturn, 1) := by decide +kernel
theorem dX3_placeOfLongestRepeat_30 : decode cX3_placeOfLongestRepeat 30 = .ok (.iinc 2 1, 3) := by decide +kernel
theorem dX3_placeOfLongestRepeat_33 : decode cX3_placeOfLongestRepeat 33 = .ok (.goto (-26), 3) := by decide +kernel
theorem dX3_placeOfLongestRepeat_36 : decode cX3_placeOfLongestRepeat 36 = .ok (.iconst (-1), 1) := by decide +kernel
theorem dX3_placeOfLongestRepeat_37 : decode cX3_placeOfLongestRepeat 37 = .ok (.ireturn, 1) := by decide +kernel
set_option maxRecDepth 20000 in
theorem ggX3_sharedByAll_X3_placeAt : GoodIn wsX3_sharedByAll wsX3_placeAt := goodIn_r _ [10, 1, 11, 20, 21, 22, 23, 24, 25] (by decide +kernel) (by decide +kernel)
set_option maxRecDepth 20000 in
theorem gX3_sharedByAll_X3_placeAt : GoodIn wsX3_sharedByAll (wsV RX3 69 RX3 yX3_placeAt wsX3_placeAt) := goodIn_app (goodIn_of _ (by decide +kernel)) ggX3_sharedByAll_X3_placeAt
set_option maxRecDepth 20000 in
theorem ggX3_sharedByAll_X3_sharedWithAhead : GoodIn wsX3_sharedByAll wsX3_sharedWithAhead := goodIn_r _ [15, 16, 17, 18, 19, 20, 21, 22, 23, 24, 25] (by decide +kernel) (by decide +kernel)
set_option maxRecDepth 20000 in
theorem gX3_sharedByAll_X3_sharedWithAhead : GoodIn wsX3_sharedByAll (wsV RX3 58 RX3 yX3_sharedWithAhead wsX3_sharedWithAhead) := goodIn_app (goodIn_of _ (by decide +kernel)) ggX3_sharedByAll_X3_sharedWithAhead
theorem dX3_sharedByAll_0 : decode cX3_sharedByAll 0 = .ok (.iload_n 1, 1) := by decide +kernel
theorem dX3_sharedByAll_1 : decode cX3_sharedByAll 1 = .ok (.iload_n 2, 1) := by decide +kernel
theorem dX3_sharedByAll_2 : decode cX3_sharedByAll 2 = .ok (.if_icmp .lt 5, 3) := by decide +kernel
theorem dX3_sharedByAll_5 : decode cX3_sharedByAll 5 = .ok (.iconst 0, 1) := by decide +kernel
theorem dX3_sharedByAll_6 : decode cX3_sharedByAll 6 = .ok (.ireturn, 1) := by decide +kernel
theorem dX3_sharedByAll_7 : decode cX3_sharedByAll 7 = .ok (.aload_n 0, 1) := by decide +kernel
theorem dX3_sharedByAll_8 : decode cX3_sharedByAll 8 = .ok (.getfield 9, 3) := by decide +kernel
theorem dX3_sharedByAll_11 : decode cX3_sharedByAll 11 = .ok (.aload_n 0, 1) := by decide +kernel
theorem dX3_sharedByAll_12 : decode cX3_sharedByAll 12 = .ok (.iload_n 1, 1) := by decide +kernel
theorem dX3_sharedByAll_13 : decode cX3_sharedByAll 13 = .ok (.invokevirtual 69, 3) := by decide +kernel
theorem dX3_sharedByAll_16 : decode cX3_sharedByAll 16 = .ok (.isub, 1) := by decide +kernel
theorem dX3_sharedByAll_17 : decode cX3_sharedByAll 17 = .ok (.istore_n 3, 1) := by decide +kernel
theorem dX3_sharedByAll_18 : decode cX3_sharedByAll 18 = .ok (.iload_n 1, 1) := by decide +kernel
theorem dX3_sharedByAll_19 : decode cX3_sharedByAll 19 = .ok (.iconst 1, 1) := by decide +kernel
theorem dX3_sharedByAll_20 : decode cX3_sharedByAll 20 = .ok (.iadd, 1) := by decide +kernel
theorem dX3_sharedByAll_21 : decode cX3_sharedByAll 21 = .ok (.istore 4, 2) := by decide +kernel
theorem dX3_sharedByAll_23 : decode cX3_sharedByAll 23 = .ok (.iload 4, 2) := by decide +kernel
theorem dX3_sharedByAll_25 : decode cX3_sharedByAll 25 = .ok (.iload_n 2, 1) := by decide +kernel
theorem dX3_sharedByAll_26 : decode cX3_sharedByAll 26 = .ok (.if_icmp .ge 24, 3) := by decide +kernel
theorem dX3_sharedByAll_29 : decode cX3_sharedByAll 29 = .ok (.iload_n 3, 1) := by decide +kernel
theorem dX3_sharedByAll_30 : decode cX3_sharedByAll 30 = .ok (.aload_n 0, 1) := by decide +kernel
theorem dX3_sharedByAll_31 : decode cX3_sharedByAll 31 = .ok (.aload_n 0, 1) := by decide +kernel
theorem dX3_sharedByAll_32 : decode cX3_sharedByAll 32 = .ok (.iload 4, 2) := by decide +kernel
theorem dX3_sharedByAll_34 : decode cX3_sharedByAll 34 = .ok (.invokevirtual 69, 3) := by decide +kernel
theorem dX3_sharedByAll_37 : decode cX3_sharedByAll 37 = .ok (.invokevirtual 58, 3) := by decide +kernel
theorem dX3_sharedByAll_40 : decode cX3_sharedByAll 40 = .ok (.invokestatic 38, 3) := by decide +kernel
theorem dX3_sharedByAll_43 : decode cX3_sharedByAll 43 = .ok (.istore_n 3, 1) := by decide +kernel
theorem dX3_sharedByAll_44 : decode cX3_sharedByAll 44 = .ok (.iinc 4 1, 3) := by decide +kernel
theorem dX3_sharedByAll_47 : decode cX3_sharedByAll 47 = .ok (.goto (-24), 3) := by decide +kernel
theorem dX3_sharedByAll_50 : decode cX3_sharedByAll 50 = .ok (.iload_n 3, 1) := by decide +kernel
theorem dX3_sharedByAll_51 : decode cX3_sharedByAll 51 = .ok (.ireturn, 1) := by decide +kernel
set_option maxRecDepth 20000 in
theorem ggX3_mostSung_X3_placeAt : GoodIn wsX3_mostSung wsX3_placeAt := goodIn_r _ [10, 1, 11, 20, 21, 22, 23, 24, 25] (by decide +kernel) (by decide +kernel)
set_option maxRecDepth 20000 in
theorem gX3_mostSung_X3_placeAt : GoodIn wsX3_mostSung (wsV RX3 69 RX3 yX3_placeAt wsX3_placeAt) := goodIn_app (goodIn_of _ (by decide +kernel)) ggX3_mostSung_X3_placeAt
set_option maxRecDepth 20000 in
theorem ggX3_mostSung_X3_sharedWithAhead : GoodIn wsX3_mostSung wsX3_sharedWithAhead := goodIn_r _ [15, 16, 17, 18, 19, 20, 21, 22, 23, 24, 25] (by decide +kernel) (by decide +kernel)
set_option maxRecDepth 20000 in
theorem gX3_mostSung_X3_sharedWithAhead : GoodIn wsX3_mostSung (wsV RX3 58 RX3 yX3_sharedWithAhead wsX3_sharedWithAhead) := goodIn_app (goodIn_of _ (by decide +kernel)) ggX3_mostSung_X3_sharedWithAhead
theorem dX3_mostSung_0 : decode cX3_mostSung 0 = .ok (.iconst 0, 1) := by decide +kernel
theorem dX3_mostSung_1 : decode cX3_mostSung 1 = .ok (.istore_n 3, 1) := by decide +kernel
theorem dX3_mostSung_2 : decode cX3_mostSung 2 = .ok (.iconst (-1), 1) := by decide +kernel
theorem dX3_mostSung_3 : decode cX3_mostSung 3 = .ok (.istore 4, 2) := by decide +kernel
theorem dX3_mostSung_5 : decode cX3_mostSung 5 = .ok (.iconst 0, 1) := by decide +kernel
theorem dX3_mostSung_6 : decode cX3_mostSung 6 = .ok (.istore 5, 2) := by decide +kernel
theorem dX3_mostSung_8 : decode cX3_mostSung 8 = .ok (.iconst 0, 1) := by decide +kernel
theorem dX3_mostSung_9 : decode cX3_mostSung 9 = .ok (.istore 6, 2) := by decide +kernel
theorem dX3_mostSung_11 : decode cX3_mostSung 11 = .ok (.iconst 0, 1) := by decide +kernel
theorem dX3_mostSung_12 : decode cX3_mostSung 12 = .ok (.istore 7, 2) := by decide +kernel
theorem dX3_mostSung_14 : decode cX3_mostSung 14 = .ok (.iload 7, 2) := by decide +kernel
theorem dX3_mostSung_16 : decode cX3_mostSung 16 = .ok (.aload_n 0, 1) := by decide +kernel
theorem dX3_mostSung_17 : decode cX3_mostSung 17 = .ok (.getfield 9, 3) := by decide +kernel
theorem dX3_mostSung_20 : decode cX3_mostSung 20 = .ok (.if_icmp .ge 95, 3) := by decide +kernel
theorem dX3_mostSung_23 : decode cX3_mostSung 23 = .ok (.aload_n 0, 1) := by decide +kernel
theorem dX3_mostSung_24 : decode cX3_mostSung 24 = .ok (.iload 7, 2) := by decide +kernel
theorem dX3_mostSung_26 : decode cX3_mostSung 26 = .ok (.invokevirtual 69, 3) := by decide +kernel
theorem dX3_mostSung_29 : decode cX3_mostSung 29 = .ok (.istore 8, 2) := by decide +kernel
theorem dX3_mostSung_31 : decode cX3_mostSung 31 = .ok (.aload_n 0, 1) := by decide +kernel
theorem dX3_mostSung_32 : decode cX3_mostSung 32 = .ok (.getfield 9, 3) := by decide +kernel
theorem dX3_mostSung_35 : decode cX3_mostSung 35 = .ok (.iload 8, 2) := by decide +kernel
theorem dX3_mostSung_37 : decode cX3_mostSung 37 = .ok (.isub, 1) := by decide +kernel
theorem dX3_mostSung_38 : decode cX3_mostSung 38 = .ok (.iload_n 1, 1) := by decide +kernel
theorem dX3_mostSung_39 : decode cX3_mostSung 39 = .ok (.if_icmp .ge 6, 3) := by decide +kernel
theorem dX3_mostSung_42 : decode cX3_mostSung 42 = .ok (.goto 67, 3) := by decide +kernel
theorem dX3_mostSung_45 : decode cX3_mostSung 45 = .ok (.aload_n 0, 1) := by decide +kernel
theorem dX3_mostSung_46 : decode cX3_mostSung 46 = .ok (.iload 8, 2) := by decide +kernel
theorem dX3_mostSung_48 : decode cX3_mostSung 48 = .ok (.invokevirtual 58, 3) := by decide +kernel
theorem dX3_mostSung_51 : decode cX3_mostSung 51 = .ok (.iload_n 1, 1) := by decide +kernel
theorem dX3_mostSung_52 : decode cX3_mostSung 52 = .ok (.if_icmp .lt 7, 3) := by decide +kernel
theorem dX3_mostSung_55 : decode cX3_mostSung 55 = .ok (.iconst 1, 1) := by decide +kernel
theorem dX3_mostSung_56 : decode cX3_mostSung 56 = .ok (.goto 4, 3) := by decide +kernel
theorem dX3_mostSung_59 : decode cX3_mostSung 59 = .ok (.iconst 0, 1) := by decide +kernel
theorem dX3_mostSung_60 : decode cX3_mostSung 60 = .ok (.istore 9, 2) := by decide +kernel
theorem dX3_mostSung_62 : decode cX3_mostSung 62 = .ok (.iload 9, 2) := by decide +kernel
theorem dX3_mostSung_64 : decode cX3_mostSung 64 = .ok (.ifCond .eq 10, 3) := by decide +kernel
theorem dX3_mostSung_67 : decode cX3_mostSung 67 = .ok (.iload 5, 2) := by decide +kernel
theorem dX3_mostSung_69 : decode cX3_mostSung 69 = .ok (.iconst 1, 1) := by decide +kernel
theorem dX3_mostSung_70 : decode cX3_mostSung 70 = .ok (.iadd, 1) := by decide +kernel
theorem dX3_mostSung_71 : decode cX3_mostSung 71 = .ok (.goto 4, 3) := by decide +kernel
theorem dX3_mostSung_74 : decode cX3_mostSung 74 = .ok (.iconst 1, 1) := by decide +kernel
theorem dX3_mostSung_75 : decode cX3_mostSung 75 = .ok (.istore 5, 2) := by decide +kernel
theorem dX3_mostSung_77 : decode cX3_mostSung 77 = .ok (.iload 9, 2) := by decide +kernel
theorem dX3_mostSung_79 : decode cX3_mostSung 79 = .ok (.ifCond .eq 13, 3) := by decide +kernel
theorem dX3_mostSung_82 : decode cX3_mostSung 82 = .ok (.iload 6, 2) := by decide +kernel
theorem dX3_mostSung_84 : decode cX3_mostSung 84 = .ok (.iload 8, 2) := by decide +kernel
theorem dX3_mostSung_86 : decode cX3_mostSung 86 = .ok (.invokestatic 38, 3) := by decide +kernel
theorem dX3_mostSung_89 : decode cX3_mostSung 89 = .ok (.goto 5, 3) := by decide +kernel
theorem dX3_mostSung_92 : decode cX3_mostSung 92 = .ok (.iload 8, 2) := by decide +kernel
theorem dX3_mostSung_94 : decode cX3_mostSung 94 = .ok (.istore 6, 2) := by decide +kernel
theorem dX3_mostSung_96 : decode cX3_mostSung 96 = .ok (.iload 5, 2) := by decide +kernel
theorem dX3_mostSung_98 : decode cX3_mostSung 98 = .ok (.iload_n 3, 1) := by decide +kernel
theorem dX3_mostSung_99 : decode cX3_mostSung 99 = .ok (.if_icmp .le 10, 3) := by decide +kernel
theorem dX3_mostSung_102 : decode cX3_mostSung 102 = .ok (.iload 5, 2) := by decide +kernel
theorem dX3_mostSung_104 : decode cX3_mostSung 104 = .ok (.istore_n 3, 1) := by decide +kernel
theorem dX3_mostSung_105 : decode cX3_mostSung 105 = .ok (.iload 6, 2) := by decide +kernel
theorem dX3_mostSung_107 : decode cX3_mostSung 107 = .ok (.istore 4, 2) := by decide +kernel
theorem dX3_mostSung_109 : decode cX3_mostSung 109 = .ok (.iinc 7 1, 3) := by decide +kernel
theorem dX3_mostSung_112 : decode cX3_mostSung 112 = .ok (.goto (-98), 3) := by decide +kernel
theorem dX3_mostSung_115 : decode cX3_mostSung 115 = .ok (.iload_n 2, 1) := by decide +kernel
theorem dX3_mostSung_116 : decode cX3_mostSung 116 = .ok (.ifCond .eq 7, 3) := by decide +kernel
theorem dX3_mostSung_119 : decode cX3_mostSung 119 = .ok (.iload_n 3, 1) := by decide +kernel
theorem dX3_mostSung_120 : decode cX3_mostSung 120 = .ok (.goto 5, 3) := by decide +kernel
theorem dX3_mostSung_123 : decode cX3_mostSung 123 = .ok (.iload 4, 2) := by decide +kernel
theorem dX3_mostSung_125 : decode cX3_mostSung 125 = .ok (.ireturn, 1) := by decide +kernel
