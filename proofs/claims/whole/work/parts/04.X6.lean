theorem dX6_init_0 : decode cX6_init 0 = .ok (.aload_n 0, 1) := by decide +kernel
theorem dX6_init_1 : decode cX6_init 1 = .ok (.invokespecial 1, 3) := by decide +kernel
theorem dX6_init_4 : decode cX6_init 4 = .ok (.aload_n 0, 1) := by decide +kernel
theorem dX6_init_5 : decode cX6_init 5 = .ok (.bipush 40, 2) := by decide +kernel
theorem dX6_init_7 : decode cX6_init 7 = .ok (.newarray .int, 2) := by decide +kernel
theorem dX6_init_9 : decode cX6_init 9 = .ok (.putfield 7, 3) := by decide +kernel
theorem dX6_init_12 : decode cX6_init 12 = .ok (.aload_n 0, 1) := by decide +kernel
theorem dX6_init_13 : decode cX6_init 13 = .ok (.bipush 126, 2) := by decide +kernel
theorem dX6_init_15 : decode cX6_init 15 = .ok (.newarray .int, 2) := by decide +kernel
theorem dX6_init_17 : decode cX6_init 17 = .ok (.putfield 13, 3) := by decide +kernel
theorem dX6_init_20 : decode cX6_init 20 = .ok (.aload_n 0, 1) := by decide +kernel
theorem dX6_init_21 : decode cX6_init 21 = .ok (.bipush 126, 2) := by decide +kernel
theorem dX6_init_23 : decode cX6_init 23 = .ok (.newarray .int, 2) := by decide +kernel
theorem dX6_init_25 : decode cX6_init 25 = .ok (.putfield 16, 3) := by decide +kernel
theorem dX6_init_28 : decode cX6_init 28 = .ok (.aload_n 0, 1) := by decide +kernel
theorem dX6_init_29 : decode cX6_init 29 = .ok (.sipush 1764, 3) := by decide +kernel
theorem dX6_init_32 : decode cX6_init 32 = .ok (.newarray .int, 2) := by decide +kernel
theorem dX6_init_34 : decode cX6_init 34 = .ok (.putfield 19, 3) := by decide +kernel
theorem dX6_init_37 : decode cX6_init 37 = .ok (.aload_n 0, 1) := by decide +kernel
theorem dX6_init_38 : decode cX6_init 38 = .ok (.sipush 252, 3) := by decide +kernel
theorem dX6_init_41 : decode cX6_init 41 = .ok (.newarray .int, 2) := by decide +kernel
theorem dX6_init_43 : decode cX6_init 43 = .ok (.putfield 22, 3) := by decide +kernel
theorem dX6_init_46 : decode cX6_init 46 = .ok (.aload_n 0, 1) := by decide +kernel
theorem dX6_init_47 : decode cX6_init 47 = .ok (.iconst 2, 1) := by decide +kernel
theorem dX6_init_48 : decode cX6_init 48 = .ok (.newarray .boolean, 2) := by decide +kernel
theorem dX6_init_50 : decode cX6_init 50 = .ok (.putfield 25, 3) := by decide +kernel
theorem dX6_init_53 : decode cX6_init 53 = .ok (.aload_n 0, 1) := by decide +kernel
theorem dX6_init_54 : decode cX6_init 54 = .ok (.bipush 60, 2) := by decide +kernel
theorem dX6_init_56 : decode cX6_init 56 = .ok (.newarray .int, 2) := by decide +kernel
theorem dX6_init_58 : decode cX6_init 58 = .ok (.putfield 29, 3) := by decide +kernel
theorem dX6_init_61 : decode cX6_init 61 = .ok (.aload_n 0, 1) := by decide +kernel
theorem dX6_init_62 : decode cX6_init 62 = .ok (.bipush 60, 2) := by decide +kernel
theorem dX6_init_64 : decode cX6_init 64 = .ok (.newarray .int, 2) := by decide +kernel
theorem dX6_init_66 : decode cX6_init 66 = .ok (.putfield 32, 3) := by decide +kernel
theorem dX6_init_69 : decode cX6_init 69 = .ok (.aload_n 0, 1) := by decide +kernel
theorem dX6_init_70 : decode cX6_init 70 = .ok (.bipush 60, 2) := by decide +kernel
theorem dX6_init_72 : decode cX6_init 72 = .ok (.newarray .int, 2) := by decide +kernel
theorem dX6_init_74 : decode cX6_init 74 = .ok (.putfield 35, 3) := by decide +kernel
theorem dX6_init_77 : decode cX6_init 77 = .ok (.aload_n 0, 1) := by decide +kernel
theorem dX6_init_78 : decode cX6_init 78 = .ok (.bipush 12, 2) := by decide +kernel
theorem dX6_init_80 : decode cX6_init 80 = .ok (.newarray .int, 2) := by decide +kernel
theorem dX6_init_82 : decode cX6_init 82 = .ok (.putfield 38, 3) := by decide +kernel
theorem dX6_init_85 : decode cX6_init 85 = .ok (.aload_n 0, 1) := by decide +kernel
theorem dX6_init_86 : decode cX6_init 86 = .ok (.getfield 13, 3) := by decide +kernel
theorem dX6_init_89 : decode cX6_init 89 = .ok (.iconst 2, 1) := by decide +kernel
theorem dX6_init_90 : decode cX6_init 90 = .ok (.iconst 1, 1) := by decide +kernel
theorem dX6_init_91 : decode cX6_init 91 = .ok (.iastore, 1) := by decide +kernel
theorem dX6_init_92 : decode cX6_init 92 = .ok (.return_, 1) := by decide +kernel
theorem dX6_thrown_0 : decode cX6_thrown 0 = .ok (.aload_n 0, 1) := by decide +kernel
theorem dX6_thrown_1 : decode cX6_thrown 1 = .ok (.getfield 41, 3) := by decide +kernel
theorem dX6_thrown_4 : decode cX6_thrown 4 = .ok (.ireturn, 1) := by decide +kernel
theorem dX6_refused_0 : decode cX6_refused 0 = .ok (.aload_n 0, 1) := by decide +kernel
theorem dX6_refused_1 : decode cX6_refused 1 = .ok (.iload_n 1, 1) := by decide +kernel
theorem dX6_refused_2 : decode cX6_refused 2 = .ok (.putfield 41, 3) := by decide +kernel
theorem dX6_refused_5 : decode cX6_refused 5 = .ok (.iload_n 1, 1) := by decide +kernel
theorem dX6_refused_6 : decode cX6_refused 6 = .ok (.ifCond .le 7, 3) := by decide +kernel
theorem dX6_refused_9 : decode cX6_refused 9 = .ok (.iconst 1, 1) := by decide +kernel
theorem dX6_refused_10 : decode cX6_refused 10 = .ok (.goto 4, 3) := by decide +kernel
theorem dX6_refused_13 : decode cX6_refused 13 = .ok (.iconst 0, 1) := by decide +kernel
theorem dX6_refused_14 : decode cX6_refused 14 = .ok (.ireturn, 1) := by decide +kernel
theorem dX6_in_0 : decode cX6_in 0 = .ok (.lload_n 0, 1) := by decide +kernel
theorem dX6_in_1 : decode cX6_in 1 = .ok (.lload_n 2, 1) := by decide +kernel
theorem dX6_in_2 : decode cX6_in 2 = .ok (.lcmp, 1) := by decide +kernel
theorem dX6_in_3 : decode cX6_in 3 = .ok (.ifCond .lt 14, 3) := by decide +kernel
theorem dX6_in_6 : decode cX6_in 6 = .ok (.lload_n 0, 1) := by decide +kernel
theorem dX6_in_7 : decode cX6_in 7 = .ok (.lload 4, 2) := by decide +kernel
theorem dX6_in_9 : decode cX6_in 9 = .ok (.lcmp, 1) := by decide +kernel
theorem dX6_in_10 : decode cX6_in 10 = .ok (.ifCond .gt 7, 3) := by decide +kernel
theorem dX6_in_13 : decode cX6_in 13 = .ok (.iconst 1, 1) := by decide +kernel
theorem dX6_in_14 : decode cX6_in 14 = .ok (.goto 4, 3) := by decide +kernel
theorem dX6_in_17 : decode cX6_in 17 = .ok (.iconst 0, 1) := by decide +kernel
theorem dX6_in_18 : decode cX6_in 18 = .ok (.ireturn, 1) := by decide +kernel
theorem dX6_copy_0 : decode cX6_copy 0 = .ok (.iconst 0, 1) := by decide +kernel
theorem dX6_copy_1 : decode cX6_copy 1 = .ok (.istore 5, 2) := by decide +kernel
theorem dX6_copy_3 : decode cX6_copy 3 = .ok (.iload 5, 2) := by decide +kernel
theorem dX6_copy_5 : decode cX6_copy 5 = .ok (.iload 4, 2) := by decide +kernel
theorem dX6_copy_7 : decode cX6_copy 7 = .ok (.if_icmp .ge 21, 3) := by decide +kernel
theorem dX6_copy_10 : decode cX6_copy 10 = .ok (.aload_n 2, 1) := by decide +kernel
theorem dX6_copy_11 : decode cX6_copy 11 = .ok (.iload_n 3, 1) := by decide +kernel
theorem dX6_copy_12 : decode cX6_copy 12 = .ok (.iload 5, 2) := by decide +kernel
theorem dX6_copy_14 : decode cX6_copy 14 = .ok (.iadd, 1) := by decide +kernel
theorem dX6_copy_15 : decode cX6_copy 15 = .ok (.aload_n 0, 1) := by decide +kernel
theorem dX6_copy_16 : decode cX6_copy 16 = .ok (.iload_n 1, 1) := by decide +kernel
theorem dX6_copy_17 : decode cX6_copy 17 = .ok (.iload 5, 2) := by decide +kernel
theorem dX6_copy_19 : decode cX6_copy 19 = .ok (.iadd, 1) := by decide +kernel
theorem dX6_copy_20 : decode cX6_copy 20 = .ok (.iaload, 1) := by decide +kernel
theorem dX6_copy_21 : decode cX6_copy 21 = .ok (.iastore, 1) := by decide +kernel
theorem dX6_copy_22 : decode cX6_copy 22 = .ok (.iinc 5 1, 3) := by decide +kernel
theorem dX6_copy_25 : decode cX6_copy 25 = .ok (.goto (-22), 3) := by decide +kernel
theorem dX6_copy_28 : decode cX6_copy 28 = .ok (.return_, 1) := by decide +kernel
theorem dX6_tenTo_0 : decode cX6_tenTo 0 = .ok (.lconst 1, 1) := by decide +kernel
theorem dX6_tenTo_1 : decode cX6_tenTo 1 = .ok (.lstore_n 1, 1) := by decide +kernel
theorem dX6_tenTo_2 : decode cX6_tenTo 2 = .ok (.iconst 0, 1) := by decide +kernel
theorem dX6_tenTo_3 : decode cX6_tenTo 3 = .ok (.istore_n 3, 1) := by decide +kernel
theorem dX6_tenTo_4 : decode cX6_tenTo 4 = .ok (.iload_n 3, 1) := by decide +kernel
theorem dX6_tenTo_5 : decode cX6_tenTo 5 = .ok (.iload_n 0, 1) := by decide +kernel
theorem dX6_tenTo_6 : decode cX6_tenTo 6 = .ok (.if_icmp .ge 15, 3) := by decide +kernel
theorem dX6_tenTo_9 : decode cX6_tenTo 9 = .ok (.lload_n 1, 1) := by decide +kernel
theorem dX6_tenTo_10 : decode cX6_tenTo 10 = .ok (.ldc2_w 45, 3) := by decide +kernel
theorem dX6_tenTo_13 : decode cX6_tenTo 13 = .ok (.lmul, 1) := by decide +kernel
theorem dX6_tenTo_14 : decode cX6_tenTo 14 = .ok (.lstore_n 1, 1) := by decide +kernel
theorem dX6_tenTo_15 : decode cX6_tenTo 15 = .ok (.iinc 3 1, 3) := by decide +kernel
theorem dX6_tenTo_18 : decode cX6_tenTo 18 = .ok (.goto (-14), 3) := by decide +kernel
theorem dX6_tenTo_21 : decode cX6_tenTo 21 = .ok (.lload_n 1, 1) := by decide +kernel
theorem dX6_tenTo_22 : decode cX6_tenTo 22 = .ok (.lreturn, 1) := by decide +kernel
set_option maxRecDepth 20000 in
theorem ggX6_remember_X6_copy : GoodIn wsX6_remember wsX6_copy := goodIn_r _ [7] (by decide +kernel) (by decide +kernel)
set_option maxRecDepth 20000 in
theorem gX6_remember_X6_copy : GoodIn wsX6_remember (va_wsS RX6 50 yX6_copy wsX6_copy) := goodIn_app (goodIn_of _ (by decide +kernel)) ggX6_remember_X6_copy
theorem dX6_remember_0 : decode cX6_remember 0 = .ok (.aload_n 0, 1) := by decide +kernel
theorem dX6_remember_1 : decode cX6_remember 1 = .ok (.getfield 47, 3) := by decide +kernel
theorem dX6_remember_4 : decode cX6_remember 4 = .ok (.bipush 14, 2) := by decide +kernel
theorem dX6_remember_6 : decode cX6_remember 6 = .ok (.if_icmp .ne 30, 3) := by decide +kernel
theorem dX6_remember_9 : decode cX6_remember 9 = .ok (.aload_n 0, 1) := by decide +kernel
theorem dX6_remember_10 : decode cX6_remember 10 = .ok (.getfield 19, 3) := by decide +kernel
theorem dX6_remember_13 : decode cX6_remember 13 = .ok (.bipush 126, 2) := by decide +kernel
theorem dX6_remember_15 : decode cX6_remember 15 = .ok (.aload_n 0, 1) := by decide +kernel
theorem dX6_remember_16 : decode cX6_remember 16 = .ok (.getfield 19, 3) := by decide +kernel
theorem dX6_remember_19 : decode cX6_remember 19 = .ok (.iconst 0, 1) := by decide +kernel
theorem dX6_remember_20 : decode cX6_remember 20 = .ok (.sipush 1638, 3) := by decide +kernel
theorem dX6_remember_23 : decode cX6_remember 23 = .ok (.invokestatic 50, 3) := by decide +kernel
theorem dX6_remember_26 : decode cX6_remember 26 = .ok (.aload_n 0, 1) := by decide +kernel
theorem dX6_remember_27 : decode cX6_remember 27 = .ok (.dup, 1) := by decide +kernel
theorem dX6_remember_28 : decode cX6_remember 28 = .ok (.getfield 47, 3) := by decide +kernel
theorem dX6_remember_31 : decode cX6_remember 31 = .ok (.iconst 1, 1) := by decide +kernel
theorem dX6_remember_32 : decode cX6_remember 32 = .ok (.isub, 1) := by decide +kernel
theorem dX6_remember_33 : decode cX6_remember 33 = .ok (.putfield 47, 3) := by decide +kernel
theorem dX6_remember_36 : decode cX6_remember 36 = .ok (.aload_n 0, 1) := by decide +kernel
theorem dX6_remember_37 : decode cX6_remember 37 = .ok (.getfield 13, 3) := by decide +kernel
theorem dX6_remember_40 : decode cX6_remember 40 = .ok (.iconst 0, 1) := by decide +kernel
theorem dX6_remember_41 : decode cX6_remember 41 = .ok (.aload_n 0, 1) := by decide +kernel
theorem dX6_remember_42 : decode cX6_remember 42 = .ok (.getfield 19, 3) := by decide +kernel
theorem dX6_remember_45 : decode cX6_remember 45 = .ok (.bipush 126, 2) := by decide +kernel
theorem dX6_remember_47 : decode cX6_remember 47 = .ok (.aload_n 0, 1) := by decide +kernel
theorem dX6_remember_48 : decode cX6_remember 48 = .ok (.getfield 47, 3) := by decide +kernel
theorem dX6_remember_51 : decode cX6_remember 51 = .ok (.imul, 1) := by decide +kernel
theorem dX6_remember_52 : decode cX6_remember 52 = .ok (.bipush 126, 2) := by decide +kernel
theorem dX6_remember_54 : decode cX6_remember 54 = .ok (.invokestatic 50, 3) := by decide +kernel
theorem dX6_remember_57 : decode cX6_remember 57 = .ok (.aload_n 0, 1) := by decide +kernel
theorem dX6_remember_58 : decode cX6_remember 58 = .ok (.dup, 1) := by decide +kernel
theorem dX6_remember_59 : decode cX6_remember 59 = .ok (.getfield 47, 3) := by decide +kernel
theorem dX6_remember_62 : decode cX6_remember 62 = .ok (.iconst 1, 1) := by decide +kernel
theorem dX6_remember_63 : decode cX6_remember 63 = .ok (.iadd, 1) := by decide +kernel
theorem dX6_remember_64 : decode cX6_remember 64 = .ok (.putfield 47, 3) := by decide +kernel
theorem dX6_remember_67 : decode cX6_remember 67 = .ok (.return_, 1) := by decide +kernel
set_option maxRecDepth 20000 in
theorem ggX6_begin_X6_copy : GoodIn wsX6_begin wsX6_copy := goodIn_r _ [6] (by decide +kernel) (by decide +kernel)
set_option maxRecDepth 20000 in
theorem gX6_begin_X6_copy : GoodIn wsX6_begin (va_wsS RX6 50 yX6_copy wsX6_copy) := goodIn_app (goodIn_of _ (by decide +kernel)) ggX6_begin_X6_copy
theorem dX6_begin_0 : decode cX6_begin 0 = .ok (.aload_n 0, 1) := by decide +kernel
theorem dX6_begin_1 : decode cX6_begin 1 = .ok (.getfield 13, 3) := by decide +kernel
theorem dX6_begin_4 : decode cX6_begin 4 = .ok (.iconst 0, 1) := by decide +kernel
theorem dX6_begin_5 : decode cX6_begin 5 = .ok (.aload_n 0, 1) := by decide +kernel
theorem dX6_begin_6 : decode cX6_begin 6 = .ok (.getfield 16, 3) := by decide +kernel
theorem dX6_begin_9 : decode cX6_begin 9 = .ok (.iconst 0, 1) := by decide +kernel
theorem dX6_begin_10 : decode cX6_begin 10 = .ok (.bipush 126, 2) := by decide +kernel
theorem dX6_begin_12 : decode cX6_begin 12 = .ok (.invokestatic 50, 3) := by decide +kernel
theorem dX6_begin_15 : decode cX6_begin 15 = .ok (.return_, 1) := by decide +kernel
theorem dX6_alike_0 : decode cX6_alike 0 = .ok (.iconst 0, 1) := by decide +kernel
theorem dX6_alike_1 : decode cX6_alike 1 = .ok (.istore_n 3, 1) := by decide +kernel
theorem dX6_alike_2 : decode cX6_alike 2 = .ok (.iload_n 1, 1) := by decide +kernel
theorem dX6_alike_3 : decode cX6_alike 3 = .ok (.iload_n 3, 1) := by decide +kernel
theorem dX6_alike_4 : decode cX6_alike 4 = .ok (.iadd, 1) := by decide +kernel
theorem dX6_alike_5 : decode cX6_alike 5 = .ok (.aload_n 0, 1) := by decide +kernel
theorem dX6_alike_6 : decode cX6_alike 6 = .ok (.iconst 0, 1) := by decide +kernel
theorem dX6_alike_7 : decode cX6_alike 7 = .ok (.iaload, 1) := by decide +kernel
theorem dX6_alike_8 : decode cX6_alike 8 = .ok (.if_icmp .ge 37, 3) := by decide +kernel
theorem dX6_alike_11 : decode cX6_alike 11 = .ok (.iload_n 2, 1) := by decide +kernel
theorem dX6_alike_12 : decode cX6_alike 12 = .ok (.iload_n 3, 1) := by decide +kernel
theorem dX6_alike_13 : decode cX6_alike 13 = .ok (.iadd, 1) := by decide +kernel
theorem dX6_alike_14 : decode cX6_alike 14 = .ok (.aload_n 0, 1) := by decide +kernel
theorem dX6_alike_15 : decode cX6_alike 15 = .ok (.iconst 0, 1) := by decide +kernel
theorem dX6_alike_16 : decode cX6_alike 16 = .ok (.iaload, 1) := by decide +kernel
theorem dX6_alike_17 : decode cX6_alike 17 = .ok (.if_icmp .ge 28, 3) := by decide +kernel
theorem dX6_alike_20 : decode cX6_alike 20 = .ok (.aload_n 0, 1) := by decide +kernel
theorem dX6_alike_21 : decode cX6_alike 21 = .ok (.bipush 66, 2) := by decide +kernel
theorem dX6_alike_23 : decode cX6_alike 23 = .ok (.iload_n 1, 1) := by decide +kernel
theorem dX6_alike_24 : decode cX6_alike 24 = .ok (.iadd, 1) := by decide +kernel
theorem dX6_alike_25 : decode cX6_alike 25 = .ok (.iload_n 3, 1) := by decide +kernel
theorem dX6_alike_26 : decode cX6_alike 26 = .ok (.iadd, 1) := by decide +kernel
theorem dX6_alike_27 : decode cX6_alike 27 = .ok (.iaload, 1) := by decide +kernel
theorem dX6_alike_28 : decode cX6_alike 28 = .ok (.aload_n 0, 1) := by decide +kernel
theorem dX6_alike_29 : decode cX6_alike 29 = .ok (.bipush 66, 2) := by decide +kernel
theorem dX6_alike_31 : decode cX6_alike 31 = .ok (.iload_n 2, 1) := by decide +kernel
theorem dX6_alike_32 : decode cX6_alike 32 = .ok (.iadd, 1) := by decide +kernel
theorem dX6_alike_33 : decode cX6_alike 33 = .ok (.iload_n 3, 1) := by decide +kernel
theorem dX6_alike_34 : decode cX6_alike 34 = .ok (.iadd, 1) := by decide +kernel
theorem dX6_alike_35 : decode cX6_alike 35 = .ok (.iaload, 1) := by decide +kernel
theorem dX6_alike_36 : decode cX6_alike 36 = .ok (.if_icmp .ne 9, 3) := by decide +kernel
theorem dX6_alike_39 : decode cX6_alike 39 = .ok (.iinc 3 1, 3) := by decide +kernel
theorem dX6_alike_42 : decode cX6_alike 42 = .ok (.goto (-40), 3) := by decide +kernel
theorem dX6_alike_45 : decode cX6_alike 45 = .ok (.iload_n 3, 1) := by decide +kernel
theorem dX6_alike_46 : decode cX6_alike 46 = .ok (.ireturn, 1) := by decide +kernel
set_option maxRecDepth 20000 in
theorem ggX6_isAhead_X6_alike : GoodIn wsX6_isAhead wsX6_alike := goodIn_r _ [4] (by decide +kernel) (by decide +kernel)
set_option maxRecDepth 20000 in
theorem gX6_isAhead_X6_alike : GoodIn wsX6_isAhead (va_wsS RX6 54 yX6_alike wsX6_alike) := goodIn_app (goodIn_of _ (by decide +kernel)) ggX6_isAhead_X6_alike
theorem dX6_isAhead_0 : decode cX6_isAhead 0 = .ok (.aload_n 0, 1) := by decide +kernel
theorem dX6_isAhead_1 : decode cX6_isAhead 1 = .ok (.iload_n 1, 1) := by decide +kernel
theorem dX6_isAhead_2 : decode cX6_isAhead 2 = .ok (.iload_n 2, 1) := by decide +kernel
theorem dX6_isAhead_3 : decode cX6_isAhead 3 = .ok (.invokestatic 54, 3) := by decide +kernel
theorem dX6_isAhead_6 : decode cX6_isAhead 6 = .ok (.istore_n 3, 1) := by decide +kernel
theorem dX6_isAhead_7 : decode cX6_isAhead 7 = .ok (.iload_n 1, 1) := by decide +kernel
theorem dX6_isAhead_8 : decode cX6_isAhead 8 = .ok (.iload_n 3, 1) := by decide +kernel
theorem dX6_isAhead_9 : decode cX6_isAhead 9 = .ok (.iadd, 1) := by decide +kernel
theorem dX6_isAhead_10 : decode cX6_isAhead 10 = .ok (.aload_n 0, 1) := by decide +kernel
theorem dX6_isAhead_11 : decode cX6_isAhead 11 = .ok (.iconst 0, 1) := by decide +kernel
theorem dX6_isAhead_12 : decode cX6_isAhead 12 = .ok (.iaload, 1) := by decide +kernel
theorem dX6_isAhead_13 : decode cX6_isAhead 13 = .ok (.if_icmp .eq 31, 3) := by decide +kernel
theorem dX6_isAhead_16 : decode cX6_isAhead 16 = .ok (.iload_n 2, 1) := by decide +kernel
theorem dX6_isAhead_17 : decode cX6_isAhead 17 = .ok (.iload_n 3, 1) := by decide +kernel
theorem dX6_isAhead_18 : decode cX6_isAhead 18 = .ok (.iadd, 1) := by decide +kernel
theorem dX6_isAhead_19 : decode cX6_isAhead 19 = .ok (.aload_n 0, 1) := by decide +kernel
theorem dX6_isAhead_20 : decode cX6_isAhead 20 = .ok (.iconst 0, 1) := by decide +kernel
theorem dX6_isAhead_21 : decode cX6_isAhead 21 = .ok (.iaload, 1) := by decide +kernel
theorem dX6_isAhead_22 : decode cX6_isAhead 22 = .ok (.if_icmp .ge 26, 3) := by decide +kernel
theorem dX6_isAhead_25 : decode cX6_isAhead 25 = .ok (.aload_n 0, 1) := by decide +kernel
theorem dX6_isAhead_26 : decode cX6_isAhead 26 = .ok (.bipush 66, 2) := by decide +kernel
theorem dX6_isAhead_28 : decode cX6_isAhead 28 = .ok (.iload_n 1, 1) := by decide +kernel
theorem dX6_isAhead_29 : decode cX6_isAhead 29 = .ok (.iadd, 1) := by decide +kernel
theorem dX6_isAhead_30 : decode cX6_isAhead 30 = .ok (.iload_n 3, 1) := by decide +kernel
theorem dX6_isAhead_31 : decode cX6_isAhead 31 = .ok (.iadd, 1) := by decide +kernel
theorem dX6_isAhead_32 : decode cX6_isAhead 32 = .ok (.iaload, 1) := by decide +kernel
theorem dX6_isAhead_33 : decode cX6_isAhead 33 = .ok (.aload_n 0, 1) := by decide +kernel
theorem dX6_isAhead_34 : decode cX6_isAhead 34 = .ok (.bipush 66, 2) := by decide +kernel
theorem dX6_isAhead_36 : decode cX6_isAhead 36 = .ok (.iload_n 2, 1) := by decide +kernel
theorem dX6_isAhead_37 : decode cX6_isAhead 37 = .ok (.iadd, 1) := by decide +kernel
theorem dX6_isAhead_38 : decode cX6_isAhead 38 = .ok (.iload_n 3, 1) := by decide +kernel
theorem dX6_isAhead_39 : decode cX6_isAhead 39 = .ok (.iadd, 1) := by decide +kernel
theorem dX6_isAhead_40 : decode cX6_isAhead 40 = .ok (.iaload, 1) := by decide +kernel
theorem dX6_isAhead_41 : decode cX6_isAhead 41 = .ok (.if_icmp .ge 7, 3) := by decide +kernel
theorem dX6_isAhead_44 : decode cX6_isAhead 44 = .ok (.iconst 1, 1) := by decide +kernel
theorem dX6_isAhead_45 : decode cX6_isAhead 45 = .ok (.goto 4, 3) := by decide +kernel
theorem dX6_isAhead_48 : decode cX6_isAhead 48 = .ok (.iconst 0, 1) := by decide +kernel
theorem dX6_isAhead_49 : decode cX6_isAhead 49 = .ok (.ireturn, 1) := by decide +kernel
set_option maxRecDepth 20000 in
theorem ggX6_lay_X6_isAhead : GoodIn wsX6_lay wsX6_isAhead := goodIn_r _ [6, 7, 8, 5, 9] (by decide +kernel) (by decide +kernel)
set_option maxRecDepth 20000 in
theorem gX6_lay_X6_isAhead : GoodIn wsX6_lay (va_wsS RX6 58 yX6_isAhead wsX6_isAhead) := goodIn_app (goodIn_of _ (by decide +kernel)) ggX6_lay_X6_isAhead
theorem dX6_lay_0 : decode cX6_lay 0 = .ok (.iconst 0, 1) := by decide +kernel
theorem dX6_lay_1 : decode cX6_lay 1 = .ok (.istore_n 2, 1) := by decide +kernel
theorem dX6_lay_2 : decode cX6_lay 2 = .ok (.iload_n 2, 1) := by decide +kernel
theorem dX6_lay_3 : decode cX6_lay 3 = .ok (.aload_n 1, 1) := by decide +kernel
theorem dX6_lay_4 : decode cX6_lay 4 = .ok (.iconst 0, 1) := by decide +kernel
theorem dX6_lay_5 : decode cX6_lay 5 = .ok (.iaload, 1) := by decide +kernel
theorem dX6_lay_6 : decode cX6_lay 6 = .ok (.if_icmp .ge 58, 3) := by decide +kernel
theorem dX6_lay_9 : decode cX6_lay 9 = .ok (.iload_n 2, 1) := by decide +kernel
theorem dX6_lay_10 : decode cX6_lay 10 = .ok (.istore_n 3, 1) := by decide +kernel
theorem dX6_lay_11 : decode cX6_lay 11 = .ok (.iload_n 3, 1) := by decide +kernel
theorem dX6_lay_12 : decode cX6_lay 12 = .ok (.ifCond .le 39, 3) := by decide +kernel
theorem dX6_lay_15 : decode cX6_lay 15 = .ok (.aload_n 1, 1) := by decide +kernel
theorem dX6_lay_16 : decode cX6_lay 16 = .ok (.iload_n 2, 1) := by decide +kernel
theorem dX6_lay_17 : decode cX6_lay 17 = .ok (.aload_n 0, 1) := by decide +kernel
theorem dX6_lay_18 : decode cX6_lay 18 = .ok (.getfield 29, 3) := by decide +kernel
theorem dX6_lay_21 : decode cX6_lay 21 = .ok (.iload_n 3, 1) := by decide +kernel
theorem dX6_lay_22 : decode cX6_lay 22 = .ok (.iconst 1, 1) := by decide +kernel
theorem dX6_lay_23 : decode cX6_lay 23 = .ok (.isub, 1) := by decide +kernel
theorem dX6_lay_24 : decode cX6_lay 24 = .ok (.iaload, 1) := by decide +kernel
theorem dX6_lay_25 : decode cX6_lay 25 = .ok (.invokestatic 58, 3) := by decide +kernel
theorem dX6_lay_28 : decode cX6_lay 28 = .ok (.ifCond .eq 23, 3) := by decide +kernel
theorem dX6_lay_31 : decode cX6_lay 31 = .ok (.aload_n 0, 1) := by decide +kernel
theorem dX6_lay_32 : decode cX6_lay 32 = .ok (.getfield 29, 3) := by decide +kernel
theorem dX6_lay_35 : decode cX6_lay 35 = .ok (.iload_n 3, 1) := by decide +kernel
theorem dX6_lay_36 : decode cX6_lay 36 = .ok (.aload_n 0, 1) := by decide +kernel
theorem dX6_lay_37 : decode cX6_lay 37 = .ok (.getfield 29, 3) := by decide +kernel
theorem dX6_lay_40 : decode cX6_lay 40 = .ok (.iload_n 3, 1) := by decide +kernel
theorem dX6_lay_41 : decode cX6_lay 41 = .ok (.iconst 1, 1) := by decide +kernel
theorem dX6_lay_42 : decode cX6_lay 42 = .ok (.isub, 1) := by decide +kernel
theorem dX6_lay_43 : decode cX6_lay 43 = .ok (.iaload, 1) := by decide +kernel
theorem dX6_lay_44 : decode cX6_lay 44 = .ok (.iastore, 1) := by decide +kernel
theorem dX6_lay_45 : decode cX6_lay 45 = .ok (.iinc 3 (-1), 3) := by decide +kernel
theorem dX6_lay_48 : decode cX6_lay 48 = .ok (.goto (-37), 3) := by decide +kernel
theorem dX6_lay_51 : decode cX6_lay 51 = .ok (.aload_n 0, 1) := by decide +kernel
theorem dX6_lay_52 : decode cX6_lay 52 = .ok (.getfield 29, 3) := by decide +kernel
theorem dX6_lay_55 : decode cX6_lay 55 = .ok (.iload_n 3, 1) := by decide +kernel
theorem dX6_lay_56 : decode cX6_lay 56 = .ok (.iload_n 2, 1) := by decide +kernel
theorem dX6_lay_57 : decode cX6_lay 57 = .ok (.iastore, 1) := by decide +kernel
theorem dX6_lay_58 : decode cX6_lay 58 = .ok (.iinc 2 1, 3) := by decide +kernel
theorem dX6_lay_61 : decode cX6_lay 61 = .ok (.goto (-59), 3) := by decide +kernel
theorem dX6_lay_64 : decode cX6_lay 64 = .ok (.iconst 0, 1) := by decide +kernel
theorem dX6_lay_65 : decode cX6_lay 65 = .ok (.istore_n 2, 1) := by decide +kernel
theorem dX6_lay_66 : decode cX6_lay 66 = .ok (.iload_n 2, 1) := by decide +kernel
theorem dX6_lay_67 : decode cX6_lay 67 = .ok (.aload_n 1, 1) := by decide +kernel
theorem dX6_lay_68 : decode cX6_lay 68 = .ok (.iconst 0, 1) := by decide +kernel
theorem dX6_lay_69 : decode cX6_lay 69 = .ok (.iaload, 1) := by decide +kernel
theorem dX6_lay_70 : decode cX6_lay 70 = .ok (.if_icmp .ge 21, 3) := by decide +kernel
theorem dX6_lay_73 : decode cX6_lay 73 = .ok (.aload_n 0, 1) := by decide +kernel
theorem dX6_lay_74 : decode cX6_lay 74 = .ok (.getfield 32, 3) := by decide +kernel
theorem dX6_lay_77 : decode cX6_lay 77 = .ok (.aload_n 0, 1) := by decide +kernel
theorem dX6_lay_78 : decode cX6_lay 78 = .ok (.getfield 29, 3) := by decide +kernel
theorem dX6_lay_81 : decode cX6_lay 81 = .ok (.iload_n 2, 1) := by decide +kernel
theorem dX6_lay_82 : decode cX6_lay 82 = .ok (.iaload, 1) := by decide +kernel
theorem dX6_lay_83 : decode cX6_lay 83 = .ok (.iload_n 2, 1) := by decide +kernel
theorem dX6_lay_84 : decode cX6_lay 84 = .ok (.iastore, 1) := by decide +kernel
theorem dX6_lay_85 : decode cX6_lay 85 = .ok (.iinc 2 1, 3) := by decide +kernel
theorem dX6_lay_88 : decode cX6_lay 88 = .ok (.goto (-22), 3) := by decide +kernel
theorem dX6_lay_91 : decode cX6_lay 91 = .ok (.return_, 1) := by decide +kernel
theorem dX6_firstOf_0 : decode cX6_firstOf 0 = .ok (.iload_n 1, 1) := by decide +kernel
theorem dX6_firstOf_1 : decode cX6_firstOf 1 = .ok (.aload_n 0, 1) := by decide +kernel
theorem dX6_firstOf_2 : decode cX6_firstOf 2 = .ok (.iconst 0, 1) := by decide +kernel
theorem dX6_firstOf_3 : decode cX6_firstOf 3 = .ok (.iaload, 1) := by decide +kernel
theorem dX6_firstOf_4 : decode cX6_firstOf 4 = .ok (.imul, 1) := by decide +kernel
theorem dX6_firstOf_5 : decode cX6_firstOf 5 = .ok (.aload_n 0, 1) := by decide +kernel
theorem dX6_firstOf_6 : decode cX6_firstOf 6 = .ok (.iconst 2, 1) := by decide +kernel
theorem dX6_firstOf_7 : decode cX6_firstOf 7 = .ok (.iaload, 1) := by decide +kernel
theorem dX6_firstOf_8 : decode cX6_firstOf 8 = .ok (.idiv, 1) := by decide +kernel
theorem dX6_firstOf_9 : decode cX6_firstOf 9 = .ok (.ireturn, 1) := by decide +kernel
set_option maxRecDepth 20000 in
theorem ggX6_singerOf_X6_firstOf : GoodIn wsX6_singerOf wsX6_firstOf := goodIn_r _ [4] (by decide +kernel) (by decide +kernel)
set_option maxRecDepth 20000 in
theorem gX6_singerOf_X6_firstOf : GoodIn wsX6_singerOf (va_wsS RX6 62 yX6_firstOf wsX6_firstOf) := goodIn_app (goodIn_of _ (by decide +kernel)) ggX6_singerOf_X6_firstOf
theorem dX6_singerOf_0 : decode cX6_singerOf 0 = .ok (.iconst 0, 1) := by decide +kernel
theorem dX6_singerOf_1 : decode cX6_singerOf 1 = .ok (.istore_n 2, 1) := by decide +kernel
theorem dX6_singerOf_2 : decode cX6_singerOf 2 = .ok (.aload_n 0, 1) := by decide +kernel
theorem dX6_singerOf_3 : decode cX6_singerOf 3 = .ok (.iload_n 2, 1) := by decide +kernel
theorem dX6_singerOf_4 : decode cX6_singerOf 4 = .ok (.iconst 1, 1) := by decide +kernel
theorem dX6_singerOf_5 : decode cX6_singerOf 5 = .ok (.iadd, 1) := by decide +kernel
theorem dX6_singerOf_6 : decode cX6_singerOf 6 = .ok (.invokestatic 62, 3) := by decide +kernel
theorem dX6_singerOf_9 : decode cX6_singerOf 9 = .ok (.iload_n 1, 1) := by decide +kernel
theorem dX6_singerOf_10 : decode cX6_singerOf 10 = .ok (.if_icmp .gt 9, 3) := by decide +kernel
theorem dX6_singerOf_13 : decode cX6_singerOf 13 = .ok (.iinc 2 1, 3) := by decide +kernel
theorem dX6_singerOf_16 : decode cX6_singerOf 16 = .ok (.goto (-14), 3) := by decide +kernel
theorem dX6_singerOf_19 : decode cX6_singerOf 19 = .ok (.iload_n 2, 1) := by decide +kernel
theorem dX6_singerOf_20 : decode cX6_singerOf 20 = .ok (.ireturn, 1) := by decide +kernel
set_option maxRecDepth 20000 in
theorem ggX6_watch_X6_lay : GoodIn wsX6_watch wsX6_lay := goodIn_r _ [7, 8, 2, 9, 10, 6, 11, 12, 13, 14, 21, 22, 23, 24, 25, 26, 27, 28, 29, 30, 31, 32, 33, 34] (by decide +kernel) (by decide +kernel)
set_option maxRecDepth 20000 in
theorem gX6_watch_X6_lay : GoodIn wsX6_watch (wsV RX6 66 RX6 yX6_lay wsX6_lay) := goodIn_app (goodIn_of _ (by decide +kernel)) ggX6_watch_X6_lay
set_option maxRecDepth 20000 in
theorem ggX6_watch_X6_singerOf : GoodIn wsX6_watch wsX6_singerOf := goodIn_r _ [17, 18, 19, 6, 20] (by decide +kernel) (by decide +kernel)
set_option maxRecDepth 20000 in
theorem gX6_watch_X6_singerOf : GoodIn wsX6_watch (va_wsS RX6 70 yX6_singerOf wsX6_singerOf) := goodIn_app (goodIn_of _ (by decide +kernel)) ggX6_watch_X6_singerOf
theorem dX6_watch_0 : decode cX6_watch 0 = .ok (.aload_n 0, 1) := by decide +kernel
theorem dX6_watch_1 : decode cX6_watch 1 = .ok (.aload_n 1, 1) := by decide +kernel
theorem dX6_watch_2 : decode cX6_watch 2 = .ok (.invokevirtual 66, 3) := by decide +kernel
theorem dX6_watch_5 : decode cX6_watch 5 = .ok (.iconst 0, 1) := by decide +kernel
theorem dX6_watch_6 : decode cX6_watch 6 = .ok (.istore_n 2, 1) := by decide +kernel
theorem dX6_watch_7 : decode cX6_watch 7 = .ok (.iload_n 2, 1) := by decide +kernel
theorem dX6_watch_8 : decode cX6_watch 8 = .ok (.aload_n 1, 1) := by decide +kernel
theorem dX6_watch_9 : decode cX6_watch 9 = .ok (.iconst 0, 1) := by decide +kernel
theorem dX6_watch_10 : decode cX6_watch 10 = .ok (.iaload, 1) := by decide +kernel
theorem dX6_watch_11 : decode cX6_watch 11 = .ok (.if_icmp .ge 25, 3) := by decide +kernel
theorem dX6_watch_14 : decode cX6_watch 14 = .ok (.aload_n 0, 1) := by decide +kernel
theorem dX6_watch_15 : decode cX6_watch 15 = .ok (.getfield 35, 3) := by decide +kernel
theorem dX6_watch_18 : decode cX6_watch 18 = .ok (.iload_n 2, 1) := by decide +kernel
theorem dX6_watch_19 : decode cX6_watch 19 = .ok (.aload_n 1, 1) := by decide +kernel
theorem dX6_watch_20 : decode cX6_watch 20 = .ok (.aload_n 0, 1) := by decide +kernel
theorem dX6_watch_21 : decode cX6_watch 21 = .ok (.getfield 32, 3) := by decide +kernel
theorem dX6_watch_24 : decode cX6_watch 24 = .ok (.iload_n 2, 1) := by decide +kernel
theorem dX6_watch_25 : decode cX6_watch 25 = .ok (.iaload, 1) := by decide +kernel
theorem dX6_watch_26 : decode cX6_watch 26 = .ok (.invokestatic 70, 3) := by decide +kernel
theorem dX6_watch_29 : decode cX6_watch 29 = .ok (.iastore, 1) := by decide +kernel
theorem dX6_watch_30 : decode cX6_watch 30 = .ok (.iinc 2 1, 3) := by decide +kernel
theorem dX6_watch_33 : decode cX6_watch 33 = .ok (.goto (-26), 3) := by decide +kernel
theorem dX6_watch_36 : decode cX6_watch 36 = .ok (.return_, 1) := by decide +kernel
set_option maxRecDepth 20000 in
theorem ggX6_handOver_X6_lay : GoodIn wsX6_handOver wsX6_lay := goodIn_r _ [7, 8, 2, 9, 10, 6, 11, 12, 13, 14, 21, 22, 23, 24, 25, 26, 27, 28, 29, 30, 31, 32, 33, 34] (by decide +kernel) (by decide +kernel)
set_option maxRecDepth 20000 in
theorem gX6_handOver_X6_lay : GoodIn wsX6_handOver (wsV RX6 66 RX6 yX6_lay wsX6_lay) := goodIn_app (goodIn_of _ (by decide +kernel)) ggX6_handOver_X6_lay
set_option maxRecDepth 20000 in
theorem ggX6_handOver_X6_singerOf : GoodIn wsX6_handOver wsX6_singerOf := goodIn_r _ [17, 18, 19, 6, 20] (by decide +kernel) (by decide +kernel)
set_option maxRecDepth 20000 in
theorem gX6_handOver_X6_singerOf : GoodIn wsX6_handOver (va_wsS RX6 70 yX6_singerOf wsX6_singerOf) := goodIn_app (goodIn_of _ (by decide +kernel)) ggX6_handOver_X6_singerOf
theorem dX6_handOver_0 : decode cX6_handOver 0 = .ok (.aload_n 0, 1) := by decide +kernel
theorem dX6_handOver_1 : decode cX6_handOver 1 = .ok (.aload_n 1, 1) := by decide +kernel
theorem dX6_handOver_2 : decode cX6_handOver 2 = .ok (.invokevirtual 66, 3) := by decide +kernel
theorem dX6_handOver_5 : decode cX6_handOver 5 = .ok (.iconst 0, 1) := by decide +kernel
theorem dX6_handOver_6 : decode cX6_handOver 6 = .ok (.istore 4, 2) := by decide +kernel
theorem dX6_handOver_8 : decode cX6_handOver 8 = .ok (.iconst 0, 1) := by decide +kernel
theorem dX6_handOver_9 : decode cX6_handOver 9 = .ok (.istore 5, 2) := by decide +kernel
theorem dX6_handOver_11 : decode cX6_handOver 11 = .ok (.iload 5, 2) := by decide +kernel
theorem dX6_handOver_13 : decode cX6_handOver 13 = .ok (.aload_n 1, 1) := by decide +kernel
theorem dX6_handOver_14 : decode cX6_handOver 14 = .ok (.iconst 0, 1) := by decide +kernel
theorem dX6_handOver_15 : decode cX6_handOver 15 = .ok (.iaload, 1) := by decide +kernel
theorem dX6_handOver_16 : decode cX6_handOver 16 = .ok (.if_icmp .ge 56, 3) := by decide +kernel
theorem dX6_handOver_19 : decode cX6_handOver 19 = .ok (.iload 5, 2) := by decide +kernel
theorem dX6_handOver_21 : decode cX6_handOver 21 = .ok (.aload_n 1, 1) := by decide +kernel
theorem dX6_handOver_22 : decode cX6_handOver 22 = .ok (.iconst 3, 1) := by decide +kernel
theorem dX6_handOver_23 : decode cX6_handOver 23 = .ok (.iaload, 1) := by decide +kernel
theorem dX6_handOver_24 : decode cX6_handOver 24 = .ok (.iadd, 1) := by decide +kernel
theorem dX6_handOver_25 : decode cX6_handOver 25 = .ok (.iload_n 3, 1) := by decide +kernel
theorem dX6_handOver_26 : decode cX6_handOver 26 = .ok (.isub, 1) := by decide +kernel
theorem dX6_handOver_27 : decode cX6_handOver 27 = .ok (.istore 6, 2) := by decide +kernel
theorem dX6_handOver_29 : decode cX6_handOver 29 = .ok (.iload 4, 2) := by decide +kernel
theorem dX6_handOver_31 : decode cX6_handOver 31 = .ok (.iload 6, 2) := by decide +kernel
theorem dX6_handOver_33 : decode cX6_handOver 33 = .ok (.iload_n 2, 1) := by decide +kernel
theorem dX6_handOver_34 : decode cX6_handOver 34 = .ok (.if_icmp .ge 28, 3) := by decide +kernel
theorem dX6_handOver_37 : decode cX6_handOver 37 = .ok (.aload_n 0, 1) := by decide +kernel
theorem dX6_handOver_38 : decode cX6_handOver 38 = .ok (.getfield 35, 3) := by decide +kernel
theorem dX6_handOver_41 : decode cX6_handOver 41 = .ok (.iload 6, 2) := by decide +kernel
theorem dX6_handOver_43 : decode cX6_handOver 43 = .ok (.iaload, 1) := by decide +kernel
theorem dX6_handOver_44 : decode cX6_handOver 44 = .ok (.aload_n 1, 1) := by decide +kernel
theorem dX6_handOver_45 : decode cX6_handOver 45 = .ok (.aload_n 0, 1) := by decide +kernel
theorem dX6_handOver_46 : decode cX6_handOver 46 = .ok (.getfield 32, 3) := by decide +kernel
theorem dX6_handOver_49 : decode cX6_handOver 49 = .ok (.iload 5, 2) := by decide +kernel
theorem dX6_handOver_51 : decode cX6_handOver 51 = .ok (.iaload, 1) := by decide +kernel
theorem dX6_handOver_52 : decode cX6_handOver 52 = .ok (.invokestatic 70, 3) := by decide +kernel
theorem dX6_handOver_55 : decode cX6_handOver 55 = .ok (.if_icmp .eq 7, 3) := by decide +kernel
theorem dX6_handOver_58 : decode cX6_handOver 58 = .ok (.iconst 1, 1) := by decide +kernel
theorem dX6_handOver_59 : decode cX6_handOver 59 = .ok (.goto 4, 3) := by decide +kernel
theorem dX6_handOver_62 : decode cX6_handOver 62 = .ok (.iconst 0, 1) := by decide +kernel
theorem dX6_handOver_63 : decode cX6_handOver 63 = .ok (.iadd, 1) := by decide +kernel
theorem dX6_handOver_64 : decode cX6_handOver 64 = .ok (.istore 4, 2) := by decide +kernel
theorem dX6_handOver_66 : decode cX6_handOver 66 = .ok (.iinc 5 1, 3) := by decide +kernel
theorem dX6_handOver_69 : decode cX6_handOver 69 = .ok (.goto (-58), 3) := by decide +kernel
theorem dX6_handOver_72 : decode cX6_handOver 72 = .ok (.aload_n 1, 1) := by decide +kernel
theorem dX6_handOver_73 : decode cX6_handOver 73 = .ok (.iconst 4, 1) := by decide +kernel
theorem dX6_handOver_74 : decode cX6_handOver 74 = .ok (.dup2, 1) := by decide +kernel
theorem dX6_handOver_75 : decode cX6_handOver 75 = .ok (.iaload, 1) := by decide +kernel
theorem dX6_handOver_76 : decode cX6_handOver 76 = .ok (.iload 4, 2) := by decide +kernel
theorem dX6_handOver_78 : decode cX6_handOver 78 = .ok (.iadd, 1) := by decide +kernel
theorem dX6_handOver_79 : decode cX6_handOver 79 = .ok (.iastore, 1) := by decide +kernel
theorem dX6_handOver_80 : decode cX6_handOver 80 = .ok (.iload 4, 2) := by decide +kernel
theorem dX6_handOver_82 : decode cX6_handOver 82 = .ok (.ireturn, 1) := by decide +kernel
set_option maxRecDepth 20000 in
theorem ggX6_drop_X6_copy : GoodIn wsX6_drop wsX6_copy := goodIn_r _ [4] (by decide +kernel) (by decide +kernel)
set_option maxRecDepth 20000 in
theorem gX6_drop_X6_copy : GoodIn wsX6_drop (va_wsS RX6 50 yX6_copy wsX6_copy) := goodIn_app (goodIn_of _ (by decide +kernel)) ggX6_drop_X6_copy
theorem dX6_drop_0 : decode cX6_drop 0 = .ok (.aload_n 0, 1) := by decide +kernel
theorem dX6_drop_1 : decode cX6_drop 1 = .ok (.bipush 6, 2) := by decide +kernel
theorem dX6_drop_3 : decode cX6_drop 3 = .ok (.iaload, 1) := by decide +kernel
theorem dX6_drop_4 : decode cX6_drop 4 = .ok (.istore_n 1, 1) := by decide +kernel
theorem dX6_drop_5 : decode cX6_drop 5 = .ok (.aload_n 0, 1) := by decide +kernel
theorem dX6_drop_6 : decode cX6_drop 6 = .ok (.bipush 66, 2) := by decide +kernel
theorem dX6_drop_8 : decode cX6_drop 8 = .ok (.iload_n 1, 1) := by decide +kernel
theorem dX6_drop_9 : decode cX6_drop 9 = .ok (.iadd, 1) := by decide +kernel
theorem dX6_drop_10 : decode cX6_drop 10 = .ok (.aload_n 0, 1) := by decide +kernel
theorem dX6_drop_11 : decode cX6_drop 11 = .ok (.bipush 66, 2) := by decide +kernel
theorem dX6_drop_13 : decode cX6_drop 13 = .ok (.aload_n 0, 1) := by decide +kernel
theorem dX6_drop_14 : decode cX6_drop 14 = .ok (.iconst 0, 1) := by decide +kernel
theorem dX6_drop_15 : decode cX6_drop 15 = .ok (.iaload, 1) := by decide +kernel
theorem dX6_drop_16 : decode cX6_drop 16 = .ok (.iload_n 1, 1) := by decide +kernel
theorem dX6_drop_17 : decode cX6_drop 17 = .ok (.isub, 1) := by decide +kernel
theorem dX6_drop_18 : decode cX6_drop 18 = .ok (.invokestatic 50, 3) := by decide +kernel
theorem dX6_drop_21 : decode cX6_drop 21 = .ok (.aload_n 0, 1) := by decide +kernel
theorem dX6_drop_22 : decode cX6_drop 22 = .ok (.bipush 7, 2) := by decide +kernel
theorem dX6_drop_24 : decode cX6_drop 24 = .ok (.aload_n 0, 1) := by decide +kernel
theorem dX6_drop_25 : decode cX6_drop 25 = .ok (.bipush 6, 2) := by decide +kernel
theorem dX6_drop_27 : decode cX6_drop 27 = .ok (.aload_n 0, 1) := by decide +kernel
theorem dX6_drop_28 : decode cX6_drop 28 = .ok (.iconst 1, 1) := by decide +kernel
theorem dX6_drop_29 : decode cX6_drop 29 = .ok (.iaload, 1) := by decide +kernel
theorem dX6_drop_30 : decode cX6_drop 30 = .ok (.iconst 1, 1) := by decide +kernel
theorem dX6_drop_31 : decode cX6_drop 31 = .ok (.isub, 1) := by decide +kernel
theorem dX6_drop_32 : decode cX6_drop 32 = .ok (.invokestatic 50, 3) := by decide +kernel
theorem dX6_drop_35 : decode cX6_drop 35 = .ok (.aload_n 0, 1) := by decide +kernel
theorem dX6_drop_36 : decode cX6_drop 36 = .ok (.iconst 0, 1) := by decide +kernel
theorem dX6_drop_37 : decode cX6_drop 37 = .ok (.dup2, 1) := by decide +kernel
theorem dX6_drop_38 : decode cX6_drop 38 = .ok (.iaload, 1) := by decide +kernel
theorem dX6_drop_39 : decode cX6_drop 39 = .ok (.iload_n 1, 1) := by decide +kernel
theorem dX6_drop_40 : decode cX6_drop 40 = .ok (.isub, 1) := by decide +kernel
theorem dX6_drop_41 : decode cX6_drop 41 = .ok (.iastore, 1) := by decide +kernel
theorem dX6_drop_42 : decode cX6_drop 42 = .ok (.aload_n 0, 1) := by decide +kernel
theorem dX6_drop_43 : decode cX6_drop 43 = .ok (.iconst 1, 1) := by decide +kernel
theorem dX6_drop_44 : decode cX6_drop 44 = .ok (.dup2, 1) := by decide +kernel
theorem dX6_drop_45 : decode cX6_drop 45 = .ok (.iaload, 1) := by decide +kernel
theorem dX6_drop_46 : decode cX6_drop 46 = .ok (.iconst 1, 1) := by decide +kernel
theorem dX6_drop_47 : decode cX6_drop 47 = .ok (.isub, 1) := by decide +kernel
theorem dX6_drop_48 : decode cX6_drop 48 = .ok (.iastore, 1) := by decide +kernel
theorem dX6_drop_49 : decode cX6_drop 49 = .ok (.aload_n 0, 1) := by decide +kernel
theorem dX6_drop_50 : decode cX6_drop 50 = .ok (.iconst 3, 1) := by decide +kernel
theorem dX6_drop_51 : decode cX6_drop 51 = .ok (.dup2, 1) := by decide +kernel
theorem dX6_drop_52 : decode cX6_drop 52 = .ok (.iaload, 1) := by decide +kernel
theorem dX6_drop_53 : decode cX6_drop 53 = .ok (.iload_n 1, 1) := by decide +kernel
theorem dX6_drop_54 : decode cX6_drop 54 = .ok (.iadd, 1) := by decide +kernel
theorem dX6_drop_55 : decode cX6_drop 55 = .ok (.iastore, 1) := by decide +kernel
theorem dX6_drop_56 : decode cX6_drop 56 = .ok (.return_, 1) := by decide +kernel
set_option maxRecDepth 20000 in
theorem ggX6_singIn_X6_watch : GoodIn wsX6_singIn wsX6_watch := goodIn_r _ [7, 8, 9, 10, 11, 12, 6, 13, 14, 15, 16, 17, 18, 19, 20, 21, 22, 23, 24, 25, 26, 37, 38, 39, 40, 41, 42, 43, 44, 45, 46, 47, 48, 49, 50] (by decide +kernel) (by decide +kernel)
set_option maxRecDepth 20000 in
theorem gX6_singIn_X6_watch : GoodIn wsX6_singIn (wsV RX6 73 RX6 yX6_watch wsX6_watch) := goodIn_app (goodIn_of _ (by decide +kernel)) ggX6_singIn_X6_watch
set_option maxRecDepth 20000 in
theorem ggX6_singIn_X6_copy : GoodIn wsX6_singIn wsX6_copy := goodIn_r _ [29] (by decide +kernel) (by decide +kernel)
set_option maxRecDepth 20000 in
theorem gX6_singIn_X6_copy : GoodIn wsX6_singIn (va_wsS RX6 50 yX6_copy wsX6_copy) := goodIn_app (goodIn_of _ (by decide +kernel)) ggX6_singIn_X6_copy
set_option maxRecDepth 20000 in
theorem ggX6_singIn_X6_drop : GoodIn wsX6_singIn wsX6_drop := goodIn_r _ [32, 27, 28, 6, 29] (by decide +kernel) (by decide +kernel)
set_option maxRecDepth 20000 in
theorem gX6_singIn_X6_drop : GoodIn wsX6_singIn (va_wsS RX6 79 yX6_drop wsX6_drop) := goodIn_app (goodIn_of _ (by decide +kernel)) ggX6_singIn_X6_drop
set_option maxRecDepth 20000 in
theorem ggX6_singIn_X6_handOver : GoodIn wsX6_singIn wsX6_handOver := goodIn_r _ [36, 8, 9, 10, 11, 12, 6, 13, 14, 15, 16, 17, 18, 19, 20, 21, 22, 23, 24, 25, 26, 37, 38, 39, 40, 41, 42, 43, 44, 45, 46, 47, 48, 49, 50] (by decide +kernel) (by decide +kernel)
set_option maxRecDepth 20000 in
theorem gX6_singIn_X6_handOver : GoodIn wsX6_singIn (wsV RX6 82 RX6 yX6_handOver wsX6_handOver) := goodIn_app (goodIn_of _ (by decide +kernel)) ggX6_singIn_X6_handOver
theorem dX6_singIn_0 : decode cX6_singIn 0 = .ok (.aload_n 1, 1) := by decide +kernel
theorem dX6_singIn_1 : decode cX6_singIn 1 = .ok (.iconst 0, 1) := by decide +kernel
theorem dX6_singIn_2 : decode cX6_singIn 2 = .ok (.iaload, 1) := by decide +kernel
theorem dX6_singIn_3 : decode cX6_singIn 3 = .ok (.istore_n 2, 1) := by decide +kernel
theorem dX6_singIn_4 : decode cX6_singIn 4 = .ok (.aload_n 1, 1) := by decide +kernel
theorem dX6_singIn_5 : decode cX6_singIn 5 = .ok (.iconst 3, 1) := by decide +kernel
theorem dX6_singIn_6 : decode cX6_singIn 6 = .ok (.iaload, 1) := by decide +kernel
theorem dX6_singIn_7 : decode cX6_singIn 7 = .ok (.istore_n 3, 1) := by decide +kernel
theorem dX6_singIn_8 : decode cX6_singIn 8 = .ok (.aload_n 0, 1) := by decide +kernel
theorem dX6_singIn_9 : decode cX6_singIn 9 = .ok (.aload_n 1, 1) := by decide +kernel
theorem dX6_singIn_10 : decode cX6_singIn 10 = .ok (.invokevirtual 73, 3) := by decide +kernel
theorem dX6_singIn_13 : decode cX6_singIn 13 = .ok (.aload_n 0, 1) := by decide +kernel
theorem dX6_singIn_14 : decode cX6_singIn 14 = .ok (.getfield 38, 3) := by decide +kernel
theorem dX6_singIn_17 : decode cX6_singIn 17 = .ok (.iconst 0, 1) := by decide +kernel
theorem dX6_singIn_18 : decode cX6_singIn 18 = .ok (.aload_n 1, 1) := by decide +kernel
theorem dX6_singIn_19 : decode cX6_singIn 19 = .ok (.bipush 66, 2) := by decide +kernel
theorem dX6_singIn_21 : decode cX6_singIn 21 = .ok (.iload_n 2, 1) := by decide +kernel
theorem dX6_singIn_22 : decode cX6_singIn 22 = .ok (.iadd, 1) := by decide +kernel
theorem dX6_singIn_23 : decode cX6_singIn 23 = .ok (.aload_n 0, 1) := by decide +kernel
theorem dX6_singIn_24 : decode cX6_singIn 24 = .ok (.getfield 76, 3) := by decide +kernel
theorem dX6_singIn_27 : decode cX6_singIn 27 = .ok (.invokestatic 50, 3) := by decide +kernel
theorem dX6_singIn_30 : decode cX6_singIn 30 = .ok (.aload_n 1, 1) := by decide +kernel
theorem dX6_singIn_31 : decode cX6_singIn 31 = .ok (.bipush 6, 2) := by decide +kernel
theorem dX6_singIn_33 : decode cX6_singIn 33 = .ok (.aload_n 1, 1) := by decide +kernel
theorem dX6_singIn_34 : decode cX6_singIn 34 = .ok (.iconst 1, 1) := by decide +kernel
theorem dX6_singIn_35 : decode cX6_singIn 35 = .ok (.iaload, 1) := by decide +kernel
theorem dX6_singIn_36 : decode cX6_singIn 36 = .ok (.iadd, 1) := by decide +kernel
theorem dX6_singIn_37 : decode cX6_singIn 37 = .ok (.aload_n 0, 1) := by decide +kernel
theorem dX6_singIn_38 : decode cX6_singIn 38 = .ok (.getfield 76, 3) := by decide +kernel
theorem dX6_singIn_41 : decode cX6_singIn 41 = .ok (.iastore, 1) := by decide +kernel
theorem dX6_singIn_42 : decode cX6_singIn 42 = .ok (.aload_n 1, 1) := by decide +kernel
theorem dX6_singIn_43 : decode cX6_singIn 43 = .ok (.iconst 1, 1) := by decide +kernel
theorem dX6_singIn_44 : decode cX6_singIn 44 = .ok (.dup2, 1) := by decide +kernel
theorem dX6_singIn_45 : decode cX6_singIn 45 = .ok (.iaload, 1) := by decide +kernel
theorem dX6_singIn_46 : decode cX6_singIn 46 = .ok (.iconst 1, 1) := by decide +kernel
theorem dX6_singIn_47 : decode cX6_singIn 47 = .ok (.iadd, 1) := by decide +kernel
theorem dX6_singIn_48 : decode cX6_singIn 48 = .ok (.iastore, 1) := by decide +kernel
theorem dX6_singIn_49 : decode cX6_singIn 49 = .ok (.aload_n 1, 1) := by decide +kernel
theorem dX6_singIn_50 : decode cX6_singIn 50 = .ok (.iconst 0, 1) := by decide +kernel
theorem dX6_singIn_51 : decode cX6_singIn 51 = .ok (.dup2, 1) := by decide +kernel
theorem dX6_singIn_52 : decode cX6_singIn 52 = .ok (.iaload, 1) := by decide +kernel
theorem dX6_singIn_53 : decode cX6_singIn 53 = .ok (.aload_n 0, 1) := by decide +kernel
theorem dX6_singIn_54 : decode cX6_singIn 54 = .ok (.getfield 76, 3) := by decide +kernel
theorem dX6_singIn_57 : decode cX6_singIn 57 = .ok (.iadd, 1) := by decide +kernel
theorem dX6_singIn_58 : decode cX6_singIn 58 = .ok (.iastore, 1) := by decide +kernel
theorem dX6_singIn_59 : decode cX6_singIn 59 = .ok (.aload_n 1, 1) := by decide +kernel
theorem dX6_singIn_60 : decode cX6_singIn 60 = .ok (.iconst 5, 1) := by decide +kernel
theorem dX6_singIn_61 : decode cX6_singIn 61 = .ok (.dup2, 1) := by decide +kernel
theorem dX6_singIn_62 : decode cX6_singIn 62 = .ok (.iaload, 1) := by decide +kernel
theorem dX6_singIn_63 : decode cX6_singIn 63 = .ok (.iconst 1, 1) := by decide +kernel
theorem dX6_singIn_64 : decode cX6_singIn 64 = .ok (.iadd, 1) := by decide +kernel
theorem dX6_singIn_65 : decode cX6_singIn 65 = .ok (.iastore, 1) := by decide +kernel
theorem dX6_singIn_66 : decode cX6_singIn 66 = .ok (.aload_n 1, 1) := by decide +kernel
theorem dX6_singIn_67 : decode cX6_singIn 67 = .ok (.iconst 0, 1) := by decide +kernel
theorem dX6_singIn_68 : decode cX6_singIn 68 = .ok (.iaload, 1) := by decide +kernel
theorem dX6_singIn_69 : decode cX6_singIn 69 = .ok (.bipush 48, 2) := by decide +kernel
theorem dX6_singIn_71 : decode cX6_singIn 71 = .ok (.if_icmp .le 10, 3) := by decide +kernel
theorem dX6_singIn_74 : decode cX6_singIn 74 = .ok (.aload_n 1, 1) := by decide +kernel
theorem dX6_singIn_75 : decode cX6_singIn 75 = .ok (.invokestatic 79, 3) := by decide +kernel
theorem dX6_singIn_78 : decode cX6_singIn 78 = .ok (.goto (-12), 3) := by decide +kernel
theorem dX6_singIn_81 : decode cX6_singIn 81 = .ok (.aload_n 0, 1) := by decide +kernel
theorem dX6_singIn_82 : decode cX6_singIn 82 = .ok (.aload_n 1, 1) := by decide +kernel
theorem dX6_singIn_83 : decode cX6_singIn 83 = .ok (.iload_n 2, 1) := by decide +kernel
theorem dX6_singIn_84 : decode cX6_singIn 84 = .ok (.iload_n 3, 1) := by decide +kernel
theorem dX6_singIn_85 : decode cX6_singIn 85 = .ok (.invokevirtual 82, 3) := by decide +kernel
theorem dX6_singIn_88 : decode cX6_singIn 88 = .ok (.ireturn, 1) := by decide +kernel
theorem dX6_beginOf_0 : decode cX6_beginOf 0 = .ok (.iconst 0, 1) := by decide +kernel
theorem dX6_beginOf_1 : decode cX6_beginOf 1 = .ok (.istore_n 2, 1) := by decide +kernel
theorem dX6_beginOf_2 : decode cX6_beginOf 2 = .ok (.iconst 0, 1) := by decide +kernel
theorem dX6_beginOf_3 : decode cX6_beginOf 3 = .ok (.istore_n 3, 1) := by decide +kernel
theorem dX6_beginOf_4 : decode cX6_beginOf 4 = .ok (.iload_n 3, 1) := by decide +kernel
theorem dX6_beginOf_5 : decode cX6_beginOf 5 = .ok (.iload_n 1, 1) := by decide +kernel
theorem dX6_beginOf_6 : decode cX6_beginOf 6 = .ok (.if_icmp .ge 18, 3) := by decide +kernel
theorem dX6_beginOf_9 : decode cX6_beginOf 9 = .ok (.iload_n 2, 1) := by decide +kernel
theorem dX6_beginOf_10 : decode cX6_beginOf 10 = .ok (.aload_n 0, 1) := by decide +kernel
theorem dX6_beginOf_11 : decode cX6_beginOf 11 = .ok (.bipush 6, 2) := by decide +kernel
theorem dX6_beginOf_13 : decode cX6_beginOf 13 = .ok (.iload_n 3, 1) := by decide +kernel
theorem dX6_beginOf_14 : decode cX6_beginOf 14 = .ok (.iadd, 1) := by decide +kernel
theorem dX6_beginOf_15 : decode cX6_beginOf 15 = .ok (.iaload, 1) := by decide +kernel
theorem dX6_beginOf_16 : decode cX6_beginOf 16 = .ok (.iadd, 1) := by decide +kernel
theorem dX6_beginOf_17 : decode cX6_beginOf 17 = .ok (.istore_n 2, 1) := by decide +kernel
theorem dX6_beginOf_18 : decode cX6_beginOf 18 = .ok (.iinc 3 1, 3) := by decide +kernel
theorem dX6_beginOf_21 : decode cX6_beginOf 21 = .ok (.goto (-17), 3) := by decide +kernel
theorem dX6_beginOf_24 : decode cX6_beginOf 24 = .ok (.iload_n 2, 1) := by decide +kernel
theorem dX6_beginOf_25 : decode cX6_beginOf 25 = .ok (.ireturn, 1) := by decide +kernel
set_option maxRecDepth 20000 in
theorem ggX6_againIn_X6_beginOf : GoodIn wsX6_againIn wsX6_beginOf := goodIn_r _ [6] (by decide +kernel) (by decide +kernel)
set_option maxRecDepth 20000 in
theorem gX6_againIn_X6_beginOf : GoodIn wsX6_againIn (va_wsS RX6 85 yX6_beginOf wsX6_beginOf) := goodIn_app (goodIn_of _ (by decide +kernel)) ggX6_againIn_X6_beginOf
set_option maxRecDepth 20000 in
theorem ggX6_againIn_X6_copy : GoodIn wsX6_againIn wsX6_copy := goodIn_r _ [9] (by decide +kernel) (by decide +kernel)
set_option maxRecDepth 20000 in
theorem gX6_againIn_X6_copy : GoodIn wsX6_againIn (va_wsS RX6 50 yX6_copy wsX6_copy) := goodIn_app (goodIn_of _ (by decide +kernel)) ggX6_againIn_X6_copy
set_option maxRecDepth 20000 in
theorem ggX6_againIn_X6_singIn : GoodIn wsX6_againIn wsX6_singIn := goodIn_r _ [13, 2, 1, 14, 15, 16, 5, 17, 18, 19, 20, 21, 22, 23, 24, 25, 26, 27, 28, 29, 30, 31, 32, 33, 34, 35, 36, 7, 8, 9, 37, 38, 39, 40, 41, 42, 43, 44, 45, 46, 47, 48, 49, 50, 51, 52, 53, 54, 55, 56, 57] (by decide +kernel) (by decide +kernel)
set_option maxRecDepth 20000 in
theorem gX6_againIn_X6_singIn : GoodIn wsX6_againIn (wsV RX6 88 RX6 yX6_singIn wsX6_singIn) := goodIn_app (goodIn_of _ (by decide +kernel)) ggX6_againIn_X6_singIn
theorem dX6_againIn_0 : decode cX6_againIn 0 = .ok (.aload_n 0, 1) := by decide +kernel
theorem dX6_againIn_1 : decode cX6_againIn 1 = .ok (.aload_n 1, 1) := by decide +kernel
theorem dX6_againIn_2 : decode cX6_againIn 2 = .ok (.bipush 6, 2) := by decide +kernel
theorem dX6_againIn_4 : decode cX6_againIn 4 = .ok (.iload_n 2, 1) := by decide +kernel
theorem dX6_againIn_5 : decode cX6_againIn 5 = .ok (.iadd, 1) := by decide +kernel
theorem dX6_againIn_6 : decode cX6_againIn 6 = .ok (.iaload, 1) := by decide +kernel
theorem dX6_againIn_7 : decode cX6_againIn 7 = .ok (.putfield 76, 3) := by decide +kernel
theorem dX6_againIn_10 : decode cX6_againIn 10 = .ok (.aload_n 1, 1) := by decide +kernel
theorem dX6_againIn_11 : decode cX6_againIn 11 = .ok (.bipush 66, 2) := by decide +kernel
theorem dX6_againIn_13 : decode cX6_againIn 13 = .ok (.aload_n 1, 1) := by decide +kernel
theorem dX6_againIn_14 : decode cX6_againIn 14 = .ok (.iload_n 2, 1) := by decide +kernel
theorem dX6_againIn_15 : decode cX6_againIn 15 = .ok (.invokestatic 85, 3) := by decide +kernel
theorem dX6_againIn_18 : decode cX6_againIn 18 = .ok (.iadd, 1) := by decide +kernel
theorem dX6_againIn_19 : decode cX6_againIn 19 = .ok (.aload_n 0, 1) := by decide +kernel
theorem dX6_againIn_20 : decode cX6_againIn 20 = .ok (.getfield 38, 3) := by decide +kernel
theorem dX6_againIn_23 : decode cX6_againIn 23 = .ok (.iconst 0, 1) := by decide +kernel
theorem dX6_againIn_24 : decode cX6_againIn 24 = .ok (.aload_n 0, 1) := by decide +kernel
theorem dX6_againIn_25 : decode cX6_againIn 25 = .ok (.getfield 76, 3) := by decide +kernel
theorem dX6_againIn_28 : decode cX6_againIn 28 = .ok (.invokestatic 50, 3) := by decide +kernel
theorem dX6_againIn_31 : decode cX6_againIn 31 = .ok (.aload_n 0, 1) := by decide +kernel
theorem dX6_againIn_32 : decode cX6_againIn 32 = .ok (.aload_n 1, 1) := by decide +kernel
theorem dX6_againIn_33 : decode cX6_againIn 33 = .ok (.invokevirtual 88, 3) := by decide +kernel
theorem dX6_againIn_36 : decode cX6_againIn 36 = .ok (.ireturn, 1) := by decide +kernel
set_option maxRecDepth 20000 in
theorem ggX6_forgetIn_X6_watch : GoodIn wsX6_forgetIn wsX6_watch := goodIn_r _ [5, 6, 7, 8, 9, 10, 4, 11, 12, 13, 14, 15, 16, 17, 18, 19, 20, 21, 22, 23, 24, 35, 36, 37, 38, 39, 40, 41, 42, 43, 44, 45, 46, 47, 48] (by decide +kernel) (by decide +kernel)
set_option maxRecDepth 20000 in
theorem gX6_forgetIn_X6_watch : GoodIn wsX6_forgetIn (wsV RX6 73 RX6 yX6_watch wsX6_watch) := goodIn_app (goodIn_of _ (by decide +kernel)) ggX6_forgetIn_X6_watch
set_option maxRecDepth 20000 in
theorem ggX6_forgetIn_X6_drop : GoodIn wsX6_forgetIn wsX6_drop := goodIn_r _ [27, 28, 29, 4, 30] (by decide +kernel) (by decide +kernel)
set_option maxRecDepth 20000 in
theorem gX6_forgetIn_X6_drop : GoodIn wsX6_forgetIn (va_wsS RX6 79 yX6_drop wsX6_drop) := goodIn_app (goodIn_of _ (by decide +kernel)) ggX6_forgetIn_X6_drop
set_option maxRecDepth 20000 in
theorem ggX6_forgetIn_X6_handOver : GoodIn wsX6_forgetIn wsX6_handOver := goodIn_r _ [34, 6, 7, 8, 9, 10, 4, 11, 12, 13, 14, 15, 16, 17, 18, 19, 20, 21, 22, 23, 24, 35, 36, 37, 38, 39, 40, 41, 42, 43, 44, 45, 46, 47, 48] (by decide +kernel) (by decide +kernel)
set_option maxRecDepth 20000 in
theorem gX6_forgetIn_X6_handOver : GoodIn wsX6_forgetIn (wsV RX6 82 RX6 yX6_handOver wsX6_handOver) := goodIn_app (goodIn_of _ (by decide +kernel)) ggX6_forgetIn_X6_handOver
theorem dX6_forgetIn_0 : decode cX6_forgetIn 0 = .ok (.aload_n 1, 1) := by decide +kernel
theorem dX6_forgetIn_1 : decode cX6_forgetIn 1 = .ok (.iconst 0, 1) := by decide +kernel
theorem dX6_forgetIn_2 : decode cX6_forgetIn 2 = .ok (.iaload, 1) := by decide +kernel
theorem dX6_forgetIn_3 : decode cX6_forgetIn 3 = .ok (.istore_n 2, 1) := by decide +kernel
theorem dX6_forgetIn_4 : decode cX6_forgetIn 4 = .ok (.aload_n 1, 1) := by decide +kernel
theorem dX6_forgetIn_5 : decode cX6_forgetIn 5 = .ok (.iconst 3, 1) := by decide +kernel
theorem dX6_forgetIn_6 : decode cX6_forgetIn 6 = .ok (.iaload, 1) := by decide +kernel
theorem dX6_forgetIn_7 : decode cX6_forgetIn 7 = .ok (.istore_n 3, 1) := by decide +kernel
theorem dX6_forgetIn_8 : decode cX6_forgetIn 8 = .ok (.aload_n 0, 1) := by decide +kernel
theorem dX6_forgetIn_9 : decode cX6_forgetIn 9 = .ok (.aload_n 1, 1) := by decide +kernel
theorem dX6_forgetIn_10 : decode cX6_forgetIn 10 = .ok (.invokevirtual 73, 3) := by decide +kernel
theorem dX6_forgetIn_13 : decode cX6_forgetIn 13 = .ok (.aload_n 1, 1) := by decide +kernel
theorem dX6_forgetIn_14 : decode cX6_forgetIn 14 = .ok (.invokestatic 79, 3) := by decide +kernel
theorem dX6_forgetIn_17 : decode cX6_forgetIn 17 = .ok (.aload_n 0, 1) := by decide +kernel
theorem dX6_forgetIn_18 : decode cX6_forgetIn 18 = .ok (.aload_n 1, 1) := by decide +kernel
theorem dX6_forgetIn_19 : decode cX6_forgetIn 19 = .ok (.iload_n 2, 1) := by decide +kernel
theorem dX6_forgetIn_20 : decode cX6_forgetIn 20 = .ok (.iload_n 3, 1) := by decide +kernel
theorem dX6_forgetIn_21 : decode cX6_forgetIn 21 = .ok (.invokevirtual 82, 3) := by decide +kernel
theorem dX6_forgetIn_24 : decode cX6_forgetIn 24 = .ok (.ireturn, 1) := by decide +kernel
set_option maxRecDepth 20000 in
theorem ggX6_setSingersIn_X6_watch : GoodIn wsX6_setSingersIn wsX6_watch := goodIn_r _ [5, 6, 7, 8, 9, 10, 4, 11, 12, 13, 14, 15, 16, 17, 18, 19, 20, 21, 22, 23, 24, 29, 30, 31, 32, 33, 34, 35, 36, 37, 38, 39, 40, 41, 42] (by decide +kernel) (by decide +kernel)
set_option maxRecDepth 20000 in
theorem gX6_setSingersIn_X6_watch : GoodIn wsX6_setSingersIn (wsV RX6 73 RX6 yX6_watch wsX6_watch) := goodIn_app (goodIn_of _ (by decide +kernel)) ggX6_setSingersIn_X6_watch
set_option maxRecDepth 20000 in
theorem ggX6_setSingersIn_X6_handOver : GoodIn wsX6_setSingersIn wsX6_handOver := goodIn_r _ [28, 6, 7, 8, 9, 10, 4, 11, 12, 13, 14, 15, 16, 17, 18, 19, 20, 21, 22, 23, 24, 29, 30, 31, 32, 33, 34, 35, 36, 37, 38, 39, 40, 41, 42] (by decide +kernel) (by decide +kernel)
set_option maxRecDepth 20000 in
theorem gX6_setSingersIn_X6_handOver : GoodIn wsX6_setSingersIn (wsV RX6 82 RX6 yX6_handOver wsX6_handOver) := goodIn_app (goodIn_of _ (by decide +kernel)) ggX6_setSingersIn_X6_handOver
theorem dX6_setSingersIn_0 : decode cX6_setSingersIn 0 = .ok (.aload_n 0, 1) := by decide +kernel
theorem dX6_setSingersIn_1 : decode cX6_setSingersIn 1 = .ok (.aload_n 1, 1) := by decide +kernel
theorem dX6_setSingersIn_2 : decode cX6_setSingersIn 2 = .ok (.invokevirtual 73, 3) := by decide +kernel
theorem dX6_setSingersIn_5 : decode cX6_setSingersIn 5 = .ok (.aload_n 1, 1) := by decide +kernel
theorem dX6_setSingersIn_6 : decode cX6_setSingersIn 6 = .ok (.iconst 2, 1) := by decide +kernel
theorem dX6_setSingersIn_7 : decode cX6_setSingersIn 7 = .ok (.iload_n 2, 1) := by decide +kernel
theorem dX6_setSingersIn_8 : decode cX6_setSingersIn 8 = .ok (.iastore, 1) := by decide +kernel
theorem dX6_setSingersIn_9 : decode cX6_setSingersIn 9 = .ok (.aload_n 0, 1) := by decide +kernel
theorem dX6_setSingersIn_10 : decode cX6_setSingersIn 10 = .ok (.aload_n 1, 1) := by decide +kernel
theorem dX6_setSingersIn_11 : decode cX6_setSingersIn 11 = .ok (.aload_n 1, 1) := by decide +kernel
theorem dX6_setSingersIn_12 : decode cX6_setSingersIn 12 = .ok (.iconst 0, 1) := by decide +kernel
theorem dX6_setSingersIn_13 : decode cX6_setSingersIn 13 = .ok (.iaload, 1) := by decide +kernel
theorem dX6_setSingersIn_14 : decode cX6_setSingersIn 14 = .ok (.aload_n 1, 1) := by decide +kernel
theorem dX6_setSingersIn_15 : decode cX6_setSingersIn 15 = .ok (.iconst 3, 1) := by decide +kernel
theorem dX6_setSingersIn_16 : decode cX6_setSingersIn 16 = .ok (.iaload, 1) := by decide +kernel
theorem dX6_setSingersIn_17 : decode cX6_setSingersIn 17 = .ok (.invokevirtual 82, 3) := by decide +kernel
theorem dX6_setSingersIn_20 : decode cX6_setSingersIn 20 = .ok (.ireturn, 1) := by decide +kernel
set_option maxRecDepth 20000 in
theorem ggX6_longest_X6_lay : GoodIn wsX6_longest wsX6_lay := goodIn_r _ [6, 1, 7, 8, 9, 5, 10, 11, 12, 13, 14, 15, 16, 17, 18, 19, 20, 21, 22, 23, 24, 25, 26, 27] (by decide +kernel) (by decide +kernel)
set_option maxRecDepth 20000 in
theorem gX6_longest_X6_lay : GoodIn wsX6_longest (wsV RX6 66 RX6 yX6_lay wsX6_lay) := goodIn_app (goodIn_of _ (by decide +kernel)) ggX6_longest_X6_lay
set_option maxRecDepth 20000 in
theorem ggX6_longest_X6_alike : GoodIn wsX6_longest wsX6_alike := goodIn_r _ [13] (by decide +kernel) (by decide +kernel)
set_option maxRecDepth 20000 in
theorem gX6_longest_X6_alike : GoodIn wsX6_longest (va_wsS RX6 54 yX6_alike wsX6_alike) := goodIn_app (goodIn_of _ (by decide +kernel)) ggX6_longest_X6_alike
theorem dX6_longest_0 : decode cX6_longest 0 = .ok (.iconst 0, 1) := by decide +kernel
theorem dX6_longest_1 : decode cX6_longest 1 = .ok (.istore_n 2, 1) := by decide +kernel
theorem dX6_longest_2 : decode cX6_longest 2 = .ok (.aload_n 0, 1) := by decide +kernel
theorem dX6_longest_3 : decode cX6_longest 3 = .ok (.aload_n 1, 1) := by decide +kernel
theorem dX6_longest_4 : decode cX6_longest 4 = .ok (.invokevirtual 66, 3) := by decide +kernel
theorem dX6_longest_7 : decode cX6_longest 7 = .ok (.iconst 1, 1) := by decide +kernel
theorem dX6_longest_8 : decode cX6_longest 8 = .ok (.istore_n 3, 1) := by decide +kernel
theorem dX6_longest_9 : decode cX6_longest 9 = .ok (.iload_n 3, 1) := by decide +kernel
theorem dX6_longest_10 : decode cX6_longest 10 = .ok (.aload_n 1, 1) := by decide +kernel
theorem dX6_longest_11 : decode cX6_longest 11 = .ok (.iconst 0, 1) := by decide +kernel
theorem dX6_longest_12 : decode cX6_longest 12 = .ok (.iaload, 1) := by decide +kernel
theorem dX6_longest_13 : decode cX6_longest 13 = .ok (.if_icmp .ge 42, 3) := by decide +kernel
theorem dX6_longest_16 : decode cX6_longest 16 = .ok (.aload_n 1, 1) := by decide +kernel
theorem dX6_longest_17 : decode cX6_longest 17 = .ok (.aload_n 0, 1) := by decide +kernel
theorem dX6_longest_18 : decode cX6_longest 18 = .ok (.getfield 29, 3) := by decide +kernel
theorem dX6_longest_21 : decode cX6_longest 21 = .ok (.iload_n 3, 1) := by decide +kernel
theorem dX6_longest_22 : decode cX6_longest 22 = .ok (.iconst 1, 1) := by decide +kernel
theorem dX6_longest_23 : decode cX6_longest 23 = .ok (.isub, 1) := by decide +kernel
theorem dX6_longest_24 : decode cX6_longest 24 = .ok (.iaload, 1) := by decide +kernel
theorem dX6_longest_25 : decode cX6_longest 25 = .ok (.aload_n 0, 1) := by decide +kernel
theorem dX6_longest_26 : decode cX6_longest 26 = .ok (.getfield 29, 3) := by decide +kernel
theorem dX6_longest_29 : decode cX6_longest 29 = .ok (.iload_n 3, 1) := by decide +kernel
theorem dX6_longest_30 : decode cX6_longest 30 = .ok (.iaload, 1) := by decide +kernel
theorem dX6_longest_31 : decode cX6_longest 31 = .ok (.invokestatic 54, 3) := by decide +kernel
theorem dX6_longest_34 : decode cX6_longest 34 = .ok (.istore 4, 2) := by decide +kernel
theorem dX6_longest_36 : decode cX6_longest 36 = .ok (.iload 4, 2) := by decide +kernel
theorem dX6_longest_38 : decode cX6_longest 38 = .ok (.iload_n 2, 1) := by decide +kernel
theorem dX6_longest_39 : decode cX6_longest 39 = .ok (.if_icmp .le 8, 3) := by decide +kernel
theorem dX6_longest_42 : decode cX6_longest 42 = .ok (.iload 4, 2) := by decide +kernel
theorem dX6_longest_44 : decode cX6_longest 44 = .ok (.goto 4, 3) := by decide +kernel
theorem dX6_longest_47 : decode cX6_longest 47 = .ok (.iload_n 2, 1) := by decide +kernel
theorem dX6_longest_48 : decode cX6_longest 48 = .ok (.istore_n 2, 1) := by decide +kernel
theorem dX6_longest_49 : decode cX6_longest 49 = .ok (.iinc 3 1, 3) := by decide +kernel
theorem dX6_longest_52 : decode cX6_longest 52 = .ok (.goto (-43), 3) := by decide +kernel
theorem dX6_longest_55 : decode cX6_longest 55 = .ok (.iload_n 2, 1) := by decide +kernel
theorem dX6_longest_56 : decode cX6_longest 56 = .ok (.ireturn, 1) := by decide +kernel
set_option maxRecDepth 20000 in
theorem ggX6_pieces_X6_lay : GoodIn wsX6_pieces wsX6_lay := goodIn_r _ [6, 1, 7, 8, 9, 5, 10, 11, 12, 13, 14, 15, 16, 17, 18, 19, 20, 21, 22, 23, 24, 25, 26, 27] (by decide +kernel) (by decide +kernel)
set_option maxRecDepth 20000 in
theorem gX6_pieces_X6_lay : GoodIn wsX6_pieces (wsV RX6 66 RX6 yX6_lay wsX6_lay) := goodIn_app (goodIn_of _ (by decide +kernel)) ggX6_pieces_X6_lay
set_option maxRecDepth 20000 in
theorem ggX6_pieces_X6_alike : GoodIn wsX6_pieces wsX6_alike := goodIn_r _ [13] (by decide +kernel) (by decide +kernel)
set_option maxRecDepth 20000 in
theorem gX6_pieces_X6_alike : GoodIn wsX6_pieces (va_wsS RX6 54 yX6_alike wsX6_alike) := goodIn_app (goodIn_of _ (by decide +kernel)) ggX6_pieces_X6_alike
theorem dX6_pieces_0 : decode cX6_pieces 0 = .ok (.aload_n 1, 1) := by decide +kernel
theorem dX6_pieces_1 : decode cX6_pieces 1 = .ok (.iconst 0, 1) := by decide +kernel
theorem dX6_pieces_2 : decode cX6_pieces 2 = .ok (.iaload, 1) := by decide +kernel
theorem dX6_pieces_3 : decode cX6_pieces 3 = .ok (.aload_n 1, 1) := by decide +kernel
theorem dX6_pieces_4 : decode cX6_pieces 4 = .ok (.iconst 0, 1) := by decide +kernel
theorem dX6_pieces_5 : decode cX6_pieces 5 = .ok (.iaload, 1) := by decide +kernel
theorem dX6_pieces_6 : decode cX6_pieces 6 = .ok (.iconst 1, 1) := by decide +kernel
theorem dX6_pieces_7 : decode cX6_pieces 7 = .ok (.iadd, 1) := by decide +kernel
theorem dX6_pieces_8 : decode cX6_pieces 8 = .ok (.imul, 1) := by decide +kernel
theorem dX6_pieces_9 : decode cX6_pieces 9 = .ok (.iconst 2, 1) := by decide +kernel
theorem dX6_pieces_10 : decode cX6_pieces 10 = .ok (.idiv, 1) := by decide +kernel
theorem dX6_pieces_11 : decode cX6_pieces 11 = .ok (.istore_n 2, 1) := by decide +kernel
theorem dX6_pieces_12 : decode cX6_pieces 12 = .ok (.aload_n 0, 1) := by decide +kernel
theorem dX6_pieces_13 : decode cX6_pieces 13 = .ok (.aload_n 1, 1) := by decide +kernel
theorem dX6_pieces_14 : decode cX6_pieces 14 = .ok (.invokevirtual 66, 3) := by decide +kernel
theorem dX6_pieces_17 : decode cX6_pieces 17 = .ok (.iconst 1, 1) := by decide +kernel
theorem dX6_pieces_18 : decode cX6_pieces 18 = .ok (.istore_n 3, 1) := by decide +kernel
theorem dX6_pieces_19 : decode cX6_pieces 19 = .ok (.iload_n 3, 1) := by decide +kernel
theorem dX6_pieces_20 : decode cX6_pieces 20 = .ok (.aload_n 1, 1) := by decide +kernel
theorem dX6_pieces_21 : decode cX6_pieces 21 = .ok (.iconst 0, 1) := by decide +kernel
theorem dX6_pieces_22 : decode cX6_pieces 22 = .ok (.iaload, 1) := by decide +kernel
theorem dX6_pieces_23 : decode cX6_pieces 23 = .ok (.if_icmp .ge 30, 3) := by decide +kernel
theorem dX6_pieces_26 : decode cX6_pieces 26 = .ok (.iload_n 2, 1) := by decide +kernel
theorem dX6_pieces_27 : decode cX6_pieces 27 = .ok (.aload_n 1, 1) := by decide +kernel
theorem dX6_pieces_28 : decode cX6_pieces 28 = .ok (.aload_n 0, 1) := by decide +kernel
theorem dX6_pieces_29 : decode cX6_pieces 29 = .ok (.getfield 29, 3) := by decide +kernel
theorem dX6_pieces_32 : decode cX6_pieces 32 = .ok (.iload_n 3, 1) := by decide +kernel
theorem dX6_pieces_33 : decode cX6_pieces 33 = .ok (.iconst 1, 1) := by decide +kernel
theorem dX6_pieces_34 : decode cX6_pieces 34 = .ok (.isub, 1) := by decide +kernel
theorem dX6_pieces_35 : decode cX6_pieces 35 = .ok (.iaload, 1) := by decide +kernel
theorem dX6_pieces_36 : decode cX6_pieces 36 = .ok (.aload_n 0, 1) := by decide +kernel
theorem dX6_pieces_37 : decode cX6_pieces 37 = .ok (.getfield 29, 3) := by decide +kernel
theorem dX6_pieces_40 : decode cX6_pieces 40 = .ok (.iload_n 3, 1) := by decide +kernel
theorem dX6_pieces_41 : decode cX6_pieces 41 = .ok (.iaload, 1) := by decide +kernel
theorem dX6_pieces_42 : decode cX6_pieces 42 = .ok (.invokestatic 54, 3) := by decide +kernel
theorem dX6_pieces_45 : decode cX6_pieces 45 = .ok (.isub, 1) := by decide +kernel
theorem dX6_pieces_46 : decode cX6_pieces 46 = .ok (.istore_n 2, 1) := by decide +kernel
theorem dX6_pieces_47 : decode cX6_pieces 47 = .ok (.iinc 3 1, 3) := by decide +kernel
theorem dX6_pieces_50 : decode cX6_pieces 50 = .ok (.goto (-31), 3) := by decide +kernel
theorem dX6_pieces_53 : decode cX6_pieces 53 = .ok (.iload_n 2, 1) := by decide +kernel
theorem dX6_pieces_54 : decode cX6_pieces 54 = .ok (.ireturn, 1) := by decide +kernel
set_option maxRecDepth 20000 in
theorem ggX6_repeatAt_X6_alike : GoodIn wsX6_repeatAt wsX6_alike := goodIn_r _ [4] (by decide +kernel) (by decide +kernel)
set_option maxRecDepth 20000 in
theorem gX6_repeatAt_X6_alike : GoodIn wsX6_repeatAt (va_wsS RX6 54 yX6_alike wsX6_alike) := goodIn_app (goodIn_of _ (by decide +kernel)) ggX6_repeatAt_X6_alike
theorem dX6_repeatAt_0 : decode cX6_repeatAt 0 = .ok (.iconst 0, 1) := by decide +kernel
theorem dX6_repeatAt_1 : decode cX6_repeatAt 1 = .ok (.istore_n 2, 1) := by decide +kernel
theorem dX6_repeatAt_2 : decode cX6_repeatAt 2 = .ok (.iconst 0, 1) := by decide +kernel
theorem dX6_repeatAt_3 : decode cX6_repeatAt 3 = .ok (.istore_n 3, 1) := by decide +kernel
theorem dX6_repeatAt_4 : decode cX6_repeatAt 4 = .ok (.iload_n 3, 1) := by decide +kernel
theorem dX6_repeatAt_5 : decode cX6_repeatAt 5 = .ok (.aload_n 0, 1) := by decide +kernel
theorem dX6_repeatAt_6 : decode cX6_repeatAt 6 = .ok (.iconst 0, 1) := by decide +kernel
theorem dX6_repeatAt_7 : decode cX6_repeatAt 7 = .ok (.iaload, 1) := by decide +kernel
theorem dX6_repeatAt_8 : decode cX6_repeatAt 8 = .ok (.if_icmp .ge 39, 3) := by decide +kernel
theorem dX6_repeatAt_11 : decode cX6_repeatAt 11 = .ok (.iload_n 3, 1) := by decide +kernel
theorem dX6_repeatAt_12 : decode cX6_repeatAt 12 = .ok (.iload_n 1, 1) := by decide +kernel
theorem dX6_repeatAt_13 : decode cX6_repeatAt 13 = .ok (.if_icmp .ne 7, 3) := by decide +kernel
theorem dX6_repeatAt_16 : decode cX6_repeatAt 16 = .ok (.iconst 0, 1) := by decide +kernel
theorem dX6_repeatAt_17 : decode cX6_repeatAt 17 = .ok (.goto 9, 3) := by decide +kernel
theorem dX6_repeatAt_20 : decode cX6_repeatAt 20 = .ok (.aload_n 0, 1) := by decide +kernel
theorem dX6_repeatAt_21 : decode cX6_repeatAt 21 = .ok (.iload_n 1, 1) := by decide +kernel
theorem dX6_repeatAt_22 : decode cX6_repeatAt 22 = .ok (.iload_n 3, 1) := by decide +kernel
theorem dX6_repeatAt_23 : decode cX6_repeatAt 23 = .ok (.invokestatic 54, 3) := by decide +kernel
theorem dX6_repeatAt_26 : decode cX6_repeatAt 26 = .ok (.istore 4, 2) := by decide +kernel
theorem dX6_repeatAt_28 : decode cX6_repeatAt 28 = .ok (.iload 4, 2) := by decide +kernel
theorem dX6_repeatAt_30 : decode cX6_repeatAt 30 = .ok (.iload_n 2, 1) := by decide +kernel
theorem dX6_repeatAt_31 : decode cX6_repeatAt 31 = .ok (.if_icmp .le 8, 3) := by decide +kernel
theorem dX6_repeatAt_34 : decode cX6_repeatAt 34 = .ok (.iload 4, 2) := by decide +kernel
theorem dX6_repeatAt_36 : decode cX6_repeatAt 36 = .ok (.goto 4, 3) := by decide +kernel
theorem dX6_repeatAt_39 : decode cX6_repeatAt 39 = .ok (.iload_n 2, 1) := by decide +kernel
theorem dX6_repeatAt_40 : decode cX6_repeatAt 40 = .ok (.istore_n 2, 1) := by decide +kernel
theorem dX6_repeatAt_41 : decode cX6_repeatAt 41 = .ok (.iinc 3 1, 3) := by decide +kernel
theorem dX6_repeatAt_44 : decode cX6_repeatAt 44 = .ok (.goto (-40), 3) := by decide +kernel
theorem dX6_repeatAt_47 : decode cX6_repeatAt 47 = .ok (.iload_n 2, 1) := by decide +kernel
theorem dX6_repeatAt_48 : decode cX6_repeatAt 48 = .ok (.ireturn, 1) := by decide +kernel
set_option maxRecDepth 20000 in
theorem ggX6_lowestRepeat_X6_longest : GoodIn wsX6_lowestRepeat wsX6_longest := goodIn_r _ [6, 7, 8, 9, 10, 5, 11, 12, 13, 14, 15, 16, 17, 18, 22, 23, 24, 25, 26, 27, 28, 29, 30, 31, 32, 33, 34, 35] (by decide +kernel) (by decide +kernel)
set_option maxRecDepth 20000 in
theorem gX6_lowestRepeat_X6_longest : GoodIn wsX6_lowestRepeat (wsV RX6 92 RX6 yX6_longest wsX6_longest) := goodIn_app (goodIn_of _ (by decide +kernel)) ggX6_lowestRepeat_X6_longest
set_option maxRecDepth 20000 in
theorem ggX6_lowestRepeat_X6_repeatAt : GoodIn wsX6_lowestRepeat wsX6_repeatAt := goodIn_r _ [21, 16, 17, 5, 18] (by decide +kernel) (by decide +kernel)
set_option maxRecDepth 20000 in
theorem gX6_lowestRepeat_X6_repeatAt : GoodIn wsX6_lowestRepeat (va_wsS RX6 95 yX6_repeatAt wsX6_repeatAt) := goodIn_app (goodIn_of _ (by decide +kernel)) ggX6_lowestRepeat_X6_repeatAt
theorem dX6_lowestRepeat_0 : decode cX6_lowestRepeat 0 = .ok (.aload_n 0, 1) := by decide +kernel
theorem dX6_lowestRepeat_1 : decode cX6_lowestRepeat 1 = .ok (.aload_n 0, 1) := by decide +kernel
theorem dX6_lowestRepeat_2 : decode cX6_lowestRepeat 2 = .ok (.getfield 13, 3) := by decide +kernel
theorem dX6_lowestRepeat_5 : decode cX6_lowestRepeat 5 = .ok (.invokevirtual 92, 3) := by decide +kernel
theorem dX6_lowestRepeat_8 : decode cX6_lowestRepeat 8 = .ok (.istore_n 1, 1) := by decide +kernel
theorem dX6_lowestRepeat_9 : decode cX6_lowestRepeat 9 = .ok (.iconst 0, 1) := by decide +kernel
theorem dX6_lowestRepeat_10 : decode cX6_lowestRepeat 10 = .ok (.istore_n 2, 1) := by decide +kernel
theorem dX6_lowestRepeat_11 : decode cX6_lowestRepeat 11 = .ok (.iload_n 2, 1) := by decide +kernel
theorem dX6_lowestRepeat_12 : decode cX6_lowestRepeat 12 = .ok (.aload_n 0, 1) := by decide +kernel
theorem dX6_lowestRepeat_13 : decode cX6_lowestRepeat 13 = .ok (.getfield 13, 3) := by decide +kernel
theorem dX6_lowestRepeat_16 : decode cX6_lowestRepeat 16 = .ok (.iconst 0, 1) := by decide +kernel
theorem dX6_lowestRepeat_17 : decode cX6_lowestRepeat 17 = .ok (.iaload, 1) := by decide +kernel
theorem dX6_lowestRepeat_18 : decode cX6_lowestRepeat 18 = .ok (.if_icmp .ge 27, 3) := by decide +kernel
theorem dX6_lowestRepeat_21 : decode cX6_lowestRepeat 21 = .ok (.iload_n 1, 1) := by decide +kernel
theorem dX6_lowestRepeat_22 : decode cX6_lowestRepeat 22 = .ok (.ifCond .le 23, 3) := by decide +kernel
theorem dX6_lowestRepeat_25 : decode cX6_lowestRepeat 25 = .ok (.aload_n 0, 1) := by decide +kernel
theorem dX6_lowestRepeat_26 : decode cX6_lowestRepeat 26 = .ok (.getfield 13, 3) := by decide +kernel
theorem dX6_lowestRepeat_29 : decode cX6_lowestRepeat 29 = .ok (.iload_n 2, 1) := by decide +kernel
theorem dX6_lowestRepeat_30 : decode cX6_lowestRepeat 30 = .ok (.invokestatic 95, 3) := by decide +kernel
theorem dX6_lowestRepeat_33 : decode cX6_lowestRepeat 33 = .ok (.iload_n 1, 1) := by decide +kernel
theorem dX6_lowestRepeat_34 : decode cX6_lowestRepeat 34 = .ok (.if_icmp .ne 5, 3) := by decide +kernel
theorem dX6_lowestRepeat_37 : decode cX6_lowestRepeat 37 = .ok (.iload_n 2, 1) := by decide +kernel
theorem dX6_lowestRepeat_38 : decode cX6_lowestRepeat 38 = .ok (.ireturn, 1) := by decide +kernel
theorem dX6_lowestRepeat_39 : decode cX6_lowestRepeat 39 = .ok (.iinc 2 1, 3) := by decide +kernel
theorem dX6_lowestRepeat_42 : decode cX6_lowestRepeat 42 = .ok (.goto (-31), 3) := by decide +kernel
theorem dX6_lowestRepeat_45 : decode cX6_lowestRepeat 45 = .ok (.iconst (-1), 1) := by decide +kernel
theorem dX6_lowestRepeat_46 : decode cX6_lowestRepeat 46 = .ok (.ireturn, 1) := by decide +kernel
set_option maxRecDepth 20000 in
theorem ggX6_times_X6_alike : GoodIn wsX6_times wsX6_alike := goodIn_r _ [4] (by decide +kernel) (by decide +kernel)
set_option maxRecDepth 20000 in
theorem gX6_times_X6_alike : GoodIn wsX6_times (va_wsS RX6 54 yX6_alike wsX6_alike) := goodIn_app (goodIn_of _ (by decide +kernel)) ggX6_times_X6_alike
theorem dX6_times_0 : decode cX6_times 0 = .ok (.iconst 0, 1) := by decide +kernel
theorem dX6_times_1 : decode cX6_times 1 = .ok (.istore_n 3, 1) := by decide +kernel
theorem dX6_times_2 : decode cX6_times 2 = .ok (.iconst 0, 1) := by decide +kernel
theorem dX6_times_3 : decode cX6_times 3 = .ok (.istore 4, 2) := by decide +kernel
theorem dX6_times_5 : decode cX6_times 5 = .ok (.iload 4, 2) := by decide +kernel
theorem dX6_times_7 : decode cX6_times 7 = .ok (.iload_n 2, 1) := by decide +kernel
theorem dX6_times_8 : decode cX6_times 8 = .ok (.iadd, 1) := by decide +kernel
theorem dX6_times_9 : decode cX6_times 9 = .ok (.aload_n 0, 1) := by decide +kernel
theorem dX6_times_10 : decode cX6_times 10 = .ok (.iconst 0, 1) := by decide +kernel
theorem dX6_times_11 : decode cX6_times 11 = .ok (.iaload, 1) := by decide +kernel
theorem dX6_times_12 : decode cX6_times 12 = .ok (.if_icmp .gt 28, 3) := by decide +kernel
theorem dX6_times_15 : decode cX6_times 15 = .ok (.iload_n 3, 1) := by decide +kernel
theorem dX6_times_16 : decode cX6_times 16 = .ok (.aload_n 0, 1) := by decide +kernel
theorem dX6_times_17 : decode cX6_times 17 = .ok (.iload_n 1, 1) := by decide +kernel
theorem dX6_times_18 : decode cX6_times 18 = .ok (.iload 4, 2) := by decide +kernel
theorem dX6_times_20 : decode cX6_times 20 = .ok (.invokestatic 54, 3) := by decide +kernel
theorem dX6_times_23 : decode cX6_times 23 = .ok (.iload_n 2, 1) := by decide +kernel
theorem dX6_times_24 : decode cX6_times 24 = .ok (.if_icmp .lt 7, 3) := by decide +kernel
theorem dX6_times_27 : decode cX6_times 27 = .ok (.iconst 1, 1) := by decide +kernel
theorem dX6_times_28 : decode cX6_times 28 = .ok (.goto 4, 3) := by decide +kernel
theorem dX6_times_31 : decode cX6_times 31 = .ok (.iconst 0, 1) := by decide +kernel
theorem dX6_times_32 : decode cX6_times 32 = .ok (.iadd, 1) := by decide +kernel
theorem dX6_times_33 : decode cX6_times 33 = .ok (.istore_n 3, 1) := by decide +kernel
theorem dX6_times_34 : decode cX6_times 34 = .ok (.iinc 4 1, 3) := by decide +kernel
theorem dX6_times_37 : decode cX6_times 37 = .ok (.goto (-32), 3) := by decide +kernel
theorem dX6_times_40 : decode cX6_times 40 = .ok (.iload_n 3, 1) := by decide +kernel
theorem dX6_times_41 : decode cX6_times 41 = .ok (.ireturn, 1) := by decide +kernel
set_option maxRecDepth 20000 in
theorem ggX6_mostTimes_X6_times : GoodIn wsX6_mostTimes wsX6_times := goodIn_r _ [4, 5, 6, 3, 7] (by decide +kernel) (by decide +kernel)
set_option maxRecDepth 20000 in
theorem gX6_mostTimes_X6_times : GoodIn wsX6_mostTimes (va_wsS RX6 98 yX6_times wsX6_times) := goodIn_app (goodIn_of _ (by decide +kernel)) ggX6_mostTimes_X6_times
theorem dX6_mostTimes_0 : decode cX6_mostTimes 0 = .ok (.iconst 0, 1) := by decide +kernel
theorem dX6_mostTimes_1 : decode cX6_mostTimes 1 = .ok (.istore_n 2, 1) := by decide +kernel
theorem dX6_mostTimes_2 : decode cX6_mostTimes 2 = .ok (.iconst 0, 1) := by decide +kernel
theorem dX6_mostTimes_3 : decode cX6_mostTimes 3 = .ok (.istore_n 3, 1) := by decide +kernel
theorem dX6_mostTimes_4 : decode cX6_mostTimes 4 = .ok (.iload_n 3, 1) := by decide +kernel
theorem dX6_mostTimes_5 : decode cX6_mostTimes 5 = .ok (.iload_n 1, 1) := by decide +kernel
theorem dX6_mostTimes_6 : decode cX6_mostTimes 6 = .ok (.iadd, 1) := by decide +kernel
theorem dX6_mostTimes_7 : decode cX6_mostTimes 7 = .ok (.aload_n 0, 1) := by decide +kernel
theorem dX6_mostTimes_8 : decode cX6_mostTimes 8 = .ok (.iconst 0, 1) := by decide +kernel
theorem dX6_mostTimes_9 : decode cX6_mostTimes 9 = .ok (.iaload, 1) := by decide +kernel
theorem dX6_mostTimes_10 : decode cX6_mostTimes 10 = .ok (.if_icmp .gt 30, 3) := by decide +kernel
theorem dX6_mostTimes_13 : decode cX6_mostTimes 13 = .ok (.aload_n 0, 1) := by decide +kernel
theorem dX6_mostTimes_14 : decode cX6_mostTimes 14 = .ok (.iload_n 3, 1) := by decide +kernel
theorem dX6_mostTimes_15 : decode cX6_mostTimes 15 = .ok (.iload_n 1, 1) := by decide +kernel
theorem dX6_mostTimes_16 : decode cX6_mostTimes 16 = .ok (.invokestatic 98, 3) := by decide +kernel
theorem dX6_mostTimes_19 : decode cX6_mostTimes 19 = .ok (.istore 4, 2) := by decide +kernel
theorem dX6_mostTimes_21 : decode cX6_mostTimes 21 = .ok (.iload 4, 2) := by decide +kernel
theorem dX6_mostTimes_23 : decode cX6_mostTimes 23 = .ok (.iload_n 2, 1) := by decide +kernel
theorem dX6_mostTimes_24 : decode cX6_mostTimes 24 = .ok (.if_icmp .le 8, 3) := by decide +kernel
theorem dX6_mostTimes_27 : decode cX6_mostTimes 27 = .ok (.iload 4, 2) := by decide +kernel
theorem dX6_mostTimes_29 : decode cX6_mostTimes 29 = .ok (.goto 4, 3) := by decide +kernel
theorem dX6_mostTimes_32 : decode cX6_mostTimes 32 = .ok (.iload_n 2, 1) := by decide +kernel
theorem dX6_mostTimes_33 : decode cX6_mostTimes 33 = .ok (.istore_n 2, 1) := by decide +kernel
theorem dX6_mostTimes_34 : decode cX6_mostTimes 34 = .ok (.iinc 3 1, 3) := by decide +kernel
theorem dX6_mostTimes_37 : decode cX6_mostTimes 37 = .ok (.goto (-33), 3) := by decide +kernel
theorem dX6_mostTimes_40 : decode cX6_mostTimes 40 = .ok (.iload_n 2, 1) := by decide +kernel
theorem dX6_mostTimes_41 : decode cX6_mostTimes 41 = .ok (.ireturn, 1) := by decide +kernel
set_option maxRecDepth 20000 in
theorem ggX6_append_X6_in : GoodIn wsX6_append wsX6_in := goodIn_r _ [7] (by decide +kernel) (by decide +kernel)
set_option maxRecDepth 20000 in
theorem gX6_append_X6_in : GoodIn wsX6_append (va_wsS RX6 103 yX6_in wsX6_in) := goodIn_app (goodIn_of _ (by decide +kernel)) ggX6_append_X6_in
set_option maxRecDepth 20000 in
theorem ggX6_append_X6_refused : GoodIn wsX6_append wsX6_refused := goodIn_r _ [11, 12, 13, 14, 15, 16, 17, 18, 19, 20, 21, 22, 23, 24, 25, 26] (by decide +kernel) (by decide +kernel)
set_option maxRecDepth 20000 in
theorem gX6_append_X6_refused : GoodIn wsX6_append (wsV RX6 110 RX6 yX6_refused wsX6_refused) := goodIn_app (goodIn_of _ (by decide +kernel)) ggX6_append_X6_refused
theorem dX6_append_0 : decode cX6_append 0 = .ok (.aload_n 0, 1) := by decide +kernel
theorem dX6_append_1 : decode cX6_append 1 = .ok (.iload_n 1, 1) := by decide +kernel
theorem dX6_append_2 : decode cX6_append 2 = .ok (.i2l, 1) := by decide +kernel
theorem dX6_append_3 : decode cX6_append 3 = .ok (.lconst 0, 1) := by decide +kernel
theorem dX6_append_4 : decode cX6_append 4 = .ok (.ldc2_w 101, 3) := by decide +kernel
theorem dX6_append_7 : decode cX6_append 7 = .ok (.invokestatic 103, 3) := by decide +kernel
theorem dX6_append_10 : decode cX6_append 10 = .ok (.ifCond .ne 7, 3) := by decide +kernel
theorem dX6_append_13 : decode cX6_append 13 = .ok (.iconst 1, 1) := by decide +kernel
theorem dX6_append_14 : decode cX6_append 14 = .ok (.goto 17, 3) := by decide +kernel
theorem dX6_append_17 : decode cX6_append 17 = .ok (.aload_n 0, 1) := by decide +kernel
theorem dX6_append_18 : decode cX6_append 18 = .ok (.getfield 107, 3) := by decide +kernel
theorem dX6_append_21 : decode cX6_append 21 = .ok (.bipush 40, 2) := by decide +kernel
theorem dX6_append_23 : decode cX6_append 23 = .ok (.if_icmp .ne 7, 3) := by decide +kernel
theorem dX6_append_26 : decode cX6_append 26 = .ok (.iconst 2, 1) := by decide +kernel
theorem dX6_append_27 : decode cX6_append 27 = .ok (.goto 4, 3) := by decide +kernel
theorem dX6_append_30 : decode cX6_append 30 = .ok (.iconst 0, 1) := by decide +kernel
theorem dX6_append_31 : decode cX6_append 31 = .ok (.invokevirtual 110, 3) := by decide +kernel
theorem dX6_append_34 : decode cX6_append 34 = .ok (.ifCond .eq 5, 3) := by decide +kernel
theorem dX6_append_37 : decode cX6_append 37 = .ok (.iconst 0, 1) := by decide +kernel
theorem dX6_append_38 : decode cX6_append 38 = .ok (.ireturn, 1) := by decide +kernel
theorem dX6_append_39 : decode cX6_append 39 = .ok (.aload_n 0, 1) := by decide +kernel
theorem dX6_append_40 : decode cX6_append 40 = .ok (.getfield 7, 3) := by decide +kernel
theorem dX6_append_43 : decode cX6_append 43 = .ok (.aload_n 0, 1) := by decide +kernel
theorem dX6_append_44 : decode cX6_append 44 = .ok (.getfield 107, 3) := by decide +kernel
theorem dX6_append_47 : decode cX6_append 47 = .ok (.iload_n 1, 1) := by decide +kernel
theorem dX6_append_48 : decode cX6_append 48 = .ok (.iastore, 1) := by decide +kernel
theorem dX6_append_49 : decode cX6_append 49 = .ok (.aload_n 0, 1) := by decide +kernel
theorem dX6_append_50 : decode cX6_append 50 = .ok (.dup, 1) := by decide +kernel
theorem dX6_append_51 : decode cX6_append 51 = .ok (.getfield 107, 3) := by decide +kernel
theorem dX6_append_54 : decode cX6_append 54 = .ok (.iconst 1, 1) := by decide +kernel
theorem dX6_append_55 : decode cX6_append 55 = .ok (.iadd, 1) := by decide +kernel
theorem dX6_append_56 : decode cX6_append 56 = .ok (.putfield 107, 3) := by decide +kernel
theorem dX6_append_59 : decode cX6_append 59 = .ok (.aload_n 0, 1) := by decide +kernel
theorem dX6_append_60 : decode cX6_append 60 = .ok (.getfield 107, 3) := by decide +kernel
theorem dX6_append_63 : decode cX6_append 63 = .ok (.ireturn, 1) := by decide +kernel
theorem dX6_clearText_0 : decode cX6_clearText 0 = .ok (.aload_n 0, 1) := by decide +kernel
theorem dX6_clearText_1 : decode cX6_clearText 1 = .ok (.iconst 0, 1) := by decide +kernel
theorem dX6_clearText_2 : decode cX6_clearText 2 = .ok (.putfield 41, 3) := by decide +kernel
theorem dX6_clearText_5 : decode cX6_clearText 5 = .ok (.aload_n 0, 1) := by decide +kernel
theorem dX6_clearText_6 : decode cX6_clearText 6 = .ok (.getfield 107, 3) := by decide +kernel
theorem dX6_clearText_9 : decode cX6_clearText 9 = .ok (.istore_n 1, 1) := by decide +kernel
theorem dX6_clearText_10 : decode cX6_clearText 10 = .ok (.aload_n 0, 1) := by decide +kernel
theorem dX6_clearText_11 : decode cX6_clearText 11 = .ok (.iconst 0, 1) := by decide +kernel
theorem dX6_clearText_12 : decode cX6_clearText 12 = .ok (.putfield 107, 3) := by decide +kernel
theorem dX6_clearText_15 : decode cX6_clearText 15 = .ok (.iload_n 1, 1) := by decide +kernel
theorem dX6_clearText_16 : decode cX6_clearText 16 = .ok (.ireturn, 1) := by decide +kernel
set_option maxRecDepth 20000 in
theorem ggX6_fault_X6_in : GoodIn wsX6_fault wsX6_in := goodIn_r _ [8] (by decide +kernel) (by decide +kernel)
set_option maxRecDepth 20000 in
theorem gX6_fault_X6_in : GoodIn wsX6_fault (va_wsS RX6 103 yX6_in wsX6_in) := goodIn_app (goodIn_of _ (by decide +kernel)) ggX6_fault_X6_in
theorem dX6_fault_0 : decode cX6_fault 0 = .ok (.iconst 0, 1) := by decide +kernel
theorem dX6_fault_1 : decode cX6_fault 1 = .ok (.istore_n 1, 1) := by decide +kernel
theorem dX6_fault_2 : decode cX6_fault 2 = .ok (.iload_n 1, 1) := by decide +kernel
theorem dX6_fault_3 : decode cX6_fault 3 = .ok (.aload_n 0, 1) := by decide +kernel
theorem dX6_fault_4 : decode cX6_fault 4 = .ok (.getfield 107, 3) := by decide +kernel
theorem dX6_fault_7 : decode cX6_fault 7 = .ok (.if_icmp .ge 30, 3) := by decide +kernel
theorem dX6_fault_10 : decode cX6_fault 10 = .ok (.aload_n 0, 1) := by decide +kernel
theorem dX6_fault_11 : decode cX6_fault 11 = .ok (.getfield 7, 3) := by decide +kernel
theorem dX6_fault_14 : decode cX6_fault 14 = .ok (.iload_n 1, 1) := by decide +kernel
theorem dX6_fault_15 : decode cX6_fault 15 = .ok (.iaload, 1) := by decide +kernel
theorem dX6_fault_16 : decode cX6_fault 16 = .ok (.i2l, 1) := by decide +kernel
theorem dX6_fault_17 : decode cX6_fault 17 = .ok (.ldc2_w 114, 3) := by decide +kernel
theorem dX6_fault_20 : decode cX6_fault 20 = .ok (.ldc2_w 116, 3) := by decide +kernel
theorem dX6_fault_23 : decode cX6_fault 23 = .ok (.invokestatic 103, 3) := by decide +kernel
theorem dX6_fault_26 : decode cX6_fault 26 = .ok (.ifCond .ne 5, 3) := by decide +kernel
theorem dX6_fault_29 : decode cX6_fault 29 = .ok (.iload_n 1, 1) := by decide +kernel
theorem dX6_fault_30 : decode cX6_fault 30 = .ok (.ireturn, 1) := by decide +kernel
theorem dX6_fault_31 : decode cX6_fault 31 = .ok (.iinc 1 1, 3) := by decide +kernel
theorem dX6_fault_34 : decode cX6_fault 34 = .ok (.goto (-32), 3) := by decide +kernel
theorem dX6_fault_37 : decode cX6_fault 37 = .ok (.aload_n 0, 1) := by decide +kernel
theorem dX6_fault_38 : decode cX6_fault 38 = .ok (.getfield 107, 3) := by decide +kernel
theorem dX6_fault_41 : decode cX6_fault 41 = .ok (.ifCond .ne 7, 3) := by decide +kernel
theorem dX6_fault_44 : decode cX6_fault 44 = .ok (.iconst 0, 1) := by decide +kernel
theorem dX6_fault_45 : decode cX6_fault 45 = .ok (.goto 4, 3) := by decide +kernel
theorem dX6_fault_48 : decode cX6_fault 48 = .ok (.iconst (-1), 1) := by decide +kernel
theorem dX6_fault_49 : decode cX6_fault 49 = .ok (.ireturn, 1) := by decide +kernel
set_option maxRecDepth 20000 in
theorem ggX6_errorPosition_X6_fault : GoodIn wsX6_errorPosition wsX6_fault := goodIn_r _ [6, 7, 8, 9, 10, 11, 12, 5, 13, 14, 15, 16, 17, 18, 19, 20, 21, 22, 23, 24, 25, 26, 27] (by decide +kernel) (by decide +kernel)
set_option maxRecDepth 20000 in
theorem gX6_errorPosition_X6_fault : GoodIn wsX6_errorPosition (wsV RX6 118 RX6 yX6_fault wsX6_fault) := goodIn_app (goodIn_of _ (by decide +kernel)) ggX6_errorPosition_X6_fault
theorem dX6_errorPosition_0 : decode cX6_errorPosition 0 = .ok (.aload_n 0, 1) := by decide +kernel
theorem dX6_errorPosition_1 : decode cX6_errorPosition 1 = .ok (.iconst 0, 1) := by decide +kernel
theorem dX6_errorPosition_2 : decode cX6_errorPosition 2 = .ok (.putfield 41, 3) := by decide +kernel
theorem dX6_errorPosition_5 : decode cX6_errorPosition 5 = .ok (.aload_n 0, 1) := by decide +kernel
theorem dX6_errorPosition_6 : decode cX6_errorPosition 6 = .ok (.invokevirtual 118, 3) := by decide +kernel
theorem dX6_errorPosition_9 : decode cX6_errorPosition 9 = .ok (.ireturn, 1) := by decide +kernel
set_option maxRecDepth 20000 in
theorem ggX6_canSing_X6_fault : GoodIn wsX6_canSing wsX6_fault := goodIn_r _ [6, 1, 7, 8, 9, 10, 11, 5, 12, 13, 14, 15, 16, 17, 18, 19, 20, 21, 22, 23, 24, 25, 26] (by decide +kernel) (by decide +kernel)
set_option maxRecDepth 20000 in
theorem gX6_canSing_X6_fault : GoodIn wsX6_canSing (wsV RX6 118 RX6 yX6_fault wsX6_fault) := goodIn_app (goodIn_of _ (by decide +kernel)) ggX6_canSing_X6_fault
theorem dX6_canSing_0 : decode cX6_canSing 0 = .ok (.aload_n 0, 1) := by decide +kernel
theorem dX6_canSing_1 : decode cX6_canSing 1 = .ok (.invokevirtual 118, 3) := by decide +kernel
theorem dX6_canSing_4 : decode cX6_canSing 4 = .ok (.iconst (-1), 1) := by decide +kernel
theorem dX6_canSing_5 : decode cX6_canSing 5 = .ok (.if_icmp .ne 16, 3) := by decide +kernel
theorem dX6_canSing_8 : decode cX6_canSing 8 = .ok (.aload_n 0, 1) := by decide +kernel
theorem dX6_canSing_9 : decode cX6_canSing 9 = .ok (.getfield 107, 3) := by decide +kernel
theorem dX6_canSing_12 : decode cX6_canSing 12 = .ok (.bipush 12, 2) := by decide +kernel
theorem dX6_canSing_14 : decode cX6_canSing 14 = .ok (.if_icmp .gt 7, 3) := by decide +kernel
theorem dX6_canSing_17 : decode cX6_canSing 17 = .ok (.iconst 1, 1) := by decide +kernel
theorem dX6_canSing_18 : decode cX6_canSing 18 = .ok (.goto 4, 3) := by decide +kernel
theorem dX6_canSing_21 : decode cX6_canSing 21 = .ok (.iconst 0, 1) := by decide +kernel
theorem dX6_canSing_22 : decode cX6_canSing 22 = .ok (.ireturn, 1) := by decide +kernel
set_option maxRecDepth 20000 in
theorem ggX6_takeText_X6_copy : GoodIn wsX6_takeText wsX6_copy := goodIn_r _ [8] (by decide +kernel) (by decide +kernel)
set_option maxRecDepth 20000 in
theorem gX6_takeText_X6_copy : GoodIn wsX6_takeText (va_wsS RX6 50 yX6_copy wsX6_copy) := goodIn_app (goodIn_of _ (by decide +kernel)) ggX6_takeText_X6_copy
theorem dX6_takeText_0 : decode cX6_takeText 0 = .ok (.aload_n 0, 1) := by decide +kernel
theorem dX6_takeText_1 : decode cX6_takeText 1 = .ok (.aload_n 0, 1) := by decide +kernel
theorem dX6_takeText_2 : decode cX6_takeText 2 = .ok (.getfield 107, 3) := by decide +kernel
theorem dX6_takeText_5 : decode cX6_takeText 5 = .ok (.putfield 76, 3) := by decide +kernel
theorem dX6_takeText_8 : decode cX6_takeText 8 = .ok (.aload_n 0, 1) := by decide +kernel
theorem dX6_takeText_9 : decode cX6_takeText 9 = .ok (.getfield 7, 3) := by decide +kernel
theorem dX6_takeText_12 : decode cX6_takeText 12 = .ok (.iconst 0, 1) := by decide +kernel
theorem dX6_takeText_13 : decode cX6_takeText 13 = .ok (.aload_n 0, 1) := by decide +kernel
theorem dX6_takeText_14 : decode cX6_takeText 14 = .ok (.getfield 38, 3) := by decide +kernel
theorem dX6_takeText_17 : decode cX6_takeText 17 = .ok (.iconst 0, 1) := by decide +kernel
theorem dX6_takeText_18 : decode cX6_takeText 18 = .ok (.aload_n 0, 1) := by decide +kernel
theorem dX6_takeText_19 : decode cX6_takeText 19 = .ok (.getfield 76, 3) := by decide +kernel
theorem dX6_takeText_22 : decode cX6_takeText 22 = .ok (.invokestatic 50, 3) := by decide +kernel
theorem dX6_takeText_25 : decode cX6_takeText 25 = .ok (.return_, 1) := by decide +kernel
set_option maxRecDepth 20000 in
theorem ggX6_about_X6_in : GoodIn wsX6_about wsX6_in := goodIn_r _ [6] (by decide +kernel) (by decide +kernel)
set_option maxRecDepth 20000 in
theorem gX6_about_X6_in : GoodIn wsX6_about (va_wsS RX6 103 yX6_in wsX6_in) := goodIn_app (goodIn_of _ (by decide +kernel)) ggX6_about_X6_in
set_option maxRecDepth 20000 in
theorem ggX6_about_X6_refused : GoodIn wsX6_about wsX6_refused := goodIn_r _ [10, 11, 39, 40, 41, 42, 43, 44, 45, 46, 47, 48, 49, 50, 51, 52] (by decide +kernel) (by decide +kernel)
set_option maxRecDepth 20000 in
theorem gX6_about_X6_refused : GoodIn wsX6_about (wsV RX6 110 RX6 yX6_refused wsX6_refused) := goodIn_app (goodIn_of _ (by decide +kernel)) ggX6_about_X6_refused
set_option maxRecDepth 20000 in
theorem ggX6_about_X6_pieces : GoodIn wsX6_about wsX6_pieces := goodIn_r _ [15, 16, 17, 18, 19, 5, 20, 21, 22, 23, 24, 25, 26, 27, 39, 40, 41, 42, 43, 44, 45, 46, 47, 48, 49, 50, 51, 52] (by decide +kernel) (by decide +kernel)
set_option maxRecDepth 20000 in
theorem gX6_about_X6_pieces : GoodIn wsX6_about (wsV RX6 124 RX6 yX6_pieces wsX6_pieces) := goodIn_app (goodIn_of _ (by decide +kernel)) ggX6_about_X6_pieces
set_option maxRecDepth 20000 in
theorem ggX6_about_X6_longest : GoodIn wsX6_about wsX6_longest := goodIn_r _ [31, 16, 17, 18, 19, 5, 20, 21, 22, 23, 24, 25, 26, 27, 39, 40, 41, 42, 43, 44, 45, 46, 47, 48, 49, 50, 51, 52] (by decide +kernel) (by decide +kernel)
set_option maxRecDepth 20000 in
theorem gX6_about_X6_longest : GoodIn wsX6_about (wsV RX6 92 RX6 yX6_longest wsX6_longest) := goodIn_app (goodIn_of _ (by decide +kernel)) ggX6_about_X6_longest
set_option maxRecDepth 20000 in
theorem ggX6_about_X6_lowestRepeat : GoodIn wsX6_about wsX6_lowestRepeat := goodIn_r _ [35, 2, 28, 29, 30, 5, 31, 16, 17, 18, 19, 20, 21, 22, 23, 24, 25, 26, 27, 36, 37, 38, 39, 40, 41, 42, 43, 44, 45, 46, 47, 48, 49, 50, 51, 52] (by decide +kernel) (by decide +kernel)
set_option maxRecDepth 20000 in
theorem gX6_about_X6_lowestRepeat : GoodIn wsX6_about (wsV RX6 127 RX6 yX6_lowestRepeat wsX6_lowestRepeat) := goodIn_app (goodIn_of _ (by decide +kernel)) ggX6_about_X6_lowestRepeat
theorem dX6_about_0 : decode cX6_about 0 = .ok (.aload_n 0, 1) := by decide +kernel
theorem dX6_about_1 : decode cX6_about 1 = .ok (.iload_n 1, 1) := by decide +kernel
theorem dX6_about_2 : decode cX6_about 2 = .ok (.i2l, 1) := by decide +kernel
theorem dX6_about_3 : decode cX6_about 3 = .ok (.lconst 0, 1) := by decide +kernel
theorem dX6_about_4 : decode cX6_about 4 = .ok (.ldc2_w 122, 3) := by decide +kernel
theorem dX6_about_7 : decode cX6_about 7 = .ok (.invokestatic 103, 3) := by decide +kernel
theorem dX6_about_10 : decode cX6_about 10 = .ok (.ifCond .eq 7, 3) := by decide +kernel
theorem dX6_about_13 : decode cX6_about 13 = .ok (.iconst 0, 1) := by decide +kernel
theorem dX6_about_14 : decode cX6_about 14 = .ok (.goto 4, 3) := by decide +kernel
theorem dX6_about_17 : decode cX6_about 17 = .ok (.iconst 1, 1) := by decide +kernel
theorem dX6_about_18 : decode cX6_about 18 = .ok (.invokevirtual 110, 3) := by decide +kernel
theorem dX6_about_21 : decode cX6_about 21 = .ok (.ifCond .eq 5, 3) := by decide +kernel
theorem dX6_about_24 : decode cX6_about 24 = .ok (.iconst 0, 1) := by decide +kernel
theorem dX6_about_25 : decode cX6_about 25 = .ok (.ireturn, 1) := by decide +kernel
theorem dX6_about_26 : decode cX6_about 26 = .ok (.iload_n 1, 1) := by decide +kernel
theorem dX6_about_27 : decode cX6_about 27 = .ok (.tableswitch 70 4 8 #[33, 42, 51, 56, 63], 33) := by decide +kernel
theorem dX6_about_60 : decode cX6_about 60 = .ok (.aload_n 0, 1) := by decide +kernel
theorem dX6_about_61 : decode cX6_about 61 = .ok (.aload_n 0, 1) := by decide +kernel
theorem dX6_about_62 : decode cX6_about 62 = .ok (.getfield 13, 3) := by decide +kernel
theorem dX6_about_65 : decode cX6_about 65 = .ok (.invokevirtual 124, 3) := by decide +kernel
theorem dX6_about_68 : decode cX6_about 68 = .ok (.ireturn, 1) := by decide +kernel
theorem dX6_about_69 : decode cX6_about 69 = .ok (.aload_n 0, 1) := by decide +kernel
theorem dX6_about_70 : decode cX6_about 70 = .ok (.aload_n 0, 1) := by decide +kernel
theorem dX6_about_71 : decode cX6_about 71 = .ok (.getfield 13, 3) := by decide +kernel
theorem dX6_about_74 : decode cX6_about 74 = .ok (.invokevirtual 92, 3) := by decide +kernel
theorem dX6_about_77 : decode cX6_about 77 = .ok (.ireturn, 1) := by decide +kernel
theorem dX6_about_78 : decode cX6_about 78 = .ok (.aload_n 0, 1) := by decide +kernel
theorem dX6_about_79 : decode cX6_about 79 = .ok (.invokevirtual 127, 3) := by decide +kernel
theorem dX6_about_82 : decode cX6_about 82 = .ok (.ireturn, 1) := by decide +kernel
theorem dX6_about_83 : decode cX6_about 83 = .ok (.aload_n 0, 1) := by decide +kernel
theorem dX6_about_84 : decode cX6_about 84 = .ok (.getfield 13, 3) := by decide +kernel
theorem dX6_about_87 : decode cX6_about 87 = .ok (.iconst 4, 1) := by decide +kernel
theorem dX6_about_88 : decode cX6_about 88 = .ok (.iaload, 1) := by decide +kernel
theorem dX6_about_89 : decode cX6_about 89 = .ok (.ireturn, 1) := by decide +kernel
theorem dX6_about_90 : decode cX6_about 90 = .ok (.aload_n 0, 1) := by decide +kernel
theorem dX6_about_91 : decode cX6_about 91 = .ok (.getfield 13, 3) := by decide +kernel
theorem dX6_about_94 : decode cX6_about 94 = .ok (.iconst 5, 1) := by decide +kernel
theorem dX6_about_95 : decode cX6_about 95 = .ok (.iaload, 1) := by decide +kernel
theorem dX6_about_96 : decode cX6_about 96 = .ok (.ireturn, 1) := by decide +kernel
theorem dX6_about_97 : decode cX6_about 97 = .ok (.aload_n 0, 1) := by decide +kernel
theorem dX6_about_98 : decode cX6_about 98 = .ok (.getfield 13, 3) := by decide +kernel
theorem dX6_about_101 : decode cX6_about 101 = .ok (.iload_n 1, 1) := by decide +kernel
theorem dX6_about_102 : decode cX6_about 102 = .ok (.iaload, 1) := by decide +kernel
theorem dX6_about_103 : decode cX6_about 103 = .ok (.ireturn, 1) := by decide +kernel
set_option maxRecDepth 20000 in
theorem ggX6_verseAt_X6_beginOf : GoodIn wsX6_verseAt wsX6_beginOf := goodIn_r _ [5] (by decide +kernel) (by decide +kernel)
set_option maxRecDepth 20000 in
theorem gX6_verseAt_X6_beginOf : GoodIn wsX6_verseAt (va_wsS RX6 85 yX6_beginOf wsX6_beginOf) := goodIn_app (goodIn_of _ (by decide +kernel)) ggX6_verseAt_X6_beginOf
theorem dX6_verseAt_0 : decode cX6_verseAt 0 = .ok (.iconst 0, 1) := by decide +kernel
theorem dX6_verseAt_1 : decode cX6_verseAt 1 = .ok (.istore_n 2, 1) := by decide +kernel
theorem dX6_verseAt_2 : decode cX6_verseAt 2 = .ok (.aload_n 0, 1) := by decide +kernel
theorem dX6_verseAt_3 : decode cX6_verseAt 3 = .ok (.getfield 13, 3) := by decide +kernel
theorem dX6_verseAt_6 : decode cX6_verseAt 6 = .ok (.iload_n 2, 1) := by decide +kernel
theorem dX6_verseAt_7 : decode cX6_verseAt 7 = .ok (.iconst 1, 1) := by decide +kernel
theorem dX6_verseAt_8 : decode cX6_verseAt 8 = .ok (.iadd, 1) := by decide +kernel
theorem dX6_verseAt_9 : decode cX6_verseAt 9 = .ok (.invokestatic 85, 3) := by decide +kernel
theorem dX6_verseAt_12 : decode cX6_verseAt 12 = .ok (.iload_n 1, 1) := by decide +kernel
theorem dX6_verseAt_13 : decode cX6_verseAt 13 = .ok (.if_icmp .gt 9, 3) := by decide +kernel
theorem dX6_verseAt_16 : decode cX6_verseAt 16 = .ok (.iinc 2 1, 3) := by decide +kernel
theorem dX6_verseAt_19 : decode cX6_verseAt 19 = .ok (.goto (-17), 3) := by decide +kernel
theorem dX6_verseAt_22 : decode cX6_verseAt 22 = .ok (.iload_n 2, 1) := by decide +kernel
theorem dX6_verseAt_23 : decode cX6_verseAt 23 = .ok (.ireturn, 1) := by decide +kernel
set_option maxRecDepth 20000 in
theorem ggX6_note_X6_in : GoodIn wsX6_note wsX6_in := goodIn_r _ [8] (by decide +kernel) (by decide +kernel)
set_option maxRecDepth 20000 in
theorem gX6_note_X6_in : GoodIn wsX6_note (va_wsS RX6 103 yX6_in wsX6_in) := goodIn_app (goodIn_of _ (by decide +kernel)) ggX6_note_X6_in
set_option maxRecDepth 20000 in
theorem ggX6_note_X6_refused : GoodIn wsX6_note wsX6_refused := goodIn_r _ [12, 13, 37, 38, 39, 40, 41, 42, 43, 44, 45, 46, 47, 48, 49, 50] (by decide +kernel) (by decide +kernel)
set_option maxRecDepth 20000 in
theorem gX6_note_X6_refused : GoodIn wsX6_note (wsV RX6 110 RX6 yX6_refused wsX6_refused) := goodIn_app (goodIn_of _ (by decide +kernel)) ggX6_note_X6_refused
set_option maxRecDepth 20000 in
theorem ggX6_note_X6_lay : GoodIn wsX6_note wsX6_lay := goodIn_r _ [17, 4, 3, 18, 19, 7, 20, 21, 22, 23, 37, 38, 39, 40, 41, 42, 43, 44, 45, 46, 47, 48, 49, 50] (by decide +kernel) (by decide +kernel)
set_option maxRecDepth 20000 in
theorem gX6_note_X6_lay : GoodIn wsX6_note (wsV RX6 66 RX6 yX6_lay wsX6_lay) := goodIn_app (goodIn_of _ (by decide +kernel)) ggX6_note_X6_lay
set_option maxRecDepth 20000 in
theorem ggX6_note_X6_verseAt : GoodIn wsX6_note wsX6_verseAt := goodIn_r _ [27, 1, 28, 29, 7, 30, 37, 38, 39, 40, 41, 42, 43, 44, 45, 46, 47, 48, 49, 50] (by decide +kernel) (by decide +kernel)
set_option maxRecDepth 20000 in
theorem gX6_note_X6_verseAt : GoodIn wsX6_note (wsV RX6 132 RX6 yX6_verseAt wsX6_verseAt) := goodIn_app (goodIn_of _ (by decide +kernel)) ggX6_note_X6_verseAt
set_option maxRecDepth 20000 in
theorem ggX6_note_X6_singerOf : GoodIn wsX6_note wsX6_singerOf := goodIn_r _ [33, 34, 35, 7, 36] (by decide +kernel) (by decide +kernel)
set_option maxRecDepth 20000 in
theorem gX6_note_X6_singerOf : GoodIn wsX6_note (va_wsS RX6 70 yX6_singerOf wsX6_singerOf) := goodIn_app (goodIn_of _ (by decide +kernel)) ggX6_note_X6_singerOf
set_option maxRecDepth 20000 in
theorem ggX6_note_X6_alike : GoodIn wsX6_note wsX6_alike := goodIn_r _ [23] (by decide +kernel) (by decide +kernel)
set_option maxRecDepth 20000 in
theorem gX6_note_X6_alike : GoodIn wsX6_note (va_wsS RX6 54 yX6_alike wsX6_alike) := goodIn_app (goodIn_of _ (by decide +kernel)) ggX6_note_X6_alike
theorem dX6_note_0 : decode cX6_note 0 = .ok (.aload_n 0, 1) := by decide +kernel
theorem dX6_note_1 : decode cX6_note 1 = .ok (.iload_n 1, 1) := by decide +kernel
theorem dX6_note_2 : decode cX6_note 2 = .ok (.i2l, 1) := by decide +kernel
theorem dX6_note_3 : decode cX6_note 3 = .ok (.lconst 0, 1) := by decide +kernel
theorem dX6_note_4 : decode cX6_note 4 = .ok (.aload_n 0, 1) := by decide +kernel
theorem dX6_note_5 : decode cX6_note 5 = .ok (.getfield 13, 3) := by decide +kernel
theorem dX6_note_8 : decode cX6_note 8 = .ok (.iconst 0, 1) := by decide +kernel
theorem dX6_note_9 : decode cX6_note 9 = .ok (.iaload, 1) := by decide +kernel
theorem dX6_note_10 : decode cX6_note 10 = .ok (.iconst 1, 1) := by decide +kernel
theorem dX6_note_11 : decode cX6_note 11 = .ok (.isub, 1) := by decide +kernel
theorem dX6_note_12 : decode cX6_note 12 = .ok (.i2l, 1) := by decide +kernel
theorem dX6_note_13 : decode cX6_note 13 = .ok (.invokestatic 103, 3) := by decide +kernel
theorem dX6_note_16 : decode cX6_note 16 = .ok (.ifCond .ne 7, 3) := by decide +kernel
theorem dX6_note_19 : decode cX6_note 19 = .ok (.iconst 1, 1) := by decide +kernel
theorem dX6_note_20 : decode cX6_note 20 = .ok (.goto 20, 3) := by decide +kernel
theorem dX6_note_23 : decode cX6_note 23 = .ok (.iload_n 2, 1) := by decide +kernel
theorem dX6_note_24 : decode cX6_note 24 = .ok (.i2l, 1) := by decide +kernel
theorem dX6_note_25 : decode cX6_note 25 = .ok (.lconst 0, 1) := by decide +kernel
theorem dX6_note_26 : decode cX6_note 26 = .ok (.ldc2_w 130, 3) := by decide +kernel
theorem dX6_note_29 : decode cX6_note 29 = .ok (.invokestatic 103, 3) := by decide +kernel
theorem dX6_note_32 : decode cX6_note 32 = .ok (.ifCond .eq 7, 3) := by decide +kernel
theorem dX6_note_35 : decode cX6_note 35 = .ok (.iconst 0, 1) := by decide +kernel
theorem dX6_note_36 : decode cX6_note 36 = .ok (.goto 4, 3) := by decide +kernel
theorem dX6_note_39 : decode cX6_note 39 = .ok (.iconst 2, 1) := by decide +kernel
theorem dX6_note_40 : decode cX6_note 40 = .ok (.invokevirtual 110, 3) := by decide +kernel
theorem dX6_note_43 : decode cX6_note 43 = .ok (.ifCond .eq 5, 3) := by decide +kernel
theorem dX6_note_46 : decode cX6_note 46 = .ok (.iconst 0, 1) := by decide +kernel
theorem dX6_note_47 : decode cX6_note 47 = .ok (.ireturn, 1) := by decide +kernel
theorem dX6_note_48 : decode cX6_note 48 = .ok (.aload_n 0, 1) := by decide +kernel
theorem dX6_note_49 : decode cX6_note 49 = .ok (.aload_n 0, 1) := by decide +kernel
theorem dX6_note_50 : decode cX6_note 50 = .ok (.getfield 13, 3) := by decide +kernel
theorem dX6_note_53 : decode cX6_note 53 = .ok (.invokevirtual 66, 3) := by decide +kernel
theorem dX6_note_56 : decode cX6_note 56 = .ok (.aload_n 0, 1) := by decide +kernel
theorem dX6_note_57 : decode cX6_note 57 = .ok (.getfield 32, 3) := by decide +kernel
theorem dX6_note_60 : decode cX6_note 60 = .ok (.iload_n 1, 1) := by decide +kernel
theorem dX6_note_61 : decode cX6_note 61 = .ok (.iaload, 1) := by decide +kernel
theorem dX6_note_62 : decode cX6_note 62 = .ok (.istore_n 3, 1) := by decide +kernel
theorem dX6_note_63 : decode cX6_note 63 = .ok (.iload_n 2, 1) := by decide +kernel
theorem dX6_note_64 : decode cX6_note 64 = .ok (.tableswitch 59 0 3 #[32, 42, 44, 50], 32) := by decide +kernel
theorem dX6_note_96 : decode cX6_note 96 = .ok (.aload_n 0, 1) := by decide +kernel
theorem dX6_note_97 : decode cX6_note 97 = .ok (.getfield 13, 3) := by decide +kernel
theorem dX6_note_100 : decode cX6_note 100 = .ok (.bipush 66, 2) := by decide +kernel
theorem dX6_note_102 : decode cX6_note 102 = .ok (.iload_n 1, 1) := by decide +kernel
theorem dX6_note_103 : decode cX6_note 103 = .ok (.iadd, 1) := by decide +kernel
theorem dX6_note_104 : decode cX6_note 104 = .ok (.iaload, 1) := by decide +kernel
theorem dX6_note_105 : decode cX6_note 105 = .ok (.ireturn, 1) := by decide +kernel
theorem dX6_note_106 : decode cX6_note 106 = .ok (.iload_n 3, 1) := by decide +kernel
theorem dX6_note_107 : decode cX6_note 107 = .ok (.ireturn, 1) := by decide +kernel
theorem dX6_note_108 : decode cX6_note 108 = .ok (.aload_n 0, 1) := by decide +kernel
theorem dX6_note_109 : decode cX6_note 109 = .ok (.iload_n 1, 1) := by decide +kernel
theorem dX6_note_110 : decode cX6_note 110 = .ok (.invokevirtual 132, 3) := by decide +kernel
theorem dX6_note_113 : decode cX6_note 113 = .ok (.ireturn, 1) := by decide +kernel
theorem dX6_note_114 : decode cX6_note 114 = .ok (.aload_n 0, 1) := by decide +kernel
theorem dX6_note_115 : decode cX6_note 115 = .ok (.getfield 13, 3) := by decide +kernel
theorem dX6_note_118 : decode cX6_note 118 = .ok (.iload_n 3, 1) := by decide +kernel
theorem dX6_note_119 : decode cX6_note 119 = .ok (.invokestatic 70, 3) := by decide +kernel
theorem dX6_note_122 : decode cX6_note 122 = .ok (.ireturn, 1) := by decide +kernel
theorem dX6_note_123 : decode cX6_note 123 = .ok (.iload_n 3, 1) := by decide +kernel
theorem dX6_note_124 : decode cX6_note 124 = .ok (.ifCond .ne 7, 3) := by decide +kernel
theorem dX6_note_127 : decode cX6_note 127 = .ok (.iconst 0, 1) := by decide +kernel
theorem dX6_note_128 : decode cX6_note 128 = .ok (.goto 19, 3) := by decide +kernel
theorem dX6_note_131 : decode cX6_note 131 = .ok (.aload_n 0, 1) := by decide +kernel
theorem dX6_note_132 : decode cX6_note 132 = .ok (.getfield 13, 3) := by decide +kernel
theorem dX6_note_135 : decode cX6_note 135 = .ok (.aload_n 0, 1) := by decide +kernel
theorem dX6_note_136 : decode cX6_note 136 = .ok (.getfield 29, 3) := by decide +kernel
theorem dX6_note_139 : decode cX6_note 139 = .ok (.iload_n 3, 1) := by decide +kernel
theorem dX6_note_140 : decode cX6_note 140 = .ok (.iconst 1, 1) := by decide +kernel
theorem dX6_note_141 : decode cX6_note 141 = .ok (.isub, 1) := by decide +kernel
theorem dX6_note_142 : decode cX6_note 142 = .ok (.iaload, 1) := by decide +kernel
theorem dX6_note_143 : decode cX6_note 143 = .ok (.iload_n 1, 1) := by decide +kernel
theorem dX6_note_144 : decode cX6_note 144 = .ok (.invokestatic 54, 3) := by decide +kernel
theorem dX6_note_147 : decode cX6_note 147 = .ok (.ireturn, 1) := by decide +kernel
set_option maxRecDepth 20000 in
theorem ggX6_suffix_X6_refused : GoodIn wsX6_suffix wsX6_refused := goodIn_r _ [7, 8, 20, 21, 22, 23, 24, 25, 26, 27, 28, 29, 30, 31, 32, 33] (by decide +kernel) (by decide +kernel)
set_option maxRecDepth 20000 in
theorem gX6_suffix_X6_refused : GoodIn wsX6_suffix (wsV RX6 110 RX6 yX6_refused wsX6_refused) := goodIn_app (goodIn_of _ (by decide +kernel)) ggX6_suffix_X6_refused
set_option maxRecDepth 20000 in
theorem ggX6_suffix_X6_lay : GoodIn wsX6_suffix wsX6_lay := goodIn_r _ [12, 2, 13, 14, 15, 6, 16, 17, 18, 19, 20, 21, 22, 23, 24, 25, 26, 27, 28, 29, 30, 31, 32, 33] (by decide +kernel) (by decide +kernel)
set_option maxRecDepth 20000 in
theorem gX6_suffix_X6_lay : GoodIn wsX6_suffix (wsV RX6 66 RX6 yX6_lay wsX6_lay) := goodIn_app (goodIn_of _ (by decide +kernel)) ggX6_suffix_X6_lay
theorem dX6_suffix_0 : decode cX6_suffix 0 = .ok (.aload_n 0, 1) := by decide +kernel
theorem dX6_suffix_1 : decode cX6_suffix 1 = .ok (.iload_n 1, 1) := by decide +kernel
theorem dX6_suffix_2 : decode cX6_suffix 2 = .ok (.ifCond .ge 7, 3) := by decide +kernel
theorem dX6_suffix_5 : decode cX6_suffix 5 = .ok (.iconst 1, 1) := by decide +kernel
theorem dX6_suffix_6 : decode cX6_suffix 6 = .ok (.goto 4, 3) := by decide +kernel
theorem dX6_suffix_9 : decode cX6_suffix 9 = .ok (.iconst 0, 1) := by decide +kernel
theorem dX6_suffix_10 : decode cX6_suffix 10 = .ok (.invokevirtual 110, 3) := by decide +kernel
theorem dX6_suffix_13 : decode cX6_suffix 13 = .ok (.ifCond .eq 5, 3) := by decide +kernel
theorem dX6_suffix_16 : decode cX6_suffix 16 = .ok (.iconst 0, 1) := by decide +kernel
theorem dX6_suffix_17 : decode cX6_suffix 17 = .ok (.ireturn, 1) := by decide +kernel
theorem dX6_suffix_18 : decode cX6_suffix 18 = .ok (.aload_n 0, 1) := by decide +kernel
theorem dX6_suffix_19 : decode cX6_suffix 19 = .ok (.aload_n 0, 1) := by decide +kernel
theorem dX6_suffix_20 : decode cX6_suffix 20 = .ok (.getfield 13, 3) := by decide +kernel
theorem dX6_suffix_23 : decode cX6_suffix 23 = .ok (.invokevirtual 66, 3) := by decide +kernel
theorem dX6_suffix_26 : decode cX6_suffix 26 = .ok (.iload_n 1, 1) := by decide +kernel
theorem dX6_suffix_27 : decode cX6_suffix 27 = .ok (.aload_n 0, 1) := by decide +kernel
theorem dX6_suffix_28 : decode cX6_suffix 28 = .ok (.getfield 13, 3) := by decide +kernel
theorem dX6_suffix_31 : decode cX6_suffix 31 = .ok (.iconst 0, 1) := by decide +kernel
theorem dX6_suffix_32 : decode cX6_suffix 32 = .ok (.iaload, 1) := by decide +kernel
theorem dX6_suffix_33 : decode cX6_suffix 33 = .ok (.if_icmp .ge 12, 3) := by decide +kernel
theorem dX6_suffix_36 : decode cX6_suffix 36 = .ok (.aload_n 0, 1) := by decide +kernel
theorem dX6_suffix_37 : decode cX6_suffix 37 = .ok (.getfield 29, 3) := by decide +kernel
theorem dX6_suffix_40 : decode cX6_suffix 40 = .ok (.iload_n 1, 1) := by decide +kernel
theorem dX6_suffix_41 : decode cX6_suffix 41 = .ok (.iaload, 1) := by decide +kernel
theorem dX6_suffix_42 : decode cX6_suffix 42 = .ok (.goto 4, 3) := by decide +kernel
theorem dX6_suffix_45 : decode cX6_suffix 45 = .ok (.iconst (-1), 1) := by decide +kernel
theorem dX6_suffix_46 : decode cX6_suffix 46 = .ok (.ireturn, 1) := by decide +kernel
set_option maxRecDepth 20000 in
theorem ggX6_isVerse_X6_in : GoodIn wsX6_isVerse wsX6_in := goodIn_r _ [5] (by decide +kernel) (by decide +kernel)
set_option maxRecDepth 20000 in
theorem gX6_isVerse_X6_in : GoodIn wsX6_isVerse (va_wsS RX6 103 yX6_in wsX6_in) := goodIn_app (goodIn_of _ (by decide +kernel)) ggX6_isVerse_X6_in
theorem dX6_isVerse_0 : decode cX6_isVerse 0 = .ok (.iload_n 1, 1) := by decide +kernel
theorem dX6_isVerse_1 : decode cX6_isVerse 1 = .ok (.i2l, 1) := by decide +kernel
theorem dX6_isVerse_2 : decode cX6_isVerse 2 = .ok (.lconst 0, 1) := by decide +kernel
theorem dX6_isVerse_3 : decode cX6_isVerse 3 = .ok (.aload_n 0, 1) := by decide +kernel
theorem dX6_isVerse_4 : decode cX6_isVerse 4 = .ok (.getfield 13, 3) := by decide +kernel
theorem dX6_isVerse_7 : decode cX6_isVerse 7 = .ok (.iconst 1, 1) := by decide +kernel
theorem dX6_isVerse_8 : decode cX6_isVerse 8 = .ok (.iaload, 1) := by decide +kernel
theorem dX6_isVerse_9 : decode cX6_isVerse 9 = .ok (.iconst 1, 1) := by decide +kernel
theorem dX6_isVerse_10 : decode cX6_isVerse 10 = .ok (.isub, 1) := by decide +kernel
theorem dX6_isVerse_11 : decode cX6_isVerse 11 = .ok (.i2l, 1) := by decide +kernel
theorem dX6_isVerse_12 : decode cX6_isVerse 12 = .ok (.invokestatic 103, 3) := by decide +kernel
theorem dX6_isVerse_15 : decode cX6_isVerse 15 = .ok (.ireturn, 1) := by decide +kernel
set_option maxRecDepth 20000 in
theorem ggX6_repeatIn_X6_beginOf : GoodIn wsX6_repeatIn wsX6_beginOf := goodIn_r _ [5] (by decide +kernel) (by decide +kernel)
set_option maxRecDepth 20000 in
theorem gX6_repeatIn_X6_beginOf : GoodIn wsX6_repeatIn (va_wsS RX6 85 yX6_beginOf wsX6_beginOf) := goodIn_app (goodIn_of _ (by decide +kernel)) ggX6_repeatIn_X6_beginOf
set_option maxRecDepth 20000 in
theorem ggX6_repeatIn_X6_repeatAt : GoodIn wsX6_repeatIn wsX6_repeatAt := goodIn_r _ [8, 9, 10, 4, 11] (by decide +kernel) (by decide +kernel)
set_option maxRecDepth 20000 in
theorem gX6_repeatIn_X6_repeatAt : GoodIn wsX6_repeatIn (va_wsS RX6 95 yX6_repeatAt wsX6_repeatAt) := goodIn_app (goodIn_of _ (by decide +kernel)) ggX6_repeatIn_X6_repeatAt
theorem dX6_repeatIn_0 : decode cX6_repeatIn 0 = .ok (.aload_n 0, 1) := by decide +kernel
theorem dX6_repeatIn_1 : decode cX6_repeatIn 1 = .ok (.getfield 13, 3) := by decide +kernel
theorem dX6_repeatIn_4 : decode cX6_repeatIn 4 = .ok (.iload_n 1, 1) := by decide +kernel
theorem dX6_repeatIn_5 : decode cX6_repeatIn 5 = .ok (.invokestatic 85, 3) := by decide +kernel
theorem dX6_repeatIn_8 : decode cX6_repeatIn 8 = .ok (.istore_n 2, 1) := by decide +kernel
theorem dX6_repeatIn_9 : decode cX6_repeatIn 9 = .ok (.iload_n 2, 1) := by decide +kernel
theorem dX6_repeatIn_10 : decode cX6_repeatIn 10 = .ok (.aload_n 0, 1) := by decide +kernel
theorem dX6_repeatIn_11 : decode cX6_repeatIn 11 = .ok (.getfield 13, 3) := by decide +kernel
theorem dX6_repeatIn_14 : decode cX6_repeatIn 14 = .ok (.bipush 6, 2) := by decide +kernel
theorem dX6_repeatIn_16 : decode cX6_repeatIn 16 = .ok (.iload_n 1, 1) := by decide +kernel
theorem dX6_repeatIn_17 : decode cX6_repeatIn 17 = .ok (.iadd, 1) := by decide +kernel
theorem dX6_repeatIn_18 : decode cX6_repeatIn 18 = .ok (.iaload, 1) := by decide +kernel
theorem dX6_repeatIn_19 : decode cX6_repeatIn 19 = .ok (.iadd, 1) := by decide +kernel
theorem dX6_repeatIn_20 : decode cX6_repeatIn 20 = .ok (.istore_n 3, 1) := by decide +kernel
theorem dX6_repeatIn_21 : decode cX6_repeatIn 21 = .ok (.iconst 0, 1) := by decide +kernel
theorem dX6_repeatIn_22 : decode cX6_repeatIn 22 = .ok (.istore 4, 2) := by decide +kernel
theorem dX6_repeatIn_24 : decode cX6_repeatIn 24 = .ok (.iload_n 2, 1) := by decide +kernel
theorem dX6_repeatIn_25 : decode cX6_repeatIn 25 = .ok (.istore 5, 2) := by decide +kernel
theorem dX6_repeatIn_27 : decode cX6_repeatIn 27 = .ok (.iload 5, 2) := by decide +kernel
theorem dX6_repeatIn_29 : decode cX6_repeatIn 29 = .ok (.iload_n 3, 1) := by decide +kernel
theorem dX6_repeatIn_30 : decode cX6_repeatIn 30 = .ok (.if_icmp .ge 56, 3) := by decide +kernel
theorem dX6_repeatIn_33 : decode cX6_repeatIn 33 = .ok (.aload_n 0, 1) := by decide +kernel
theorem dX6_repeatIn_34 : decode cX6_repeatIn 34 = .ok (.getfield 13, 3) := by decide +kernel
theorem dX6_repeatIn_37 : decode cX6_repeatIn 37 = .ok (.iload 5, 2) := by decide +kernel
theorem dX6_repeatIn_39 : decode cX6_repeatIn 39 = .ok (.invokestatic 95, 3) := by decide +kernel
theorem dX6_repeatIn_42 : decode cX6_repeatIn 42 = .ok (.istore 6, 2) := by decide +kernel
theorem dX6_repeatIn_44 : decode cX6_repeatIn 44 = .ok (.iload 6, 2) := by decide +kernel
theorem dX6_repeatIn_46 : decode cX6_repeatIn 46 = .ok (.iload_n 3, 1) := by decide +kernel
theorem dX6_repeatIn_47 : decode cX6_repeatIn 47 = .ok (.iload 5, 2) := by decide +kernel
theorem dX6_repeatIn_49 : decode cX6_repeatIn 49 = .ok (.isub, 1) := by decide +kernel
theorem dX6_repeatIn_50 : decode cX6_repeatIn 50 = .ok (.if_icmp .ge 8, 3) := by decide +kernel
theorem dX6_repeatIn_53 : decode cX6_repeatIn 53 = .ok (.iload 6, 2) := by decide +kernel
theorem dX6_repeatIn_55 : decode cX6_repeatIn 55 = .ok (.goto 7, 3) := by decide +kernel
theorem dX6_repeatIn_58 : decode cX6_repeatIn 58 = .ok (.iload_n 3, 1) := by decide +kernel
theorem dX6_repeatIn_59 : decode cX6_repeatIn 59 = .ok (.iload 5, 2) := by decide +kernel
theorem dX6_repeatIn_61 : decode cX6_repeatIn 61 = .ok (.isub, 1) := by decide +kernel
theorem dX6_repeatIn_62 : decode cX6_repeatIn 62 = .ok (.istore 6, 2) := by decide +kernel
theorem dX6_repeatIn_64 : decode cX6_repeatIn 64 = .ok (.iload 6, 2) := by decide +kernel
theorem dX6_repeatIn_66 : decode cX6_repeatIn 66 = .ok (.iload 4, 2) := by decide +kernel
theorem dX6_repeatIn_68 : decode cX6_repeatIn 68 = .ok (.if_icmp .le 8, 3) := by decide +kernel
theorem dX6_repeatIn_71 : decode cX6_repeatIn 71 = .ok (.iload 6, 2) := by decide +kernel
theorem dX6_repeatIn_73 : decode cX6_repeatIn 73 = .ok (.goto 5, 3) := by decide +kernel
theorem dX6_repeatIn_76 : decode cX6_repeatIn 76 = .ok (.iload 4, 2) := by decide +kernel
theorem dX6_repeatIn_78 : decode cX6_repeatIn 78 = .ok (.istore 4, 2) := by decide +kernel
theorem dX6_repeatIn_80 : decode cX6_repeatIn 80 = .ok (.iinc 5 1, 3) := by decide +kernel
theorem dX6_repeatIn_83 : decode cX6_repeatIn 83 = .ok (.goto (-56), 3) := by decide +kernel
theorem dX6_repeatIn_86 : decode cX6_repeatIn 86 = .ok (.iload 4, 2) := by decide +kernel
theorem dX6_repeatIn_88 : decode cX6_repeatIn 88 = .ok (.ireturn, 1) := by decide +kernel
set_option maxRecDepth 20000 in
theorem ggX6_verse_X6_isVerse : GoodIn wsX6_verse wsX6_isVerse := goodIn_r _ [7, 2, 8, 9, 6, 10, 29, 30, 31, 32, 33, 34, 35, 36, 37, 38, 39, 40, 41, 42] (by decide +kernel) (by decide +kernel)
set_option maxRecDepth 20000 in
theorem gX6_verse_X6_isVerse : GoodIn wsX6_verse (wsV RX6 136 RX6 yX6_isVerse wsX6_isVerse) := goodIn_app (goodIn_of _ (by decide +kernel)) ggX6_verse_X6_isVerse
set_option maxRecDepth 20000 in
theorem ggX6_verse_X6_in : GoodIn wsX6_verse wsX6_in := goodIn_r _ [10] (by decide +kernel) (by decide +kernel)
set_option maxRecDepth 20000 in
theorem gX6_verse_X6_in : GoodIn wsX6_verse (va_wsS RX6 103 yX6_in wsX6_in) := goodIn_app (goodIn_of _ (by decide +kernel)) ggX6_verse_X6_in
set_option maxRecDepth 20000 in
theorem ggX6_verse_X6_refused : GoodIn wsX6_verse wsX6_refused := goodIn_r _ [14, 15, 29, 30, 31, 32, 33, 34, 35, 36, 37, 38, 39, 40, 41, 42] (by decide +kernel) (by decide +kernel)
set_option maxRecDepth 20000 in
theorem gX6_verse_X6_refused : GoodIn wsX6_verse (wsV RX6 110 RX6 yX6_refused wsX6_refused) := goodIn_app (goodIn_of _ (by decide +kernel)) ggX6_verse_X6_refused
set_option maxRecDepth 20000 in
theorem ggX6_verse_X6_beginOf : GoodIn wsX6_verse wsX6_beginOf := goodIn_r _ [18] (by decide +kernel) (by decide +kernel)
set_option maxRecDepth 20000 in
theorem gX6_verse_X6_beginOf : GoodIn wsX6_verse (va_wsS RX6 85 yX6_beginOf wsX6_beginOf) := goodIn_app (goodIn_of _ (by decide +kernel)) ggX6_verse_X6_beginOf
set_option maxRecDepth 20000 in
theorem ggX6_verse_X6_repeatIn : GoodIn wsX6_verse wsX6_repeatIn := goodIn_r _ [22, 2, 16, 17, 6, 18, 23, 24, 25, 26, 27, 28, 29, 30, 31, 32, 33, 34, 35, 36, 37, 38, 39, 40, 41, 42] (by decide +kernel) (by decide +kernel)
set_option maxRecDepth 20000 in
theorem gX6_verse_X6_repeatIn : GoodIn wsX6_verse (wsV RX6 141 RX6 yX6_repeatIn wsX6_repeatIn) := goodIn_app (goodIn_of _ (by decide +kernel)) ggX6_verse_X6_repeatIn
theorem dX6_verse_0 : decode cX6_verse 0 = .ok (.aload_n 0, 1) := by decide +kernel
theorem dX6_verse_1 : decode cX6_verse 1 = .ok (.aload_n 0, 1) := by decide +kernel
theorem dX6_verse_2 : decode cX6_verse 2 = .ok (.iload_n 1, 1) := by decide +kernel
theorem dX6_verse_3 : decode cX6_verse 3 = .ok (.invokevirtual 136, 3) := by decide +kernel
theorem dX6_verse_6 : decode cX6_verse 6 = .ok (.ifCond .ne 7, 3) := by decide +kernel
theorem dX6_verse_9 : decode cX6_verse 9 = .ok (.iconst 1, 1) := by decide +kernel
theorem dX6_verse_10 : decode cX6_verse 10 = .ok (.goto 20, 3) := by decide +kernel
theorem dX6_verse_13 : decode cX6_verse 13 = .ok (.iload_n 2, 1) := by decide +kernel
theorem dX6_verse_14 : decode cX6_verse 14 = .ok (.i2l, 1) := by decide +kernel
theorem dX6_verse_15 : decode cX6_verse 15 = .ok (.lconst 0, 1) := by decide +kernel
theorem dX6_verse_16 : decode cX6_verse 16 = .ok (.ldc2_w 139, 3) := by decide +kernel
theorem dX6_verse_19 : decode cX6_verse 19 = .ok (.invokestatic 103, 3) := by decide +kernel
theorem dX6_verse_22 : decode cX6_verse 22 = .ok (.ifCond .eq 7, 3) := by decide +kernel
theorem dX6_verse_25 : decode cX6_verse 25 = .ok (.iconst 0, 1) := by decide +kernel
theorem dX6_verse_26 : decode cX6_verse 26 = .ok (.goto 4, 3) := by decide +kernel
theorem dX6_verse_29 : decode cX6_verse 29 = .ok (.iconst 2, 1) := by decide +kernel
theorem dX6_verse_30 : decode cX6_verse 30 = .ok (.invokevirtual 110, 3) := by decide +kernel
theorem dX6_verse_33 : decode cX6_verse 33 = .ok (.ifCond .eq 5, 3) := by decide +kernel
theorem dX6_verse_36 : decode cX6_verse 36 = .ok (.iconst 0, 1) := by decide +kernel
theorem dX6_verse_37 : decode cX6_verse 37 = .ok (.ireturn, 1) := by decide +kernel
theorem dX6_verse_38 : decode cX6_verse 38 = .ok (.iload_n 2, 1) := by decide +kernel
theorem dX6_verse_39 : decode cX6_verse 39 = .ok (.ifCond .ne 14, 3) := by decide +kernel
theorem dX6_verse_42 : decode cX6_verse 42 = .ok (.aload_n 0, 1) := by decide +kernel
theorem dX6_verse_43 : decode cX6_verse 43 = .ok (.getfield 13, 3) := by decide +kernel
theorem dX6_verse_46 : decode cX6_verse 46 = .ok (.iload_n 1, 1) := by decide +kernel
theorem dX6_verse_47 : decode cX6_verse 47 = .ok (.invokestatic 85, 3) := by decide +kernel
theorem dX6_verse_50 : decode cX6_verse 50 = .ok (.goto 25, 3) := by decide +kernel
theorem dX6_verse_53 : decode cX6_verse 53 = .ok (.iload_n 2, 1) := by decide +kernel
theorem dX6_verse_54 : decode cX6_verse 54 = .ok (.iconst 1, 1) := by decide +kernel
theorem dX6_verse_55 : decode cX6_verse 55 = .ok (.if_icmp .ne 15, 3) := by decide +kernel
theorem dX6_verse_58 : decode cX6_verse 58 = .ok (.aload_n 0, 1) := by decide +kernel
theorem dX6_verse_59 : decode cX6_verse 59 = .ok (.getfield 13, 3) := by decide +kernel
theorem dX6_verse_62 : decode cX6_verse 62 = .ok (.bipush 6, 2) := by decide +kernel
theorem dX6_verse_64 : decode cX6_verse 64 = .ok (.iload_n 1, 1) := by decide +kernel
theorem dX6_verse_65 : decode cX6_verse 65 = .ok (.iadd, 1) := by decide +kernel
theorem dX6_verse_66 : decode cX6_verse 66 = .ok (.iaload, 1) := by decide +kernel
theorem dX6_verse_67 : decode cX6_verse 67 = .ok (.goto 8, 3) := by decide +kernel
theorem dX6_verse_70 : decode cX6_verse 70 = .ok (.aload_n 0, 1) := by decide +kernel
theorem dX6_verse_71 : decode cX6_verse 71 = .ok (.iload_n 1, 1) := by decide +kernel
theorem dX6_verse_72 : decode cX6_verse 72 = .ok (.invokevirtual 141, 3) := by decide +kernel
theorem dX6_verse_75 : decode cX6_verse 75 = .ok (.ireturn, 1) := by decide +kernel
set_option maxRecDepth 20000 in
theorem ggX6_singer_X6_in : GoodIn wsX6_singer wsX6_in := goodIn_r _ [7] (by decide +kernel) (by decide +kernel)
set_option maxRecDepth 20000 in
theorem gX6_singer_X6_in : GoodIn wsX6_singer (va_wsS RX6 103 yX6_in wsX6_in) := goodIn_app (goodIn_of _ (by decide +kernel)) ggX6_singer_X6_in
set_option maxRecDepth 20000 in
theorem ggX6_singer_X6_refused : GoodIn wsX6_singer wsX6_refused := goodIn_r _ [11, 12, 27, 28, 29, 30, 31, 32, 33, 34, 35, 36, 37, 38, 39, 40] (by decide +kernel) (by decide +kernel)
set_option maxRecDepth 20000 in
theorem gX6_singer_X6_refused : GoodIn wsX6_singer (wsV RX6 110 RX6 yX6_refused wsX6_refused) := goodIn_app (goodIn_of _ (by decide +kernel)) ggX6_singer_X6_refused
set_option maxRecDepth 20000 in
theorem ggX6_singer_X6_firstOf : GoodIn wsX6_singer wsX6_firstOf := goodIn_r _ [15] (by decide +kernel) (by decide +kernel)
set_option maxRecDepth 20000 in
theorem gX6_singer_X6_firstOf : GoodIn wsX6_singer (va_wsS RX6 62 yX6_firstOf wsX6_firstOf) := goodIn_app (goodIn_of _ (by decide +kernel)) ggX6_singer_X6_firstOf
set_option maxRecDepth 20000 in
theorem ggX6_singer_X6_lay : GoodIn wsX6_singer wsX6_lay := goodIn_r _ [19, 3, 20, 21, 22, 6, 23, 24, 25, 26, 27, 28, 29, 30, 31, 32, 33, 34, 35, 36, 37, 38, 39, 40] (by decide +kernel) (by decide +kernel)
set_option maxRecDepth 20000 in
theorem gX6_singer_X6_lay : GoodIn wsX6_singer (wsV RX6 66 RX6 yX6_lay wsX6_lay) := goodIn_app (goodIn_of _ (by decide +kernel)) ggX6_singer_X6_lay
set_option maxRecDepth 20000 in
theorem ggX6_singer_X6_alike : GoodIn wsX6_singer wsX6_alike := goodIn_r _ [26] (by decide +kernel) (by decide +kernel)
set_option maxRecDepth 20000 in
theorem gX6_singer_X6_alike : GoodIn wsX6_singer (va_wsS RX6 54 yX6_alike wsX6_alike) := goodIn_app (goodIn_of _ (by decide +kernel)) ggX6_singer_X6_alike
theorem dX6_singer_0 : decode cX6_singer 0 = .ok (.aload_n 0, 1) := by decide +kernel
theorem dX6_singer_1 : decode cX6_singer 1 = .ok (.iload_n 1, 1) := by decide +kernel
theorem dX6_singer_2 : decode cX6_singer 2 = .ok (.i2l, 1) := by decide +kernel
theorem dX6_singer_3 : decode cX6_singer 3 = .ok (.lconst 0, 1) := by decide +kernel
theorem dX6_singer_4 : decode cX6_singer 4 = .ok (.aload_n 0, 1) := by decide +kernel
theorem dX6_singer_5 : decode cX6_singer 5 = .ok (.getfield 13, 3) := by decide +kernel
theorem dX6_singer_8 : decode cX6_singer 8 = .ok (.iconst 2, 1) := by decide +kernel
theorem dX6_singer_9 : decode cX6_singer 9 = .ok (.iaload, 1) := by decide +kernel
theorem dX6_singer_10 : decode cX6_singer 10 = .ok (.iconst 1, 1) := by decide +kernel
theorem dX6_singer_11 : decode cX6_singer 11 = .ok (.isub, 1) := by decide +kernel
theorem dX6_singer_12 : decode cX6_singer 12 = .ok (.i2l, 1) := by decide +kernel
theorem dX6_singer_13 : decode cX6_singer 13 = .ok (.invokestatic 103, 3) := by decide +kernel
theorem dX6_singer_16 : decode cX6_singer 16 = .ok (.ifCond .ne 7, 3) := by decide +kernel
theorem dX6_singer_19 : decode cX6_singer 19 = .ok (.iconst 1, 1) := by decide +kernel
theorem dX6_singer_20 : decode cX6_singer 20 = .ok (.goto 20, 3) := by decide +kernel
theorem dX6_singer_23 : decode cX6_singer 23 = .ok (.iload_n 2, 1) := by decide +kernel
theorem dX6_singer_24 : decode cX6_singer 24 = .ok (.i2l, 1) := by decide +kernel
theorem dX6_singer_25 : decode cX6_singer 25 = .ok (.lconst 0, 1) := by decide +kernel
theorem dX6_singer_26 : decode cX6_singer 26 = .ok (.ldc2_w 139, 3) := by decide +kernel
theorem dX6_singer_29 : decode cX6_singer 29 = .ok (.invokestatic 103, 3) := by decide +kernel
theorem dX6_singer_32 : decode cX6_singer 32 = .ok (.ifCond .eq 7, 3) := by decide +kernel
theorem dX6_singer_35 : decode cX6_singer 35 = .ok (.iconst 0, 1) := by decide +kernel
theorem dX6_singer_36 : decode cX6_singer 36 = .ok (.goto 4, 3) := by decide +kernel
theorem dX6_singer_39 : decode cX6_singer 39 = .ok (.iconst 2, 1) := by decide +kernel
theorem dX6_singer_40 : decode cX6_singer 40 = .ok (.invokevirtual 110, 3) := by decide +kernel
theorem dX6_singer_43 : decode cX6_singer 43 = .ok (.ifCond .eq 5, 3) := by decide +kernel
theorem dX6_singer_46 : decode cX6_singer 46 = .ok (.iconst 0, 1) := by decide +kernel
theorem dX6_singer_47 : decode cX6_singer 47 = .ok (.ireturn, 1) := by decide +kernel
theorem dX6_singer_48 : decode cX6_singer 48 = .ok (.aload_n 0, 1) := by decide +kernel
theorem dX6_singer_49 : decode cX6_singer 49 = .ok (.getfield 13, 3) := by decide +kernel
theorem dX6_singer_52 : decode cX6_singer 52 = .ok (.iload_n 1, 1) := by decide +kernel
theorem dX6_singer_53 : decode cX6_singer 53 = .ok (.invokestatic 62, 3) := by decide +kernel
theorem dX6_singer_56 : decode cX6_singer 56 = .ok (.istore_n 3, 1) := by decide +kernel
theorem dX6_singer_57 : decode cX6_singer 57 = .ok (.aload_n 0, 1) := by decide +kernel
theorem dX6_singer_58 : decode cX6_singer 58 = .ok (.getfield 13, 3) := by decide +kernel
theorem dX6_singer_61 : decode cX6_singer 61 = .ok (.iload_n 1, 1) := by decide +kernel
theorem dX6_singer_62 : decode cX6_singer 62 = .ok (.iconst 1, 1) := by decide +kernel
theorem dX6_singer_63 : decode cX6_singer 63 = .ok (.iadd, 1) := by decide +kernel
theorem dX6_singer_64 : decode cX6_singer 64 = .ok (.invokestatic 62, 3) := by decide +kernel
theorem dX6_singer_67 : decode cX6_singer 67 = .ok (.iload_n 3, 1) := by decide +kernel
theorem dX6_singer_68 : decode cX6_singer 68 = .ok (.isub, 1) := by decide +kernel
theorem dX6_singer_69 : decode cX6_singer 69 = .ok (.istore 4, 2) := by decide +kernel
theorem dX6_singer_71 : decode cX6_singer 71 = .ok (.iload_n 2, 1) := by decide +kernel
theorem dX6_singer_72 : decode cX6_singer 72 = .ok (.iconst 2, 1) := by decide +kernel
theorem dX6_singer_73 : decode cX6_singer 73 = .ok (.if_icmp .ge 14, 3) := by decide +kernel
theorem dX6_singer_76 : decode cX6_singer 76 = .ok (.iload_n 2, 1) := by decide +kernel
theorem dX6_singer_77 : decode cX6_singer 77 = .ok (.ifCond .ne 7, 3) := by decide +kernel
theorem dX6_singer_80 : decode cX6_singer 80 = .ok (.iload_n 3, 1) := by decide +kernel
theorem dX6_singer_81 : decode cX6_singer 81 = .ok (.goto 5, 3) := by decide +kernel
theorem dX6_singer_84 : decode cX6_singer 84 = .ok (.iload 4, 2) := by decide +kernel
theorem dX6_singer_86 : decode cX6_singer 86 = .ok (.ireturn, 1) := by decide +kernel
theorem dX6_singer_87 : decode cX6_singer 87 = .ok (.aload_n 0, 1) := by decide +kernel
theorem dX6_singer_88 : decode cX6_singer 88 = .ok (.aload_n 0, 1) := by decide +kernel
theorem dX6_singer_89 : decode cX6_singer 89 = .ok (.getfield 13, 3) := by decide +kernel
theorem dX6_singer_92 : decode cX6_singer 92 = .ok (.invokevirtual 66, 3) := by decide +kernel
theorem dX6_singer_95 : decode cX6_singer 95 = .ok (.iload 4, 2) := by decide +kernel
theorem dX6_singer_97 : decode cX6_singer 97 = .ok (.ifCond .ne 7, 3) := by decide +kernel
theorem dX6_singer_100 : decode cX6_singer 100 = .ok (.iconst 0, 1) := by decide +kernel
theorem dX6_singer_101 : decode cX6_singer 101 = .ok (.goto 27, 3) := by decide +kernel
theorem dX6_singer_104 : decode cX6_singer 104 = .ok (.aload_n 0, 1) := by decide +kernel
theorem dX6_singer_105 : decode cX6_singer 105 = .ok (.getfield 13, 3) := by decide +kernel
theorem dX6_singer_108 : decode cX6_singer 108 = .ok (.aload_n 0, 1) := by decide +kernel
theorem dX6_singer_109 : decode cX6_singer 109 = .ok (.getfield 29, 3) := by decide +kernel
theorem dX6_singer_112 : decode cX6_singer 112 = .ok (.iload_n 3, 1) := by decide +kernel
theorem dX6_singer_113 : decode cX6_singer 113 = .ok (.iaload, 1) := by decide +kernel
theorem dX6_singer_114 : decode cX6_singer 114 = .ok (.aload_n 0, 1) := by decide +kernel
theorem dX6_singer_115 : decode cX6_singer 115 = .ok (.getfield 29, 3) := by decide +kernel
theorem dX6_singer_118 : decode cX6_singer 118 = .ok (.iload_n 3, 1) := by decide +kernel
theorem dX6_singer_119 : decode cX6_singer 119 = .ok (.iload 4, 2) := by decide +kernel
theorem dX6_singer_121 : decode cX6_singer 121 = .ok (.iadd, 1) := by decide +kernel
theorem dX6_singer_122 : decode cX6_singer 122 = .ok (.iconst 1, 1) := by decide +kernel
theorem dX6_singer_123 : decode cX6_singer 123 = .ok (.isub, 1) := by decide +kernel
theorem dX6_singer_124 : decode cX6_singer 124 = .ok (.iaload, 1) := by decide +kernel
theorem dX6_singer_125 : decode cX6_singer 125 = .ok (.invokestatic 54, 3) := by decide +kernel
theorem dX6_singer_128 : decode cX6_singer 128 = .ok (.ireturn, 1) := by decide +kernel
theorem dX6_sungAt_0 : decode cX6_sungAt 0 = .ok (.iconst 0, 1) := by decide +kernel
theorem dX6_sungAt_1 : decode cX6_sungAt 1 = .ok (.istore_n 2, 1) := by decide +kernel
theorem dX6_sungAt_2 : decode cX6_sungAt 2 = .ok (.iload_n 2, 1) := by decide +kernel
theorem dX6_sungAt_3 : decode cX6_sungAt 3 = .ok (.aload_n 0, 1) := by decide +kernel
theorem dX6_sungAt_4 : decode cX6_sungAt 4 = .ok (.getfield 107, 3) := by decide +kernel
theorem dX6_sungAt_7 : decode cX6_sungAt 7 = .ok (.if_icmp .ge 41, 3) := by decide +kernel
theorem dX6_sungAt_10 : decode cX6_sungAt 10 = .ok (.iload_n 1, 1) := by decide +kernel
theorem dX6_sungAt_11 : decode cX6_sungAt 11 = .ok (.iload_n 2, 1) := by decide +kernel
theorem dX6_sungAt_12 : decode cX6_sungAt 12 = .ok (.iadd, 1) := by decide +kernel
theorem dX6_sungAt_13 : decode cX6_sungAt 13 = .ok (.aload_n 0, 1) := by decide +kernel
theorem dX6_sungAt_14 : decode cX6_sungAt 14 = .ok (.getfield 13, 3) := by decide +kernel
theorem dX6_sungAt_17 : decode cX6_sungAt 17 = .ok (.iconst 0, 1) := by decide +kernel
theorem dX6_sungAt_18 : decode cX6_sungAt 18 = .ok (.iaload, 1) := by decide +kernel
theorem dX6_sungAt_19 : decode cX6_sungAt 19 = .ok (.if_icmp .ge 29, 3) := by decide +kernel
theorem dX6_sungAt_22 : decode cX6_sungAt 22 = .ok (.aload_n 0, 1) := by decide +kernel
theorem dX6_sungAt_23 : decode cX6_sungAt 23 = .ok (.getfield 13, 3) := by decide +kernel
theorem dX6_sungAt_26 : decode cX6_sungAt 26 = .ok (.bipush 66, 2) := by decide +kernel
theorem dX6_sungAt_28 : decode cX6_sungAt 28 = .ok (.iload_n 1, 1) := by decide +kernel
theorem dX6_sungAt_29 : decode cX6_sungAt 29 = .ok (.iadd, 1) := by decide +kernel
theorem dX6_sungAt_30 : decode cX6_sungAt 30 = .ok (.iload_n 2, 1) := by decide +kernel
theorem dX6_sungAt_31 : decode cX6_sungAt 31 = .ok (.iadd, 1) := by decide +kernel
theorem dX6_sungAt_32 : decode cX6_sungAt 32 = .ok (.iaload, 1) := by decide +kernel
theorem dX6_sungAt_33 : decode cX6_sungAt 33 = .ok (.aload_n 0, 1) := by decide +kernel
theorem dX6_sungAt_34 : decode cX6_sungAt 34 = .ok (.getfield 7, 3) := by decide +kernel
theorem dX6_sungAt_37 : decode cX6_sungAt 37 = .ok (.iload_n 2, 1) := by decide +kernel
theorem dX6_sungAt_38 : decode cX6_sungAt 38 = .ok (.iaload, 1) := by decide +kernel
theorem dX6_sungAt_39 : decode cX6_sungAt 39 = .ok (.if_icmp .ne 9, 3) := by decide +kernel
theorem dX6_sungAt_42 : decode cX6_sungAt 42 = .ok (.iinc 2 1, 3) := by decide +kernel
theorem dX6_sungAt_45 : decode cX6_sungAt 45 = .ok (.goto (-43), 3) := by decide +kernel
theorem dX6_sungAt_48 : decode cX6_sungAt 48 = .ok (.iload_n 2, 1) := by decide +kernel
theorem dX6_sungAt_49 : decode cX6_sungAt 49 = .ok (.ireturn, 1) := by decide +kernel
set_option maxRecDepth 20000 in
theorem ggX6_count_X6_fault : GoodIn wsX6_count wsX6_fault := goodIn_r _ [7, 2, 8, 9, 10, 11, 12, 6, 13, 23, 24, 25, 26, 27, 28, 29, 30, 31, 32, 33, 34, 35, 36] (by decide +kernel) (by decide +kernel)
set_option maxRecDepth 20000 in
theorem gX6_count_X6_fault : GoodIn wsX6_count (wsV RX6 118 RX6 yX6_fault wsX6_fault) := goodIn_app (goodIn_of _ (by decide +kernel)) ggX6_count_X6_fault
set_option maxRecDepth 20000 in
theorem ggX6_count_X6_refused : GoodIn wsX6_count wsX6_refused := goodIn_r _ [17, 18, 23, 24, 25, 26, 27, 28, 29, 30, 31, 32, 33, 34, 35, 36] (by decide +kernel) (by decide +kernel)
set_option maxRecDepth 20000 in
theorem gX6_count_X6_refused : GoodIn wsX6_count (wsV RX6 110 RX6 yX6_refused wsX6_refused) := goodIn_app (goodIn_of _ (by decide +kernel)) ggX6_count_X6_refused
set_option maxRecDepth 20000 in
theorem ggX6_count_X6_sungAt : GoodIn wsX6_count wsX6_sungAt := goodIn_r _ [22, 2, 1, 8, 23, 24, 25, 26, 27, 28, 29, 30, 31, 32, 33, 34, 35, 36] (by decide +kernel) (by decide +kernel)
set_option maxRecDepth 20000 in
theorem gX6_count_X6_sungAt : GoodIn wsX6_count (wsV RX6 144 RX6 yX6_sungAt wsX6_sungAt) := goodIn_app (goodIn_of _ (by decide +kernel)) ggX6_count_X6_sungAt
theorem dX6_count_0 : decode cX6_count 0 = .ok (.aload_n 0, 1) := by decide +kernel
theorem dX6_count_1 : decode cX6_count 1 = .ok (.aload_n 0, 1) := by decide +kernel
theorem dX6_count_2 : decode cX6_count 2 = .ok (.invokevirtual 118, 3) := by decide +kernel
theorem dX6_count_5 : decode cX6_count 5 = .ok (.iconst (-1), 1) := by decide +kernel
theorem dX6_count_6 : decode cX6_count 6 = .ok (.if_icmp .ne 7, 3) := by decide +kernel
theorem dX6_count_9 : decode cX6_count 9 = .ok (.iconst 0, 1) := by decide +kernel
theorem dX6_count_10 : decode cX6_count 10 = .ok (.goto 4, 3) := by decide +kernel
theorem dX6_count_13 : decode cX6_count 13 = .ok (.iconst 1, 1) := by decide +kernel
theorem dX6_count_14 : decode cX6_count 14 = .ok (.invokevirtual 110, 3) := by decide +kernel
theorem dX6_count_17 : decode cX6_count 17 = .ok (.ifCond .eq 5, 3) := by decide +kernel
theorem dX6_count_20 : decode cX6_count 20 = .ok (.iconst 0, 1) := by decide +kernel
theorem dX6_count_21 : decode cX6_count 21 = .ok (.ireturn, 1) := by decide +kernel
theorem dX6_count_22 : decode cX6_count 22 = .ok (.iconst 0, 1) := by decide +kernel
theorem dX6_count_23 : decode cX6_count 23 = .ok (.istore_n 1, 1) := by decide +kernel
theorem dX6_count_24 : decode cX6_count 24 = .ok (.iconst 0, 1) := by decide +kernel
theorem dX6_count_25 : decode cX6_count 25 = .ok (.istore_n 2, 1) := by decide +kernel
theorem dX6_count_26 : decode cX6_count 26 = .ok (.iload_n 2, 1) := by decide +kernel
theorem dX6_count_27 : decode cX6_count 27 = .ok (.aload_n 0, 1) := by decide +kernel
theorem dX6_count_28 : decode cX6_count 28 = .ok (.getfield 13, 3) := by decide +kernel
theorem dX6_count_31 : decode cX6_count 31 = .ok (.iconst 0, 1) := by decide +kernel
theorem dX6_count_32 : decode cX6_count 32 = .ok (.iaload, 1) := by decide +kernel
theorem dX6_count_33 : decode cX6_count 33 = .ok (.if_icmp .ge 29, 3) := by decide +kernel
theorem dX6_count_36 : decode cX6_count 36 = .ok (.iload_n 1, 1) := by decide +kernel
theorem dX6_count_37 : decode cX6_count 37 = .ok (.aload_n 0, 1) := by decide +kernel
theorem dX6_count_38 : decode cX6_count 38 = .ok (.iload_n 2, 1) := by decide +kernel
theorem dX6_count_39 : decode cX6_count 39 = .ok (.invokevirtual 144, 3) := by decide +kernel
theorem dX6_count_42 : decode cX6_count 42 = .ok (.aload_n 0, 1) := by decide +kernel
theorem dX6_count_43 : decode cX6_count 43 = .ok (.getfield 107, 3) := by decide +kernel
theorem dX6_count_46 : decode cX6_count 46 = .ok (.if_icmp .ne 7, 3) := by decide +kernel
theorem dX6_count_49 : decode cX6_count 49 = .ok (.iconst 1, 1) := by decide +kernel
theorem dX6_count_50 : decode cX6_count 50 = .ok (.goto 4, 3) := by decide +kernel
theorem dX6_count_53 : decode cX6_count 53 = .ok (.iconst 0, 1) := by decide +kernel
theorem dX6_count_54 : decode cX6_count 54 = .ok (.iadd, 1) := by decide +kernel
theorem dX6_count_55 : decode cX6_count 55 = .ok (.istore_n 1, 1) := by decide +kernel
theorem dX6_count_56 : decode cX6_count 56 = .ok (.iinc 2 1, 3) := by decide +kernel
theorem dX6_count_59 : decode cX6_count 59 = .ok (.goto (-33), 3) := by decide +kernel
theorem dX6_count_62 : decode cX6_count 62 = .ok (.iload_n 1, 1) := by decide +kernel
theorem dX6_count_63 : decode cX6_count 63 = .ok (.ireturn, 1) := by decide +kernel
set_option maxRecDepth 20000 in
theorem ggX6_placeOf_X6_fault : GoodIn wsX6_placeOf wsX6_fault := goodIn_r _ [7, 2, 8, 9, 10, 11, 12, 6, 13, 23, 24, 25, 26, 27, 28, 29, 30, 31, 32, 33, 34, 35, 36] (by decide +kernel) (by decide +kernel)
set_option maxRecDepth 20000 in
theorem gX6_placeOf_X6_fault : GoodIn wsX6_placeOf (wsV RX6 118 RX6 yX6_fault wsX6_fault) := goodIn_app (goodIn_of _ (by decide +kernel)) ggX6_placeOf_X6_fault
set_option maxRecDepth 20000 in
theorem ggX6_placeOf_X6_refused : GoodIn wsX6_placeOf wsX6_refused := goodIn_r _ [17, 18, 23, 24, 25, 26, 27, 28, 29, 30, 31, 32, 33, 34, 35, 36] (by decide +kernel) (by decide +kernel)
set_option maxRecDepth 20000 in
theorem gX6_placeOf_X6_refused : GoodIn wsX6_placeOf (wsV RX6 110 RX6 yX6_refused wsX6_refused) := goodIn_app (goodIn_of _ (by decide +kernel)) ggX6_placeOf_X6_refused
set_option maxRecDepth 20000 in
theorem ggX6_placeOf_X6_sungAt : GoodIn wsX6_placeOf wsX6_sungAt := goodIn_r _ [22, 2, 1, 8, 23, 24, 25, 26, 27, 28, 29, 30, 31, 32, 33, 34, 35, 36] (by decide +kernel) (by decide +kernel)
set_option maxRecDepth 20000 in
theorem gX6_placeOf_X6_sungAt : GoodIn wsX6_placeOf (wsV RX6 144 RX6 yX6_sungAt wsX6_sungAt) := goodIn_app (goodIn_of _ (by decide +kernel)) ggX6_placeOf_X6_sungAt
theorem dX6_placeOf_0 : decode cX6_placeOf 0 = .ok (.aload_n 0, 1) := by decide +kernel
theorem dX6_placeOf_1 : decode cX6_placeOf 1 = .ok (.iload_n 1, 1) := by decide +kernel
theorem dX6_placeOf_2 : decode cX6_placeOf 2 = .ok (.ifCond .ge 7, 3) := by decide +kernel
theorem dX6_placeOf_5 : decode cX6_placeOf 5 = .ok (.iconst 1, 1) := by decide +kernel
theorem dX6_placeOf_6 : decode cX6_placeOf 6 = .ok (.goto 16, 3) := by decide +kernel
theorem dX6_placeOf_9 : decode cX6_placeOf 9 = .ok (.aload_n 0, 1) := by decide +kernel
theorem dX6_placeOf_10 : decode cX6_placeOf 10 = .ok (.invokevirtual 118, 3) := by decide +kernel
theorem dX6_placeOf_13 : decode cX6_placeOf 13 = .ok (.iconst (-1), 1) := by decide +kernel
theorem dX6_placeOf_14 : decode cX6_placeOf 14 = .ok (.if_icmp .ne 7, 3) := by decide +kernel
theorem dX6_placeOf_17 : decode cX6_placeOf 17 = .ok (.iconst 0, 1) := by decide +kernel
theorem dX6_placeOf_18 : decode cX6_placeOf 18 = .ok (.goto 4, 3) := by decide +kernel
theorem dX6_placeOf_21 : decode cX6_placeOf 21 = .ok (.iconst 2, 1) := by decide +kernel
theorem dX6_placeOf_22 : decode cX6_placeOf 22 = .ok (.invokevirtual 110, 3) := by decide +kernel
theorem dX6_placeOf_25 : decode cX6_placeOf 25 = .ok (.ifCond .eq 5, 3) := by decide +kernel
theorem dX6_placeOf_28 : decode cX6_placeOf 28 = .ok (.iconst 0, 1) := by decide +kernel
theorem dX6_placeOf_29 : decode cX6_placeOf 29 = .ok (.ireturn, 1) := by decide +kernel
theorem dX6_placeOf_30 : decode cX6_placeOf 30 = .ok (.iload_n 1, 1) := by decide +kernel
theorem dX6_placeOf_31 : decode cX6_placeOf 31 = .ok (.istore_n 2, 1) := by decide +kernel
theorem dX6_placeOf_32 : decode cX6_placeOf 32 = .ok (.iconst 0, 1) := by decide +kernel
theorem dX6_placeOf_33 : decode cX6_placeOf 33 = .ok (.istore_n 3, 1) := by decide +kernel
theorem dX6_placeOf_34 : decode cX6_placeOf 34 = .ok (.iload_n 3, 1) := by decide +kernel
theorem dX6_placeOf_35 : decode cX6_placeOf 35 = .ok (.aload_n 0, 1) := by decide +kernel
theorem dX6_placeOf_36 : decode cX6_placeOf 36 = .ok (.getfield 13, 3) := by decide +kernel
theorem dX6_placeOf_39 : decode cX6_placeOf 39 = .ok (.iconst 0, 1) := by decide +kernel
theorem dX6_placeOf_40 : decode cX6_placeOf 40 = .ok (.iaload, 1) := by decide +kernel
theorem dX6_placeOf_41 : decode cX6_placeOf 41 = .ok (.if_icmp .ge 30, 3) := by decide +kernel
theorem dX6_placeOf_44 : decode cX6_placeOf 44 = .ok (.aload_n 0, 1) := by decide +kernel
theorem dX6_placeOf_45 : decode cX6_placeOf 45 = .ok (.iload_n 3, 1) := by decide +kernel
theorem dX6_placeOf_46 : decode cX6_placeOf 46 = .ok (.invokevirtual 144, 3) := by decide +kernel
theorem dX6_placeOf_49 : decode cX6_placeOf 49 = .ok (.aload_n 0, 1) := by decide +kernel
theorem dX6_placeOf_50 : decode cX6_placeOf 50 = .ok (.getfield 107, 3) := by decide +kernel
theorem dX6_placeOf_53 : decode cX6_placeOf 53 = .ok (.if_icmp .ne 12, 3) := by decide +kernel
theorem dX6_placeOf_56 : decode cX6_placeOf 56 = .ok (.iload_n 2, 1) := by decide +kernel
theorem dX6_placeOf_57 : decode cX6_placeOf 57 = .ok (.ifCond .ne 5, 3) := by decide +kernel
theorem dX6_placeOf_60 : decode cX6_placeOf 60 = .ok (.iload_n 3, 1) := by decide +kernel
theorem dX6_placeOf_61 : decode cX6_placeOf 61 = .ok (.ireturn, 1) := by decide +kernel
theorem dX6_placeOf_62 : decode cX6_placeOf 62 = .ok (.iinc 2 (-1), 3) := by decide +kernel
theorem dX6_placeOf_65 : decode cX6_placeOf 65 = .ok (.iinc 3 1, 3) := by decide +kernel
theorem dX6_placeOf_68 : decode cX6_placeOf 68 = .ok (.goto (-34), 3) := by decide +kernel
theorem dX6_placeOf_71 : decode cX6_placeOf 71 = .ok (.iconst (-1), 1) := by decide +kernel
theorem dX6_placeOf_72 : decode cX6_placeOf 72 = .ok (.ireturn, 1) := by decide +kernel
set_option maxRecDepth 20000 in
theorem ggX6_known_X6_fault : GoodIn wsX6_known wsX6_fault := goodIn_r _ [6, 7, 8, 9, 10, 11, 12, 5, 13, 23, 24, 25, 26, 27, 28, 29, 30, 31, 32, 33, 34, 35, 36] (by decide +kernel) (by decide +kernel)
set_option maxRecDepth 20000 in
theorem gX6_known_X6_fault : GoodIn wsX6_known (wsV RX6 118 RX6 yX6_fault wsX6_fault) := goodIn_app (goodIn_of _ (by decide +kernel)) ggX6_known_X6_fault
set_option maxRecDepth 20000 in
theorem ggX6_known_X6_refused : GoodIn wsX6_known wsX6_refused := goodIn_r _ [17, 18, 23, 24, 25, 26, 27, 28, 29, 30, 31, 32, 33, 34, 35, 36] (by decide +kernel) (by decide +kernel)
set_option maxRecDepth 20000 in
theorem gX6_known_X6_refused : GoodIn wsX6_known (wsV RX6 110 RX6 yX6_refused wsX6_refused) := goodIn_app (goodIn_of _ (by decide +kernel)) ggX6_known_X6_refused
set_option maxRecDepth 20000 in
theorem ggX6_known_X6_sungAt : GoodIn wsX6_known wsX6_sungAt := goodIn_r _ [22, 7, 1, 8, 23, 24, 25, 26, 27, 28, 29, 30, 31, 32, 33, 34, 35, 36] (by decide +kernel) (by decide +kernel)
set_option maxRecDepth 20000 in
theorem gX6_known_X6_sungAt : GoodIn wsX6_known (wsV RX6 144 RX6 yX6_sungAt wsX6_sungAt) := goodIn_app (goodIn_of _ (by decide +kernel)) ggX6_known_X6_sungAt
theorem dX6_known_0 : decode cX6_known 0 = .ok (.aload_n 0, 1) := by decide +kernel
theorem dX6_known_1 : decode cX6_known 1 = .ok (.aload_n 0, 1) := by decide +kernel
theorem dX6_known_2 : decode cX6_known 2 = .ok (.invokevirtual 118, 3) := by decide +kernel
theorem dX6_known_5 : decode cX6_known 5 = .ok (.iconst (-1), 1) := by decide +kernel
theorem dX6_known_6 : decode cX6_known 6 = .ok (.if_icmp .ne 7, 3) := by decide +kernel
theorem dX6_known_9 : decode cX6_known 9 = .ok (.iconst 0, 1) := by decide +kernel
theorem dX6_known_10 : decode cX6_known 10 = .ok (.goto 4, 3) := by decide +kernel
theorem dX6_known_13 : decode cX6_known 13 = .ok (.iconst 1, 1) := by decide +kernel
theorem dX6_known_14 : decode cX6_known 14 = .ok (.invokevirtual 110, 3) := by decide +kernel
theorem dX6_known_17 : decode cX6_known 17 = .ok (.ifCond .eq 5, 3) := by decide +kernel
theorem dX6_known_20 : decode cX6_known 20 = .ok (.iconst 0, 1) := by decide +kernel
theorem dX6_known_21 : decode cX6_known 21 = .ok (.ireturn, 1) := by decide +kernel
theorem dX6_known_22 : decode cX6_known 22 = .ok (.iconst 0, 1) := by decide +kernel
theorem dX6_known_23 : decode cX6_known 23 = .ok (.istore_n 1, 1) := by decide +kernel
theorem dX6_known_24 : decode cX6_known 24 = .ok (.iconst 0, 1) := by decide +kernel
theorem dX6_known_25 : decode cX6_known 25 = .ok (.istore_n 2, 1) := by decide +kernel
theorem dX6_known_26 : decode cX6_known 26 = .ok (.iload_n 2, 1) := by decide +kernel
theorem dX6_known_27 : decode cX6_known 27 = .ok (.aload_n 0, 1) := by decide +kernel
theorem dX6_known_28 : decode cX6_known 28 = .ok (.getfield 13, 3) := by decide +kernel
theorem dX6_known_31 : decode cX6_known 31 = .ok (.iconst 0, 1) := by decide +kernel
theorem dX6_known_32 : decode cX6_known 32 = .ok (.iaload, 1) := by decide +kernel
theorem dX6_known_33 : decode cX6_known 33 = .ok (.if_icmp .ge 28, 3) := by decide +kernel
theorem dX6_known_36 : decode cX6_known 36 = .ok (.aload_n 0, 1) := by decide +kernel
theorem dX6_known_37 : decode cX6_known 37 = .ok (.iload_n 2, 1) := by decide +kernel
theorem dX6_known_38 : decode cX6_known 38 = .ok (.invokevirtual 144, 3) := by decide +kernel
theorem dX6_known_41 : decode cX6_known 41 = .ok (.iload_n 1, 1) := by decide +kernel
theorem dX6_known_42 : decode cX6_known 42 = .ok (.if_icmp .le 11, 3) := by decide +kernel
theorem dX6_known_45 : decode cX6_known 45 = .ok (.aload_n 0, 1) := by decide +kernel
theorem dX6_known_46 : decode cX6_known 46 = .ok (.iload_n 2, 1) := by decide +kernel
theorem dX6_known_47 : decode cX6_known 47 = .ok (.invokevirtual 144, 3) := by decide +kernel
theorem dX6_known_50 : decode cX6_known 50 = .ok (.goto 4, 3) := by decide +kernel
theorem dX6_known_53 : decode cX6_known 53 = .ok (.iload_n 1, 1) := by decide +kernel
theorem dX6_known_54 : decode cX6_known 54 = .ok (.istore_n 1, 1) := by decide +kernel
theorem dX6_known_55 : decode cX6_known 55 = .ok (.iinc 2 1, 3) := by decide +kernel
theorem dX6_known_58 : decode cX6_known 58 = .ok (.goto (-32), 3) := by decide +kernel
theorem dX6_known_61 : decode cX6_known 61 = .ok (.iload_n 1, 1) := by decide +kernel
theorem dX6_known_62 : decode cX6_known 62 = .ok (.ireturn, 1) := by decide +kernel
set_option maxRecDepth 20000 in
theorem ggX6_common_X6_isVerse : GoodIn wsX6_common wsX6_isVerse := goodIn_r _ [6, 1, 7, 8, 5, 9, 21, 22, 23, 24, 25, 26, 27, 28, 29, 30, 31, 32, 33, 34] (by decide +kernel) (by decide +kernel)
set_option maxRecDepth 20000 in
theorem gX6_common_X6_isVerse : GoodIn wsX6_common (wsV RX6 136 RX6 yX6_isVerse wsX6_isVerse) := goodIn_app (goodIn_of _ (by decide +kernel)) ggX6_common_X6_isVerse
set_option maxRecDepth 20000 in
theorem ggX6_common_X6_refused : GoodIn wsX6_common wsX6_refused := goodIn_r _ [13, 14, 21, 22, 23, 24, 25, 26, 27, 28, 29, 30, 31, 32, 33, 34] (by decide +kernel) (by decide +kernel)
set_option maxRecDepth 20000 in
theorem gX6_common_X6_refused : GoodIn wsX6_common (wsV RX6 110 RX6 yX6_refused wsX6_refused) := goodIn_app (goodIn_of _ (by decide +kernel)) ggX6_common_X6_refused
set_option maxRecDepth 20000 in
theorem ggX6_common_X6_beginOf : GoodIn wsX6_common wsX6_beginOf := goodIn_r _ [17] (by decide +kernel) (by decide +kernel)
set_option maxRecDepth 20000 in
theorem gX6_common_X6_beginOf : GoodIn wsX6_common (va_wsS RX6 85 yX6_beginOf wsX6_beginOf) := goodIn_app (goodIn_of _ (by decide +kernel)) ggX6_common_X6_beginOf
set_option maxRecDepth 20000 in
theorem ggX6_common_X6_alike : GoodIn wsX6_common wsX6_alike := goodIn_r _ [20] (by decide +kernel) (by decide +kernel)
set_option maxRecDepth 20000 in
theorem gX6_common_X6_alike : GoodIn wsX6_common (va_wsS RX6 54 yX6_alike wsX6_alike) := goodIn_app (goodIn_of _ (by decide +kernel)) ggX6_common_X6_alike
theorem dX6_common_0 : decode cX6_common 0 = .ok (.aload_n 0, 1) := by decide +kernel
theorem dX6_common_1 : decode cX6_common 1 = .ok (.aload_n 0, 1) := by decide +kernel
theorem dX6_common_2 : decode cX6_common 2 = .ok (.iload_n 1, 1) := by decide +kernel
theorem dX6_common_3 : decode cX6_common 3 = .ok (.invokevirtual 136, 3) := by decide +kernel
theorem dX6_common_6 : decode cX6_common 6 = .ok (.ifCond .eq 15, 3) := by decide +kernel
theorem dX6_common_9 : decode cX6_common 9 = .ok (.aload_n 0, 1) := by decide +kernel
theorem dX6_common_10 : decode cX6_common 10 = .ok (.iload_n 2, 1) := by decide +kernel
theorem dX6_common_11 : decode cX6_common 11 = .ok (.invokevirtual 136, 3) := by decide +kernel
theorem dX6_common_14 : decode cX6_common 14 = .ok (.ifCond .eq 7, 3) := by decide +kernel
theorem dX6_common_17 : decode cX6_common 17 = .ok (.iconst 0, 1) := by decide +kernel
theorem dX6_common_18 : decode cX6_common 18 = .ok (.goto 4, 3) := by decide +kernel
theorem dX6_common_21 : decode cX6_common 21 = .ok (.iconst 1, 1) := by decide +kernel
theorem dX6_common_22 : decode cX6_common 22 = .ok (.invokevirtual 110, 3) := by decide +kernel
theorem dX6_common_25 : decode cX6_common 25 = .ok (.ifCond .eq 5, 3) := by decide +kernel
theorem dX6_common_28 : decode cX6_common 28 = .ok (.iconst 0, 1) := by decide +kernel
theorem dX6_common_29 : decode cX6_common 29 = .ok (.ireturn, 1) := by decide +kernel
theorem dX6_common_30 : decode cX6_common 30 = .ok (.aload_n 0, 1) := by decide +kernel
theorem dX6_common_31 : decode cX6_common 31 = .ok (.getfield 13, 3) := by decide +kernel
theorem dX6_common_34 : decode cX6_common 34 = .ok (.iload_n 1, 1) := by decide +kernel
theorem dX6_common_35 : decode cX6_common 35 = .ok (.invokestatic 85, 3) := by decide +kernel
theorem dX6_common_38 : decode cX6_common 38 = .ok (.istore_n 3, 1) := by decide +kernel
theorem dX6_common_39 : decode cX6_common 39 = .ok (.aload_n 0, 1) := by decide +kernel
theorem dX6_common_40 : decode cX6_common 40 = .ok (.getfield 13, 3) := by decide +kernel
theorem dX6_common_43 : decode cX6_common 43 = .ok (.iload_n 2, 1) := by decide +kernel
theorem dX6_common_44 : decode cX6_common 44 = .ok (.invokestatic 85, 3) := by decide +kernel
theorem dX6_common_47 : decode cX6_common 47 = .ok (.istore 4, 2) := by decide +kernel
theorem dX6_common_49 : decode cX6_common 49 = .ok (.iconst 0, 1) := by decide +kernel
theorem dX6_common_50 : decode cX6_common 50 = .ok (.istore 5, 2) := by decide +kernel
theorem dX6_common_52 : decode cX6_common 52 = .ok (.iconst 0, 1) := by decide +kernel
theorem dX6_common_53 : decode cX6_common 53 = .ok (.istore 6, 2) := by decide +kernel
theorem dX6_common_55 : decode cX6_common 55 = .ok (.iload 6, 2) := by decide +kernel
theorem dX6_common_57 : decode cX6_common 57 = .ok (.aload_n 0, 1) := by decide +kernel
theorem dX6_common_58 : decode cX6_common 58 = .ok (.getfield 13, 3) := by decide +kernel
theorem dX6_common_61 : decode cX6_common 61 = .ok (.bipush 6, 2) := by decide +kernel
theorem dX6_common_63 : decode cX6_common 63 = .ok (.iload_n 1, 1) := by decide +kernel
theorem dX6_common_64 : decode cX6_common 64 = .ok (.iadd, 1) := by decide +kernel
theorem dX6_common_65 : decode cX6_common 65 = .ok (.iaload, 1) := by decide +kernel
theorem dX6_common_66 : decode cX6_common 66 = .ok (.if_icmp .ge 138, 3) := by decide +kernel
theorem dX6_common_69 : decode cX6_common 69 = .ok (.iconst 0, 1) := by decide +kernel
theorem dX6_common_70 : decode cX6_common 70 = .ok (.istore 7, 2) := by decide +kernel
theorem dX6_common_72 : decode cX6_common 72 = .ok (.iload 7, 2) := by decide +kernel
theorem dX6_common_74 : decode cX6_common 74 = .ok (.aload_n 0, 1) := by decide +kernel
theorem dX6_common_75 : decode cX6_common 75 = .ok (.getfield 13, 3) := by decide +kernel
theorem dX6_common_78 : decode cX6_common 78 = .ok (.bipush 6, 2) := by decide +kernel
theorem dX6_common_80 : decode cX6_common 80 = .ok (.iload_n 2, 1) := by decide +kernel
theorem dX6_common_81 : decode cX6_common 81 = .ok (.iadd, 1) := by decide +kernel
theorem dX6_common_82 : decode cX6_common 82 = .ok (.iaload, 1) := by decide +kernel
theorem dX6_common_83 : decode cX6_common 83 = .ok (.if_icmp .ge 115, 3) := by decide +kernel
theorem dX6_common_86 : decode cX6_common 86 = .ok (.aload_n 0, 1) := by decide +kernel
theorem dX6_common_87 : decode cX6_common 87 = .ok (.getfield 13, 3) := by decide +kernel
theorem dX6_common_90 : decode cX6_common 90 = .ok (.iload_n 3, 1) := by decide +kernel
theorem dX6_common_91 : decode cX6_common 91 = .ok (.iload 6, 2) := by decide +kernel
theorem dX6_common_93 : decode cX6_common 93 = .ok (.iadd, 1) := by decide +kernel
theorem dX6_common_94 : decode cX6_common 94 = .ok (.iload 4, 2) := by decide +kernel
theorem dX6_common_96 : decode cX6_common 96 = .ok (.iload 7, 2) := by decide +kernel
theorem dX6_common_98 : decode cX6_common 98 = .ok (.iadd, 1) := by decide +kernel
theorem dX6_common_99 : decode cX6_common 99 = .ok (.invokestatic 54, 3) := by decide +kernel
theorem dX6_common_102 : decode cX6_common 102 = .ok (.istore 8, 2) := by decide +kernel
theorem dX6_common_104 : decode cX6_common 104 = .ok (.aload_n 0, 1) := by decide +kernel
theorem dX6_common_105 : decode cX6_common 105 = .ok (.getfield 13, 3) := by decide +kernel
theorem dX6_common_108 : decode cX6_common 108 = .ok (.bipush 6, 2) := by decide +kernel
theorem dX6_common_110 : decode cX6_common 110 = .ok (.iload_n 1, 1) := by decide +kernel
theorem dX6_common_111 : decode cX6_common 111 = .ok (.iadd, 1) := by decide +kernel
theorem dX6_common_112 : decode cX6_common 112 = .ok (.iaload, 1) := by decide +kernel
theorem dX6_common_113 : decode cX6_common 113 = .ok (.iload 6, 2) := by decide +kernel
theorem dX6_common_115 : decode cX6_common 115 = .ok (.isub, 1) := by decide +kernel
theorem dX6_common_116 : decode cX6_common 116 = .ok (.aload_n 0, 1) := by decide +kernel
theorem dX6_common_117 : decode cX6_common 117 = .ok (.getfield 13, 3) := by decide +kernel
theorem dX6_common_120 : decode cX6_common 120 = .ok (.bipush 6, 2) := by decide +kernel
theorem dX6_common_122 : decode cX6_common 122 = .ok (.iload_n 2, 1) := by decide +kernel
theorem dX6_common_123 : decode cX6_common 123 = .ok (.iadd, 1) := by decide +kernel
theorem dX6_common_124 : decode cX6_common 124 = .ok (.iaload, 1) := by decide +kernel
theorem dX6_common_125 : decode cX6_common 125 = .ok (.iload 7, 2) := by decide +kernel
theorem dX6_common_127 : decode cX6_common 127 = .ok (.isub, 1) := by decide +kernel
theorem dX6_common_128 : decode cX6_common 128 = .ok (.if_icmp .ge 18, 3) := by decide +kernel
theorem dX6_common_131 : decode cX6_common 131 = .ok (.aload_n 0, 1) := by decide +kernel
theorem dX6_common_132 : decode cX6_common 132 = .ok (.getfield 13, 3) := by decide +kernel
theorem dX6_common_135 : decode cX6_common 135 = .ok (.bipush 6, 2) := by decide +kernel
theorem dX6_common_137 : decode cX6_common 137 = .ok (.iload_n 1, 1) := by decide +kernel
theorem dX6_common_138 : decode cX6_common 138 = .ok (.iadd, 1) := by decide +kernel
theorem dX6_common_139 : decode cX6_common 139 = .ok (.iaload, 1) := by decide +kernel
theorem dX6_common_140 : decode cX6_common 140 = .ok (.iload 6, 2) := by decide +kernel
theorem dX6_common_142 : decode cX6_common 142 = .ok (.isub, 1) := by decide +kernel
theorem dX6_common_143 : decode cX6_common 143 = .ok (.goto 15, 3) := by decide +kernel
theorem dX6_common_146 : decode cX6_common 146 = .ok (.aload_n 0, 1) := by decide +kernel
theorem dX6_common_147 : decode cX6_common 147 = .ok (.getfield 13, 3) := by decide +kernel
theorem dX6_common_150 : decode cX6_common 150 = .ok (.bipush 6, 2) := by decide +kernel
theorem dX6_common_152 : decode cX6_common 152 = .ok (.iload_n 2, 1) := by decide +kernel
theorem dX6_common_153 : decode cX6_common 153 = .ok (.iadd, 1) := by decide +kernel
theorem dX6_common_154 : decode cX6_common 154 = .ok (.iaload, 1) := by decide +kernel
theorem dX6_common_155 : decode cX6_common 155 = .ok (.iload 7, 2) := by decide +kernel
theorem dX6_common_157 : decode cX6_common 157 = .ok (.isub, 1) := by decide +kernel
theorem dX6_common_158 : decode cX6_common 158 = .ok (.istore 9, 2) := by decide +kernel
theorem dX6_common_160 : decode cX6_common 160 = .ok (.iload 8, 2) := by decide +kernel
theorem dX6_common_162 : decode cX6_common 162 = .ok (.iload 9, 2) := by decide +kernel
theorem dX6_common_164 : decode cX6_common 164 = .ok (.if_icmp .ge 8, 3) := by decide +kernel
theorem dX6_common_167 : decode cX6_common 167 = .ok (.iload 8, 2) := by decide +kernel
theorem dX6_common_169 : decode cX6_common 169 = .ok (.goto 5, 3) := by decide +kernel
theorem dX6_common_172 : decode cX6_common 172 = .ok (.iload 9, 2) := by decide +kernel
theorem dX6_common_174 : decode cX6_common 174 = .ok (.istore 8, 2) := by decide +kernel
theorem dX6_common_176 : decode cX6_common 176 = .ok (.iload 8, 2) := by decide +kernel
theorem dX6_common_178 : decode cX6_common 178 = .ok (.iload 5, 2) := by decide +kernel
theorem dX6_common_180 : decode cX6_common 180 = .ok (.if_icmp .le 8, 3) := by decide +kernel
theorem dX6_common_183 : decode cX6_common 183 = .ok (.iload 8, 2) := by decide +kernel
theorem dX6_common_185 : decode cX6_common 185 = .ok (.goto 5, 3) := by decide +kernel
theorem dX6_common_188 : decode cX6_common 188 = .ok (.iload 5, 2) := by decide +kernel
theorem dX6_common_190 : decode cX6_common 190 = .ok (.istore 5, 2) := by decide +kernel
theorem dX6_common_192 : decode cX6_common 192 = .ok (.iinc 7 1, 3) := by decide +kernel
theorem dX6_common_195 : decode cX6_common 195 = .ok (.goto (-123), 3) := by decide +kernel
theorem dX6_common_198 : decode cX6_common 198 = .ok (.iinc 6 1, 3) := by decide +kernel
theorem dX6_common_201 : decode cX6_common 201 = .ok (.goto (-146), 3) := by decide +kernel
theorem dX6_common_204 : decode cX6_common 204 = .ok (.iload 5, 2) := by decide +kernel
theorem dX6_common_206 : decode cX6_common 206 = .ok (.ireturn, 1) := by decide +kernel
set_option maxRecDepth 20000 in
theorem ggX6_most_X6_in : GoodIn wsX6_most wsX6_in := goodIn_r _ [6] (by decide +kernel) (by decide +kernel)
set_option maxRecDepth 20000 in
theorem gX6_most_X6_in : GoodIn wsX6_most (va_wsS RX6 103 yX6_in wsX6_in) := goodIn_app (goodIn_of _ (by decide +kernel)) ggX6_most_X6_in
set_option maxRecDepth 20000 in
theorem ggX6_most_X6_refused : GoodIn wsX6_most wsX6_refused := goodIn_r _ [10, 11, 24, 25, 26, 27, 28, 29, 30, 31, 32, 33, 34, 35, 36, 37] (by decide +kernel) (by decide +kernel)
set_option maxRecDepth 20000 in
theorem gX6_most_X6_refused : GoodIn wsX6_most (wsV RX6 110 RX6 yX6_refused wsX6_refused) := goodIn_app (goodIn_of _ (by decide +kernel)) ggX6_most_X6_refused
set_option maxRecDepth 20000 in
theorem ggX6_most_X6_mostTimes : GoodIn wsX6_most wsX6_mostTimes := goodIn_r _ [14, 15, 16, 5, 17, 18, 19, 20] (by decide +kernel) (by decide +kernel)
set_option maxRecDepth 20000 in
theorem gX6_most_X6_mostTimes : GoodIn wsX6_most (va_wsS RX6 149 yX6_mostTimes wsX6_mostTimes) := goodIn_app (goodIn_of _ (by decide +kernel)) ggX6_most_X6_mostTimes
set_option maxRecDepth 20000 in
theorem ggX6_most_X6_times : GoodIn wsX6_most wsX6_times := goodIn_r _ [17, 18, 19, 5, 20] (by decide +kernel) (by decide +kernel)
set_option maxRecDepth 20000 in
theorem gX6_most_X6_times : GoodIn wsX6_most (va_wsS RX6 98 yX6_times wsX6_times) := goodIn_app (goodIn_of _ (by decide +kernel)) ggX6_most_X6_times
set_option maxRecDepth 20000 in
theorem ggX6_most_X6_alike : GoodIn wsX6_most wsX6_alike := goodIn_r _ [20] (by decide +kernel) (by decide +kernel)
set_option maxRecDepth 20000 in
theorem gX6_most_X6_alike : GoodIn wsX6_most (va_wsS RX6 54 yX6_alike wsX6_alike) := goodIn_app (goodIn_of _ (by decide +kernel)) ggX6_most_X6_alike
set_option maxRecDepth 20000 in
theorem ggX6_most_X6_isAhead : GoodIn wsX6_most wsX6_isAhead := goodIn_r _ [23, 18, 19, 5, 20] (by decide +kernel) (by decide +kernel)
set_option maxRecDepth 20000 in
theorem gX6_most_X6_isAhead : GoodIn wsX6_most (va_wsS RX6 58 yX6_isAhead wsX6_isAhead) := goodIn_app (goodIn_of _ (by decide +kernel)) ggX6_most_X6_isAhead
theorem dX6_most_0 : decode cX6_most 0 = .ok (.aload_n 0, 1) := by decide +kernel
theorem dX6_most_1 : decode cX6_most 1 = .ok (.iload_n 1, 1) := by decide +kernel
theorem dX6_most_2 : decode cX6_most 2 = .ok (.i2l, 1) := by decide +kernel
theorem dX6_most_3 : decode cX6_most 3 = .ok (.lconst 1, 1) := by decide +kernel
theorem dX6_most_4 : decode cX6_most 4 = .ok (.ldc2_w 147, 3) := by decide +kernel
theorem dX6_most_7 : decode cX6_most 7 = .ok (.invokestatic 103, 3) := by decide +kernel
theorem dX6_most_10 : decode cX6_most 10 = .ok (.ifCond .eq 7, 3) := by decide +kernel
theorem dX6_most_13 : decode cX6_most 13 = .ok (.iconst 0, 1) := by decide +kernel
theorem dX6_most_14 : decode cX6_most 14 = .ok (.goto 4, 3) := by decide +kernel
theorem dX6_most_17 : decode cX6_most 17 = .ok (.iconst 1, 1) := by decide +kernel
theorem dX6_most_18 : decode cX6_most 18 = .ok (.invokevirtual 110, 3) := by decide +kernel
theorem dX6_most_21 : decode cX6_most 21 = .ok (.ifCond .eq 5, 3) := by decide +kernel
theorem dX6_most_24 : decode cX6_most 24 = .ok (.iconst 0, 1) := by decide +kernel
theorem dX6_most_25 : decode cX6_most 25 = .ok (.ireturn, 1) := by decide +kernel
theorem dX6_most_26 : decode cX6_most 26 = .ok (.aload_n 0, 1) := by decide +kernel
theorem dX6_most_27 : decode cX6_most 27 = .ok (.getfield 13, 3) := by decide +kernel
theorem dX6_most_30 : decode cX6_most 30 = .ok (.iload_n 1, 1) := by decide +kernel
theorem dX6_most_31 : decode cX6_most 31 = .ok (.invokestatic 149, 3) := by decide +kernel
theorem dX6_most_34 : decode cX6_most 34 = .ok (.istore_n 3, 1) := by decide +kernel
theorem dX6_most_35 : decode cX6_most 35 = .ok (.iload_n 2, 1) := by decide +kernel
theorem dX6_most_36 : decode cX6_most 36 = .ok (.ifCond .eq 5, 3) := by decide +kernel
theorem dX6_most_39 : decode cX6_most 39 = .ok (.iload_n 3, 1) := by decide +kernel
theorem dX6_most_40 : decode cX6_most 40 = .ok (.ireturn, 1) := by decide +kernel
theorem dX6_most_41 : decode cX6_most 41 = .ok (.iconst (-1), 1) := by decide +kernel
theorem dX6_most_42 : decode cX6_most 42 = .ok (.istore 4, 2) := by decide +kernel
theorem dX6_most_44 : decode cX6_most 44 = .ok (.iconst 0, 1) := by decide +kernel
theorem dX6_most_45 : decode cX6_most 45 = .ok (.istore 5, 2) := by decide +kernel
theorem dX6_most_47 : decode cX6_most 47 = .ok (.iload 5, 2) := by decide +kernel
theorem dX6_most_49 : decode cX6_most 49 = .ok (.iload_n 1, 1) := by decide +kernel
theorem dX6_most_50 : decode cX6_most 50 = .ok (.iadd, 1) := by decide +kernel
theorem dX6_most_51 : decode cX6_most 51 = .ok (.aload_n 0, 1) := by decide +kernel
theorem dX6_most_52 : decode cX6_most 52 = .ok (.getfield 13, 3) := by decide +kernel
theorem dX6_most_55 : decode cX6_most 55 = .ok (.iconst 0, 1) := by decide +kernel
theorem dX6_most_56 : decode cX6_most 56 = .ok (.iaload, 1) := by decide +kernel
theorem dX6_most_57 : decode cX6_most 57 = .ok (.if_icmp .gt 91, 3) := by decide +kernel
theorem dX6_most_60 : decode cX6_most 60 = .ok (.aload_n 0, 1) := by decide +kernel
theorem dX6_most_61 : decode cX6_most 61 = .ok (.getfield 13, 3) := by decide +kernel
theorem dX6_most_64 : decode cX6_most 64 = .ok (.iload 5, 2) := by decide +kernel
theorem dX6_most_66 : decode cX6_most 66 = .ok (.iload_n 1, 1) := by decide +kernel
theorem dX6_most_67 : decode cX6_most 67 = .ok (.invokestatic 98, 3) := by decide +kernel
theorem dX6_most_70 : decode cX6_most 70 = .ok (.iload_n 3, 1) := by decide +kernel
theorem dX6_most_71 : decode cX6_most 71 = .ok (.if_icmp .ne 7, 3) := by decide +kernel
theorem dX6_most_74 : decode cX6_most 74 = .ok (.iconst 1, 1) := by decide +kernel
theorem dX6_most_75 : decode cX6_most 75 = .ok (.goto 4, 3) := by decide +kernel
theorem dX6_most_78 : decode cX6_most 78 = .ok (.iconst 0, 1) := by decide +kernel
theorem dX6_most_79 : decode cX6_most 79 = .ok (.istore 6, 2) := by decide +kernel
theorem dX6_most_81 : decode cX6_most 81 = .ok (.iload 4, 2) := by decide +kernel
theorem dX6_most_83 : decode cX6_most 83 = .ok (.iconst (-1), 1) := by decide +kernel
theorem dX6_most_84 : decode cX6_most 84 = .ok (.if_icmp .eq 32, 3) := by decide +kernel
theorem dX6_most_87 : decode cX6_most 87 = .ok (.aload_n 0, 1) := by decide +kernel
theorem dX6_most_88 : decode cX6_most 88 = .ok (.getfield 13, 3) := by decide +kernel
theorem dX6_most_91 : decode cX6_most 91 = .ok (.iload 5, 2) := by decide +kernel
theorem dX6_most_93 : decode cX6_most 93 = .ok (.iload 4, 2) := by decide +kernel
theorem dX6_most_95 : decode cX6_most 95 = .ok (.invokestatic 54, 3) := by decide +kernel
theorem dX6_most_98 : decode cX6_most 98 = .ok (.iload_n 1, 1) := by decide +kernel
theorem dX6_most_99 : decode cX6_most 99 = .ok (.if_icmp .ge 21, 3) := by decide +kernel
theorem dX6_most_102 : decode cX6_most 102 = .ok (.aload_n 0, 1) := by decide +kernel
theorem dX6_most_103 : decode cX6_most 103 = .ok (.getfield 13, 3) := by decide +kernel
theorem dX6_most_106 : decode cX6_most 106 = .ok (.iload 5, 2) := by decide +kernel
theorem dX6_most_108 : decode cX6_most 108 = .ok (.iload 4, 2) := by decide +kernel
theorem dX6_most_110 : decode cX6_most 110 = .ok (.invokestatic 58, 3) := by decide +kernel
theorem dX6_most_113 : decode cX6_most 113 = .ok (.ifCond .eq 7, 3) := by decide +kernel
theorem dX6_most_116 : decode cX6_most 116 = .ok (.iconst 1, 1) := by decide +kernel
theorem dX6_most_117 : decode cX6_most 117 = .ok (.goto 4, 3) := by decide +kernel
theorem dX6_most_120 : decode cX6_most 120 = .ok (.iconst 0, 1) := by decide +kernel
theorem dX6_most_121 : decode cX6_most 121 = .ok (.istore 7, 2) := by decide +kernel
theorem dX6_most_123 : decode cX6_most 123 = .ok (.iload 6, 2) := by decide +kernel
theorem dX6_most_125 : decode cX6_most 125 = .ok (.ifCond .eq 13, 3) := by decide +kernel
theorem dX6_most_128 : decode cX6_most 128 = .ok (.iload 7, 2) := by decide +kernel
theorem dX6_most_130 : decode cX6_most 130 = .ok (.ifCond .eq 8, 3) := by decide +kernel
theorem dX6_most_133 : decode cX6_most 133 = .ok (.iload 5, 2) := by decide +kernel
theorem dX6_most_135 : decode cX6_most 135 = .ok (.goto 5, 3) := by decide +kernel
theorem dX6_most_138 : decode cX6_most 138 = .ok (.iload 4, 2) := by decide +kernel
theorem dX6_most_140 : decode cX6_most 140 = .ok (.istore 4, 2) := by decide +kernel
theorem dX6_most_142 : decode cX6_most 142 = .ok (.iinc 5 1, 3) := by decide +kernel
theorem dX6_most_145 : decode cX6_most 145 = .ok (.goto (-98), 3) := by decide +kernel
theorem dX6_most_148 : decode cX6_most 148 = .ok (.iload 4, 2) := by decide +kernel
theorem dX6_most_150 : decode cX6_most 150 = .ok (.ireturn, 1) := by decide +kernel
set_option maxRecDepth 20000 in
theorem ggX6_sing_X6_canSing : GoodIn wsX6_sing wsX6_canSing := goodIn_r _ [6, 7, 8, 9, 10, 5, 11, 12, 13, 14, 15, 16, 17, 72, 73, 74, 75, 76, 77, 78, 79, 80, 81, 82, 83, 84, 85] (by decide +kernel) (by decide +kernel)
set_option maxRecDepth 20000 in
theorem gX6_sing_X6_canSing : GoodIn wsX6_sing (wsV RX6 152 RX6 yX6_canSing wsX6_canSing) := goodIn_app (goodIn_of _ (by decide +kernel)) ggX6_sing_X6_canSing
set_option maxRecDepth 20000 in
theorem ggX6_sing_X6_refused : GoodIn wsX6_sing wsX6_refused := goodIn_r _ [21, 22, 72, 73, 74, 75, 76, 77, 78, 79, 80, 81, 82, 83, 84, 85] (by decide +kernel) (by decide +kernel)
set_option maxRecDepth 20000 in
theorem gX6_sing_X6_refused : GoodIn wsX6_sing (wsV RX6 110 RX6 yX6_refused wsX6_refused) := goodIn_app (goodIn_of _ (by decide +kernel)) ggX6_sing_X6_refused
set_option maxRecDepth 20000 in
theorem ggX6_sing_X6_remember : GoodIn wsX6_sing wsX6_remember := goodIn_r _ [26, 27, 28, 1, 29, 30, 5, 31, 72, 73, 74, 75, 76, 77, 78, 79, 80, 81, 82, 83, 84, 85] (by decide +kernel) (by decide +kernel)
set_option maxRecDepth 20000 in
theorem gX6_sing_X6_remember : GoodIn wsX6_sing (wsV RX6 156 RX6 yX6_remember wsX6_remember) := goodIn_app (goodIn_of _ (by decide +kernel)) ggX6_sing_X6_remember
set_option maxRecDepth 20000 in
theorem ggX6_sing_X6_takeText : GoodIn wsX6_sing wsX6_takeText := goodIn_r _ [35, 7, 36, 12, 37, 29, 30, 5, 31, 72, 73, 74, 75, 76, 77, 78, 79, 80, 81, 82, 83, 84, 85] (by decide +kernel) (by decide +kernel)
set_option maxRecDepth 20000 in
theorem gX6_sing_X6_takeText : GoodIn wsX6_sing (wsV RX6 159 RX6 yX6_takeText wsX6_takeText) := goodIn_app (goodIn_of _ (by decide +kernel)) ggX6_sing_X6_takeText
set_option maxRecDepth 20000 in
theorem ggX6_sing_X6_singIn : GoodIn wsX6_sing wsX6_singIn := goodIn_r _ [41, 37, 36, 42, 43, 44, 5, 45, 46, 47, 48, 49, 50, 51, 52, 53, 54, 55, 56, 57, 58, 59, 60, 61, 62, 63, 64, 29, 30, 31, 65, 66, 67, 68, 69, 70, 71, 72, 73, 74, 75, 76, 77, 78, 79, 80, 81, 82, 83, 84, 85] (by decide +kernel) (by decide +kernel)
set_option maxRecDepth 20000 in
theorem gX6_sing_X6_singIn : GoodIn wsX6_sing (wsV RX6 88 RX6 yX6_singIn wsX6_singIn) := goodIn_app (goodIn_of _ (by decide +kernel)) ggX6_sing_X6_singIn
theorem dX6_sing_0 : decode cX6_sing 0 = .ok (.aload_n 0, 1) := by decide +kernel
theorem dX6_sing_1 : decode cX6_sing 1 = .ok (.aload_n 0, 1) := by decide +kernel
theorem dX6_sing_2 : decode cX6_sing 2 = .ok (.invokevirtual 152, 3) := by decide +kernel
theorem dX6_sing_5 : decode cX6_sing 5 = .ok (.ifCond .eq 7, 3) := by decide +kernel
theorem dX6_sing_8 : decode cX6_sing 8 = .ok (.iconst 0, 1) := by decide +kernel
theorem dX6_sing_9 : decode cX6_sing 9 = .ok (.goto 4, 3) := by decide +kernel
theorem dX6_sing_12 : decode cX6_sing 12 = .ok (.iconst 1, 1) := by decide +kernel
theorem dX6_sing_13 : decode cX6_sing 13 = .ok (.invokevirtual 110, 3) := by decide +kernel
theorem dX6_sing_16 : decode cX6_sing 16 = .ok (.ifCond .eq 5, 3) := by decide +kernel
theorem dX6_sing_19 : decode cX6_sing 19 = .ok (.iconst 0, 1) := by decide +kernel
theorem dX6_sing_20 : decode cX6_sing 20 = .ok (.ireturn, 1) := by decide +kernel
theorem dX6_sing_21 : decode cX6_sing 21 = .ok (.aload_n 0, 1) := by decide +kernel
theorem dX6_sing_22 : decode cX6_sing 22 = .ok (.invokevirtual 156, 3) := by decide +kernel
theorem dX6_sing_25 : decode cX6_sing 25 = .ok (.aload_n 0, 1) := by decide +kernel
theorem dX6_sing_26 : decode cX6_sing 26 = .ok (.invokevirtual 159, 3) := by decide +kernel
theorem dX6_sing_29 : decode cX6_sing 29 = .ok (.aload_n 0, 1) := by decide +kernel
theorem dX6_sing_30 : decode cX6_sing 30 = .ok (.aload_n 0, 1) := by decide +kernel
theorem dX6_sing_31 : decode cX6_sing 31 = .ok (.getfield 13, 3) := by decide +kernel
theorem dX6_sing_34 : decode cX6_sing 34 = .ok (.invokevirtual 88, 3) := by decide +kernel
theorem dX6_sing_37 : decode cX6_sing 37 = .ok (.ireturn, 1) := by decide +kernel
set_option maxRecDepth 20000 in
theorem ggX6_again_X6_isVerse : GoodIn wsX6_again wsX6_isVerse := goodIn_r _ [6, 1, 7, 8, 5, 9, 67, 68, 69, 70, 71, 72, 73, 74, 75, 76, 77, 78, 79, 80] (by decide +kernel) (by decide +kernel)
set_option maxRecDepth 20000 in
theorem gX6_again_X6_isVerse : GoodIn wsX6_again (wsV RX6 136 RX6 yX6_isVerse wsX6_isVerse) := goodIn_app (goodIn_of _ (by decide +kernel)) ggX6_again_X6_isVerse
set_option maxRecDepth 20000 in
theorem ggX6_again_X6_refused : GoodIn wsX6_again wsX6_refused := goodIn_r _ [13, 14, 67, 68, 69, 70, 71, 72, 73, 74, 75, 76, 77, 78, 79, 80] (by decide +kernel) (by decide +kernel)
set_option maxRecDepth 20000 in
theorem gX6_again_X6_refused : GoodIn wsX6_again (wsV RX6 110 RX6 yX6_refused wsX6_refused) := goodIn_app (goodIn_of _ (by decide +kernel)) ggX6_again_X6_refused
set_option maxRecDepth 20000 in
theorem ggX6_again_X6_remember : GoodIn wsX6_again wsX6_remember := goodIn_r _ [18, 19, 20, 1, 21, 22, 5, 23, 67, 68, 69, 70, 71, 72, 73, 74, 75, 76, 77, 78, 79, 80] (by decide +kernel) (by decide +kernel)
set_option maxRecDepth 20000 in
theorem gX6_again_X6_remember : GoodIn wsX6_again (wsV RX6 156 RX6 yX6_remember wsX6_remember) := goodIn_app (goodIn_of _ (by decide +kernel)) ggX6_again_X6_remember
set_option maxRecDepth 20000 in
theorem ggX6_again_X6_againIn : GoodIn wsX6_again wsX6_againIn := goodIn_r _ [27, 28, 29, 30, 31, 5, 32, 21, 22, 23, 33, 34, 35, 36, 37, 38, 39, 40, 41, 42, 43, 44, 45, 46, 47, 48, 49, 50, 51, 52, 53, 54, 55, 56, 57, 58, 59, 60, 61, 62, 63, 64, 65, 66, 67, 68, 69, 70, 71, 72, 73, 74, 75, 76, 77, 78, 79, 80] (by decide +kernel) (by decide +kernel)
set_option maxRecDepth 20000 in
theorem gX6_again_X6_againIn : GoodIn wsX6_again (wsV RX6 162 RX6 yX6_againIn wsX6_againIn) := goodIn_app (goodIn_of _ (by decide +kernel)) ggX6_again_X6_againIn
theorem dX6_again_0 : decode cX6_again 0 = .ok (.aload_n 0, 1) := by decide +kernel
theorem dX6_again_1 : decode cX6_again 1 = .ok (.aload_n 0, 1) := by decide +kernel
theorem dX6_again_2 : decode cX6_again 2 = .ok (.iload_n 1, 1) := by decide +kernel
theorem dX6_again_3 : decode cX6_again 3 = .ok (.invokevirtual 136, 3) := by decide +kernel
theorem dX6_again_6 : decode cX6_again 6 = .ok (.ifCond .eq 7, 3) := by decide +kernel
theorem dX6_again_9 : decode cX6_again 9 = .ok (.iconst 0, 1) := by decide +kernel
theorem dX6_again_10 : decode cX6_again 10 = .ok (.goto 4, 3) := by decide +kernel
theorem dX6_again_13 : decode cX6_again 13 = .ok (.iconst 1, 1) := by decide +kernel
theorem dX6_again_14 : decode cX6_again 14 = .ok (.invokevirtual 110, 3) := by decide +kernel
theorem dX6_again_17 : decode cX6_again 17 = .ok (.ifCond .eq 5, 3) := by decide +kernel
theorem dX6_again_20 : decode cX6_again 20 = .ok (.iconst 0, 1) := by decide +kernel
theorem dX6_again_21 : decode cX6_again 21 = .ok (.ireturn, 1) := by decide +kernel
theorem dX6_again_22 : decode cX6_again 22 = .ok (.aload_n 0, 1) := by decide +kernel
theorem dX6_again_23 : decode cX6_again 23 = .ok (.invokevirtual 156, 3) := by decide +kernel
theorem dX6_again_26 : decode cX6_again 26 = .ok (.aload_n 0, 1) := by decide +kernel
theorem dX6_again_27 : decode cX6_again 27 = .ok (.aload_n 0, 1) := by decide +kernel
theorem dX6_again_28 : decode cX6_again 28 = .ok (.getfield 13, 3) := by decide +kernel
theorem dX6_again_31 : decode cX6_again 31 = .ok (.iload_n 1, 1) := by decide +kernel
theorem dX6_again_32 : decode cX6_again 32 = .ok (.invokevirtual 162, 3) := by decide +kernel
theorem dX6_again_35 : decode cX6_again 35 = .ok (.ireturn, 1) := by decide +kernel
set_option maxRecDepth 20000 in
theorem ggX6_forget_X6_refused : GoodIn wsX6_forget wsX6_refused := goodIn_r _ [6, 7, 51, 52, 53, 54, 55, 56, 57, 58, 59, 60, 61, 62, 63, 64] (by decide +kernel) (by decide +kernel)
set_option maxRecDepth 20000 in
theorem gX6_forget_X6_refused : GoodIn wsX6_forget (wsV RX6 110 RX6 yX6_refused wsX6_refused) := goodIn_app (goodIn_of _ (by decide +kernel)) ggX6_forget_X6_refused
set_option maxRecDepth 20000 in
theorem ggX6_forget_X6_remember : GoodIn wsX6_forget wsX6_remember := goodIn_r _ [11, 12, 13, 1, 14, 15, 5, 16, 51, 52, 53, 54, 55, 56, 57, 58, 59, 60, 61, 62, 63, 64] (by decide +kernel) (by decide +kernel)
set_option maxRecDepth 20000 in
theorem gX6_forget_X6_remember : GoodIn wsX6_forget (wsV RX6 156 RX6 yX6_remember wsX6_remember) := goodIn_app (goodIn_of _ (by decide +kernel)) ggX6_forget_X6_remember
set_option maxRecDepth 20000 in
theorem ggX6_forget_X6_forgetIn : GoodIn wsX6_forget wsX6_forgetIn := goodIn_r _ [20, 21, 22, 23, 5, 24, 25, 26, 27, 28, 29, 30, 31, 32, 33, 34, 35, 36, 37, 38, 39, 40, 41, 42, 43, 44, 45, 46, 14, 15, 16, 47, 48, 49, 50, 51, 52, 53, 54, 55, 56, 57, 58, 59, 60, 61, 62, 63, 64] (by decide +kernel) (by decide +kernel)
set_option maxRecDepth 20000 in
theorem gX6_forget_X6_forgetIn : GoodIn wsX6_forget (wsV RX6 165 RX6 yX6_forgetIn wsX6_forgetIn) := goodIn_app (goodIn_of _ (by decide +kernel)) ggX6_forget_X6_forgetIn
theorem dX6_forget_0 : decode cX6_forget 0 = .ok (.aload_n 0, 1) := by decide +kernel
theorem dX6_forget_1 : decode cX6_forget 1 = .ok (.aload_n 0, 1) := by decide +kernel
theorem dX6_forget_2 : decode cX6_forget 2 = .ok (.getfield 13, 3) := by decide +kernel
theorem dX6_forget_5 : decode cX6_forget 5 = .ok (.iconst 1, 1) := by decide +kernel
theorem dX6_forget_6 : decode cX6_forget 6 = .ok (.iaload, 1) := by decide +kernel
theorem dX6_forget_7 : decode cX6_forget 7 = .ok (.ifCond .ne 7, 3) := by decide +kernel
theorem dX6_forget_10 : decode cX6_forget 10 = .ok (.iconst 1, 1) := by decide +kernel
theorem dX6_forget_11 : decode cX6_forget 11 = .ok (.goto 4, 3) := by decide +kernel
theorem dX6_forget_14 : decode cX6_forget 14 = .ok (.iconst 0, 1) := by decide +kernel
theorem dX6_forget_15 : decode cX6_forget 15 = .ok (.invokevirtual 110, 3) := by decide +kernel
theorem dX6_forget_18 : decode cX6_forget 18 = .ok (.ifCond .eq 5, 3) := by decide +kernel
theorem dX6_forget_21 : decode cX6_forget 21 = .ok (.iconst 0, 1) := by decide +kernel
theorem dX6_forget_22 : decode cX6_forget 22 = .ok (.ireturn, 1) := by decide +kernel
theorem dX6_forget_23 : decode cX6_forget 23 = .ok (.aload_n 0, 1) := by decide +kernel
theorem dX6_forget_24 : decode cX6_forget 24 = .ok (.invokevirtual 156, 3) := by decide +kernel
theorem dX6_forget_27 : decode cX6_forget 27 = .ok (.aload_n 0, 1) := by decide +kernel
theorem dX6_forget_28 : decode cX6_forget 28 = .ok (.aload_n 0, 1) := by decide +kernel
theorem dX6_forget_29 : decode cX6_forget 29 = .ok (.getfield 13, 3) := by decide +kernel
theorem dX6_forget_32 : decode cX6_forget 32 = .ok (.invokevirtual 165, 3) := by decide +kernel
theorem dX6_forget_35 : decode cX6_forget 35 = .ok (.ireturn, 1) := by decide +kernel
set_option maxRecDepth 20000 in
theorem ggX6_isChoir_X6_in : GoodIn wsX6_isChoir wsX6_in := goodIn_r _ [5] (by decide +kernel) (by decide +kernel)
set_option maxRecDepth 20000 in
theorem gX6_isChoir_X6_in : GoodIn wsX6_isChoir (va_wsS RX6 103 yX6_in wsX6_in) := goodIn_app (goodIn_of _ (by decide +kernel)) ggX6_isChoir_X6_in
theorem dX6_isChoir_0 : decode cX6_isChoir 0 = .ok (.iload_n 0, 1) := by decide +kernel
theorem dX6_isChoir_1 : decode cX6_isChoir 1 = .ok (.i2l, 1) := by decide +kernel
theorem dX6_isChoir_2 : decode cX6_isChoir 2 = .ok (.lconst 1, 1) := by decide +kernel
theorem dX6_isChoir_3 : decode cX6_isChoir 3 = .ok (.ldc2_w 122, 3) := by decide +kernel
theorem dX6_isChoir_6 : decode cX6_isChoir 6 = .ok (.invokestatic 103, 3) := by decide +kernel
theorem dX6_isChoir_9 : decode cX6_isChoir 9 = .ok (.ireturn, 1) := by decide +kernel
set_option maxRecDepth 20000 in
theorem ggX6_setSingers_X6_isChoir : GoodIn wsX6_setSingers wsX6_isChoir := goodIn_r _ [5, 6, 7, 8, 4, 9] (by decide +kernel) (by decide +kernel)
set_option maxRecDepth 20000 in
theorem gX6_setSingers_X6_isChoir : GoodIn wsX6_setSingers (va_wsS RX6 168 yX6_isChoir wsX6_isChoir) := goodIn_app (goodIn_of _ (by decide +kernel)) ggX6_setSingers_X6_isChoir
set_option maxRecDepth 20000 in
theorem ggX6_setSingers_X6_refused : GoodIn wsX6_setSingers wsX6_refused := goodIn_r _ [13, 14, 55, 56, 57, 58, 59, 60, 61, 62, 63, 64, 65, 66, 67, 68] (by decide +kernel) (by decide +kernel)
set_option maxRecDepth 20000 in
theorem gX6_setSingers_X6_refused : GoodIn wsX6_setSingers (wsV RX6 110 RX6 yX6_refused wsX6_refused) := goodIn_app (goodIn_of _ (by decide +kernel)) ggX6_setSingers_X6_refused
set_option maxRecDepth 20000 in
theorem ggX6_setSingers_X6_remember : GoodIn wsX6_setSingers wsX6_remember := goodIn_r _ [18, 19, 20, 1, 21, 22, 4, 23, 55, 56, 57, 58, 59, 60, 61, 62, 63, 64, 65, 66, 67, 68] (by decide +kernel) (by decide +kernel)
set_option maxRecDepth 20000 in
theorem gX6_setSingers_X6_remember : GoodIn wsX6_setSingers (wsV RX6 156 RX6 yX6_remember wsX6_remember) := goodIn_app (goodIn_of _ (by decide +kernel)) ggX6_setSingers_X6_remember
set_option maxRecDepth 20000 in
theorem ggX6_setSingers_X6_setSingersIn : GoodIn wsX6_setSingers wsX6_setSingersIn := goodIn_r _ [27, 28, 29, 30, 4, 31, 32, 33, 34, 35, 36, 37, 38, 39, 40, 41, 42, 43, 44, 45, 46, 47, 48, 49, 50, 51, 52, 53, 54, 55, 56, 57, 58, 59, 60, 61, 62, 63, 64, 65, 66, 67, 68] (by decide +kernel) (by decide +kernel)
set_option maxRecDepth 20000 in
theorem gX6_setSingers_X6_setSingersIn : GoodIn wsX6_setSingers (wsV RX6 171 RX6 yX6_setSingersIn wsX6_setSingersIn) := goodIn_app (goodIn_of _ (by decide +kernel)) ggX6_setSingers_X6_setSingersIn
theorem dX6_setSingers_0 : decode cX6_setSingers 0 = .ok (.aload_n 0, 1) := by decide +kernel
theorem dX6_setSingers_1 : decode cX6_setSingers 1 = .ok (.iload_n 1, 1) := by decide +kernel
theorem dX6_setSingers_2 : decode cX6_setSingers 2 = .ok (.invokestatic 168, 3) := by decide +kernel
theorem dX6_setSingers_5 : decode cX6_setSingers 5 = .ok (.ifCond .eq 7, 3) := by decide +kernel
theorem dX6_setSingers_8 : decode cX6_setSingers 8 = .ok (.iconst 0, 1) := by decide +kernel
theorem dX6_setSingers_9 : decode cX6_setSingers 9 = .ok (.goto 4, 3) := by decide +kernel
theorem dX6_setSingers_12 : decode cX6_setSingers 12 = .ok (.iconst 1, 1) := by decide +kernel
theorem dX6_setSingers_13 : decode cX6_setSingers 13 = .ok (.invokevirtual 110, 3) := by decide +kernel
theorem dX6_setSingers_16 : decode cX6_setSingers 16 = .ok (.ifCond .eq 5, 3) := by decide +kernel
theorem dX6_setSingers_19 : decode cX6_setSingers 19 = .ok (.iconst 0, 1) := by decide +kernel
theorem dX6_setSingers_20 : decode cX6_setSingers 20 = .ok (.ireturn, 1) := by decide +kernel
theorem dX6_setSingers_21 : decode cX6_setSingers 21 = .ok (.aload_n 0, 1) := by decide +kernel
theorem dX6_setSingers_22 : decode cX6_setSingers 22 = .ok (.invokevirtual 156, 3) := by decide +kernel
theorem dX6_setSingers_25 : decode cX6_setSingers 25 = .ok (.aload_n 0, 1) := by decide +kernel
theorem dX6_setSingers_26 : decode cX6_setSingers 26 = .ok (.aload_n 0, 1) := by decide +kernel
theorem dX6_setSingers_27 : decode cX6_setSingers 27 = .ok (.getfield 13, 3) := by decide +kernel
theorem dX6_setSingers_30 : decode cX6_setSingers 30 = .ok (.iload_n 1, 1) := by decide +kernel
theorem dX6_setSingers_31 : decode cX6_setSingers 31 = .ok (.invokevirtual 171, 3) := by decide +kernel
theorem dX6_setSingers_34 : decode cX6_setSingers 34 = .ok (.ireturn, 1) := by decide +kernel
set_option maxRecDepth 20000 in
theorem ggX6_undo_X6_refused : GoodIn wsX6_undo wsX6_refused := goodIn_r _ [8, 9, 13, 14, 15, 16, 17, 18, 19, 20, 21, 22, 23, 24, 25, 26] (by decide +kernel) (by decide +kernel)
set_option maxRecDepth 20000 in
theorem gX6_undo_X6_refused : GoodIn wsX6_undo (wsV RX6 110 RX6 yX6_refused wsX6_refused) := goodIn_app (goodIn_of _ (by decide +kernel)) ggX6_undo_X6_refused
set_option maxRecDepth 20000 in
theorem ggX6_undo_X6_copy : GoodIn wsX6_undo wsX6_copy := goodIn_r _ [12] (by decide +kernel) (by decide +kernel)
set_option maxRecDepth 20000 in
theorem gX6_undo_X6_copy : GoodIn wsX6_undo (va_wsS RX6 50 yX6_copy wsX6_copy) := goodIn_app (goodIn_of _ (by decide +kernel)) ggX6_undo_X6_copy
theorem dX6_undo_0 : decode cX6_undo 0 = .ok (.aload_n 0, 1) := by decide +kernel
theorem dX6_undo_1 : decode cX6_undo 1 = .ok (.aload_n 0, 1) := by decide +kernel
theorem dX6_undo_2 : decode cX6_undo 2 = .ok (.getfield 47, 3) := by decide +kernel
theorem dX6_undo_5 : decode cX6_undo 5 = .ok (.ifCond .ne 7, 3) := by decide +kernel
theorem dX6_undo_8 : decode cX6_undo 8 = .ok (.iconst 1, 1) := by decide +kernel
theorem dX6_undo_9 : decode cX6_undo 9 = .ok (.goto 4, 3) := by decide +kernel
theorem dX6_undo_12 : decode cX6_undo 12 = .ok (.iconst 0, 1) := by decide +kernel
theorem dX6_undo_13 : decode cX6_undo 13 = .ok (.invokevirtual 110, 3) := by decide +kernel
theorem dX6_undo_16 : decode cX6_undo 16 = .ok (.ifCond .eq 5, 3) := by decide +kernel
theorem dX6_undo_19 : decode cX6_undo 19 = .ok (.iconst 0, 1) := by decide +kernel
theorem dX6_undo_20 : decode cX6_undo 20 = .ok (.ireturn, 1) := by decide +kernel
theorem dX6_undo_21 : decode cX6_undo 21 = .ok (.aload_n 0, 1) := by decide +kernel
theorem dX6_undo_22 : decode cX6_undo 22 = .ok (.dup, 1) := by decide +kernel
theorem dX6_undo_23 : decode cX6_undo 23 = .ok (.getfield 47, 3) := by decide +kernel
theorem dX6_undo_26 : decode cX6_undo 26 = .ok (.iconst 1, 1) := by decide +kernel
theorem dX6_undo_27 : decode cX6_undo 27 = .ok (.isub, 1) := by decide +kernel
theorem dX6_undo_28 : decode cX6_undo 28 = .ok (.putfield 47, 3) := by decide +kernel
theorem dX6_undo_31 : decode cX6_undo 31 = .ok (.aload_n 0, 1) := by decide +kernel
theorem dX6_undo_32 : decode cX6_undo 32 = .ok (.getfield 19, 3) := by decide +kernel
theorem dX6_undo_35 : decode cX6_undo 35 = .ok (.bipush 126, 2) := by decide +kernel
theorem dX6_undo_37 : decode cX6_undo 37 = .ok (.aload_n 0, 1) := by decide +kernel
theorem dX6_undo_38 : decode cX6_undo 38 = .ok (.getfield 47, 3) := by decide +kernel
theorem dX6_undo_41 : decode cX6_undo 41 = .ok (.imul, 1) := by decide +kernel
theorem dX6_undo_42 : decode cX6_undo 42 = .ok (.aload_n 0, 1) := by decide +kernel
theorem dX6_undo_43 : decode cX6_undo 43 = .ok (.getfield 13, 3) := by decide +kernel
theorem dX6_undo_46 : decode cX6_undo 46 = .ok (.iconst 0, 1) := by decide +kernel
theorem dX6_undo_47 : decode cX6_undo 47 = .ok (.bipush 126, 2) := by decide +kernel
theorem dX6_undo_49 : decode cX6_undo 49 = .ok (.invokestatic 50, 3) := by decide +kernel
theorem dX6_undo_52 : decode cX6_undo 52 = .ok (.aload_n 0, 1) := by decide +kernel
theorem dX6_undo_53 : decode cX6_undo 53 = .ok (.getfield 47, 3) := by decide +kernel
theorem dX6_undo_56 : decode cX6_undo 56 = .ok (.ireturn, 1) := by decide +kernel
set_option maxRecDepth 20000 in
theorem ggX6_wouldRepeat_X6_canSing : GoodIn wsX6_wouldRepeat wsX6_canSing := goodIn_r _ [7, 8, 9, 10, 11, 6, 12, 13, 14, 15, 16, 17, 18, 71, 72, 73, 74, 75, 76, 77, 78, 79, 80, 81, 82, 83, 84] (by decide +kernel) (by decide +kernel)
set_option maxRecDepth 20000 in
theorem gX6_wouldRepeat_X6_canSing : GoodIn wsX6_wouldRepeat (wsV RX6 152 RX6 yX6_canSing wsX6_canSing) := goodIn_app (goodIn_of _ (by decide +kernel)) ggX6_wouldRepeat_X6_canSing
set_option maxRecDepth 20000 in
theorem ggX6_wouldRepeat_X6_begin : GoodIn wsX6_wouldRepeat wsX6_begin := goodIn_r _ [22, 23, 2, 24, 25, 6, 26, 71, 72, 73, 74, 75, 76, 77, 78, 79, 80, 81, 82, 83, 84] (by decide +kernel) (by decide +kernel)
set_option maxRecDepth 20000 in
theorem gX6_wouldRepeat_X6_begin : GoodIn wsX6_wouldRepeat (wsV RX6 174 RX6 yX6_begin wsX6_begin) := goodIn_app (goodIn_of _ (by decide +kernel)) ggX6_wouldRepeat_X6_begin
set_option maxRecDepth 20000 in
theorem ggX6_wouldRepeat_X6_takeText : GoodIn wsX6_wouldRepeat wsX6_takeText := goodIn_r _ [30, 8, 31, 13, 32, 24, 25, 6, 26, 71, 72, 73, 74, 75, 76, 77, 78, 79, 80, 81, 82, 83, 84] (by decide +kernel) (by decide +kernel)
set_option maxRecDepth 20000 in
theorem gX6_wouldRepeat_X6_takeText : GoodIn wsX6_wouldRepeat (wsV RX6 159 RX6 yX6_takeText wsX6_takeText) := goodIn_app (goodIn_of _ (by decide +kernel)) ggX6_wouldRepeat_X6_takeText
set_option maxRecDepth 20000 in
theorem ggX6_wouldRepeat_X6_singIn : GoodIn wsX6_wouldRepeat wsX6_singIn := goodIn_r _ [36, 32, 31, 37, 38, 39, 6, 40, 41, 42, 43, 44, 45, 46, 47, 48, 49, 50, 51, 52, 53, 54, 55, 56, 57, 58, 59, 24, 25, 26, 60, 61, 62, 63, 64, 65, 66, 71, 72, 73, 74, 75, 76, 77, 78, 79, 80, 81, 82, 83, 84] (by decide +kernel) (by decide +kernel)
set_option maxRecDepth 20000 in
theorem gX6_wouldRepeat_X6_singIn : GoodIn wsX6_wouldRepeat (wsV RX6 88 RX6 yX6_singIn wsX6_singIn) := goodIn_app (goodIn_of _ (by decide +kernel)) ggX6_wouldRepeat_X6_singIn
set_option maxRecDepth 20000 in
theorem ggX6_wouldRepeat_X6_longest : GoodIn wsX6_wouldRepeat wsX6_longest := goodIn_r _ [70, 47, 43, 44, 45, 6, 46, 42, 48, 49, 50, 51, 52, 53, 71, 72, 73, 74, 75, 76, 77, 78, 79, 80, 81, 82, 83, 84] (by decide +kernel) (by decide +kernel)
set_option maxRecDepth 20000 in
theorem gX6_wouldRepeat_X6_longest : GoodIn wsX6_wouldRepeat (wsV RX6 92 RX6 yX6_longest wsX6_longest) := goodIn_app (goodIn_of _ (by decide +kernel)) ggX6_wouldRepeat_X6_longest
theorem dX6_wouldRepeat_0 : decode cX6_wouldRepeat 0 = .ok (.aload_n 0, 1) := by decide +kernel
theorem dX6_wouldRepeat_1 : decode cX6_wouldRepeat 1 = .ok (.iconst 0, 1) := by decide +kernel
theorem dX6_wouldRepeat_2 : decode cX6_wouldRepeat 2 = .ok (.putfield 41, 3) := by decide +kernel
theorem dX6_wouldRepeat_5 : decode cX6_wouldRepeat 5 = .ok (.aload_n 0, 1) := by decide +kernel
theorem dX6_wouldRepeat_6 : decode cX6_wouldRepeat 6 = .ok (.invokevirtual 152, 3) := by decide +kernel
theorem dX6_wouldRepeat_9 : decode cX6_wouldRepeat 9 = .ok (.ifCond .ne 5, 3) := by decide +kernel
theorem dX6_wouldRepeat_12 : decode cX6_wouldRepeat 12 = .ok (.iconst (-1), 1) := by decide +kernel
theorem dX6_wouldRepeat_13 : decode cX6_wouldRepeat 13 = .ok (.ireturn, 1) := by decide +kernel
theorem dX6_wouldRepeat_14 : decode cX6_wouldRepeat 14 = .ok (.aload_n 0, 1) := by decide +kernel
theorem dX6_wouldRepeat_15 : decode cX6_wouldRepeat 15 = .ok (.invokevirtual 174, 3) := by decide +kernel
theorem dX6_wouldRepeat_18 : decode cX6_wouldRepeat 18 = .ok (.aload_n 0, 1) := by decide +kernel
theorem dX6_wouldRepeat_19 : decode cX6_wouldRepeat 19 = .ok (.invokevirtual 159, 3) := by decide +kernel
theorem dX6_wouldRepeat_22 : decode cX6_wouldRepeat 22 = .ok (.aload_n 0, 1) := by decide +kernel
theorem dX6_wouldRepeat_23 : decode cX6_wouldRepeat 23 = .ok (.aload_n 0, 1) := by decide +kernel
theorem dX6_wouldRepeat_24 : decode cX6_wouldRepeat 24 = .ok (.getfield 16, 3) := by decide +kernel
theorem dX6_wouldRepeat_27 : decode cX6_wouldRepeat 27 = .ok (.invokevirtual 88, 3) := by decide +kernel
theorem dX6_wouldRepeat_30 : decode cX6_wouldRepeat 30 = .ok (.pop, 1) := by decide +kernel
theorem dX6_wouldRepeat_31 : decode cX6_wouldRepeat 31 = .ok (.aload_n 0, 1) := by decide +kernel
theorem dX6_wouldRepeat_32 : decode cX6_wouldRepeat 32 = .ok (.aload_n 0, 1) := by decide +kernel
theorem dX6_wouldRepeat_33 : decode cX6_wouldRepeat 33 = .ok (.getfield 16, 3) := by decide +kernel
theorem dX6_wouldRepeat_36 : decode cX6_wouldRepeat 36 = .ok (.invokevirtual 92, 3) := by decide +kernel
theorem dX6_wouldRepeat_39 : decode cX6_wouldRepeat 39 = .ok (.ireturn, 1) := by decide +kernel
set_option maxRecDepth 20000 in
theorem ggX6_bestSingers_X6_canSing : GoodIn wsX6_bestSingers wsX6_canSing := goodIn_r _ [7, 8, 9, 10, 11, 6, 12, 13, 14, 15, 16, 17, 18, 67, 68, 69, 70, 71, 72, 73, 74, 75, 76, 77, 78, 79, 80] (by decide +kernel) (by decide +kernel)
set_option maxRecDepth 20000 in
theorem gX6_bestSingers_X6_canSing : GoodIn wsX6_bestSingers (wsV RX6 152 RX6 yX6_canSing wsX6_canSing) := goodIn_app (goodIn_of _ (by decide +kernel)) ggX6_bestSingers_X6_canSing
set_option maxRecDepth 20000 in
theorem ggX6_bestSingers_X6_begin : GoodIn wsX6_bestSingers wsX6_begin := goodIn_r _ [22, 23, 2, 24, 25, 6, 26, 67, 68, 69, 70, 71, 72, 73, 74, 75, 76, 77, 78, 79, 80] (by decide +kernel) (by decide +kernel)
set_option maxRecDepth 20000 in
theorem gX6_bestSingers_X6_begin : GoodIn wsX6_bestSingers (wsV RX6 174 RX6 yX6_begin wsX6_begin) := goodIn_app (goodIn_of _ (by decide +kernel)) ggX6_bestSingers_X6_begin
set_option maxRecDepth 20000 in
theorem ggX6_bestSingers_X6_takeText : GoodIn wsX6_bestSingers wsX6_takeText := goodIn_r _ [30, 8, 31, 13, 32, 24, 25, 6, 26, 67, 68, 69, 70, 71, 72, 73, 74, 75, 76, 77, 78, 79, 80] (by decide +kernel) (by decide +kernel)
set_option maxRecDepth 20000 in
theorem gX6_bestSingers_X6_takeText : GoodIn wsX6_bestSingers (wsV RX6 159 RX6 yX6_takeText wsX6_takeText) := goodIn_app (goodIn_of _ (by decide +kernel)) ggX6_bestSingers_X6_takeText
set_option maxRecDepth 20000 in
theorem ggX6_bestSingers_X6_singIn : GoodIn wsX6_bestSingers wsX6_singIn := goodIn_r _ [36, 32, 31, 37, 38, 39, 6, 40, 41, 42, 43, 44, 45, 46, 47, 48, 49, 50, 51, 52, 53, 54, 55, 56, 57, 58, 59, 24, 25, 26, 60, 61, 62, 63, 64, 65, 66, 67, 68, 69, 70, 71, 72, 73, 74, 75, 76, 77, 78, 79, 80] (by decide +kernel) (by decide +kernel)
set_option maxRecDepth 20000 in
theorem gX6_bestSingers_X6_singIn : GoodIn wsX6_bestSingers (wsV RX6 88 RX6 yX6_singIn wsX6_singIn) := goodIn_app (goodIn_of _ (by decide +kernel)) ggX6_bestSingers_X6_singIn
theorem dX6_bestSingers_0 : decode cX6_bestSingers 0 = .ok (.aload_n 0, 1) := by decide +kernel
theorem dX6_bestSingers_1 : decode cX6_bestSingers 1 = .ok (.iconst 0, 1) := by decide +kernel
theorem dX6_bestSingers_2 : decode cX6_bestSingers 2 = .ok (.putfield 41, 3) := by decide +kernel
theorem dX6_bestSingers_5 : decode cX6_bestSingers 5 = .ok (.iconst (-1), 1) := by decide +kernel
theorem dX6_bestSingers_6 : decode cX6_bestSingers 6 = .ok (.istore_n 1, 1) := by decide +kernel
theorem dX6_bestSingers_7 : decode cX6_bestSingers 7 = .ok (.iconst 0, 1) := by decide +kernel
theorem dX6_bestSingers_8 : decode cX6_bestSingers 8 = .ok (.istore_n 2, 1) := by decide +kernel
theorem dX6_bestSingers_9 : decode cX6_bestSingers 9 = .ok (.iconst 1, 1) := by decide +kernel
theorem dX6_bestSingers_10 : decode cX6_bestSingers 10 = .ok (.istore_n 3, 1) := by decide +kernel
theorem dX6_bestSingers_11 : decode cX6_bestSingers 11 = .ok (.iload_n 3, 1) := by decide +kernel
theorem dX6_bestSingers_12 : decode cX6_bestSingers 12 = .ok (.bipush 8, 2) := by decide +kernel
theorem dX6_bestSingers_14 : decode cX6_bestSingers 14 = .ok (.if_icmp .gt 57, 3) := by decide +kernel
theorem dX6_bestSingers_17 : decode cX6_bestSingers 17 = .ok (.aload_n 0, 1) := by decide +kernel
theorem dX6_bestSingers_18 : decode cX6_bestSingers 18 = .ok (.invokevirtual 152, 3) := by decide +kernel
theorem dX6_bestSingers_21 : decode cX6_bestSingers 21 = .ok (.ifCond .eq 50, 3) := by decide +kernel
theorem dX6_bestSingers_24 : decode cX6_bestSingers 24 = .ok (.aload_n 0, 1) := by decide +kernel
theorem dX6_bestSingers_25 : decode cX6_bestSingers 25 = .ok (.invokevirtual 174, 3) := by decide +kernel
theorem dX6_bestSingers_28 : decode cX6_bestSingers 28 = .ok (.aload_n 0, 1) := by decide +kernel
theorem dX6_bestSingers_29 : decode cX6_bestSingers 29 = .ok (.getfield 16, 3) := by decide +kernel
theorem dX6_bestSingers_32 : decode cX6_bestSingers 32 = .ok (.iconst 2, 1) := by decide +kernel
theorem dX6_bestSingers_33 : decode cX6_bestSingers 33 = .ok (.iload_n 3, 1) := by decide +kernel
theorem dX6_bestSingers_34 : decode cX6_bestSingers 34 = .ok (.iastore, 1) := by decide +kernel
theorem dX6_bestSingers_35 : decode cX6_bestSingers 35 = .ok (.aload_n 0, 1) := by decide +kernel
theorem dX6_bestSingers_36 : decode cX6_bestSingers 36 = .ok (.invokevirtual 159, 3) := by decide +kernel
theorem dX6_bestSingers_39 : decode cX6_bestSingers 39 = .ok (.aload_n 0, 1) := by decide +kernel
theorem dX6_bestSingers_40 : decode cX6_bestSingers 40 = .ok (.aload_n 0, 1) := by decide +kernel
theorem dX6_bestSingers_41 : decode cX6_bestSingers 41 = .ok (.getfield 16, 3) := by decide +kernel
theorem dX6_bestSingers_44 : decode cX6_bestSingers 44 = .ok (.invokevirtual 88, 3) := by decide +kernel
theorem dX6_bestSingers_47 : decode cX6_bestSingers 47 = .ok (.istore 4, 2) := by decide +kernel
theorem dX6_bestSingers_49 : decode cX6_bestSingers 49 = .ok (.iload_n 1, 1) := by decide +kernel
theorem dX6_bestSingers_50 : decode cX6_bestSingers 50 = .ok (.iconst (-1), 1) := by decide +kernel
theorem dX6_bestSingers_51 : decode cX6_bestSingers 51 = .ok (.if_icmp .eq 9, 3) := by decide +kernel
theorem dX6_bestSingers_54 : decode cX6_bestSingers 54 = .ok (.iload 4, 2) := by decide +kernel
theorem dX6_bestSingers_56 : decode cX6_bestSingers 56 = .ok (.iload_n 2, 1) := by decide +kernel
theorem dX6_bestSingers_57 : decode cX6_bestSingers 57 = .ok (.if_icmp .gt 8, 3) := by decide +kernel
theorem dX6_bestSingers_60 : decode cX6_bestSingers 60 = .ok (.iload_n 3, 1) := by decide +kernel
theorem dX6_bestSingers_61 : decode cX6_bestSingers 61 = .ok (.istore_n 1, 1) := by decide +kernel
theorem dX6_bestSingers_62 : decode cX6_bestSingers 62 = .ok (.iload 4, 2) := by decide +kernel
theorem dX6_bestSingers_64 : decode cX6_bestSingers 64 = .ok (.istore_n 2, 1) := by decide +kernel
theorem dX6_bestSingers_65 : decode cX6_bestSingers 65 = .ok (.iinc 3 1, 3) := by decide +kernel
theorem dX6_bestSingers_68 : decode cX6_bestSingers 68 = .ok (.goto (-57), 3) := by decide +kernel
theorem dX6_bestSingers_71 : decode cX6_bestSingers 71 = .ok (.iload_n 1, 1) := by decide +kernel
theorem dX6_bestSingers_72 : decode cX6_bestSingers 72 = .ok (.ireturn, 1) := by decide +kernel
set_option maxRecDepth 20000 in
theorem ggX6_bestAgain_X6_begin : GoodIn wsX6_bestAgain wsX6_begin := goodIn_r _ [8, 2, 3, 9, 10, 7, 11, 59, 60, 61, 62, 63, 64, 65, 66, 67, 68, 69, 70, 71, 72] (by decide +kernel) (by decide +kernel)
set_option maxRecDepth 20000 in
theorem gX6_bestAgain_X6_begin : GoodIn wsX6_bestAgain (wsV RX6 174 RX6 yX6_begin wsX6_begin) := goodIn_app (goodIn_of _ (by decide +kernel)) ggX6_bestAgain_X6_begin
set_option maxRecDepth 20000 in
theorem ggX6_bestAgain_X6_againIn : GoodIn wsX6_bestAgain wsX6_againIn := goodIn_r _ [15, 16, 17, 18, 19, 7, 20, 9, 10, 11, 21, 22, 23, 24, 25, 26, 27, 28, 29, 30, 31, 32, 33, 34, 35, 36, 37, 38, 39, 40, 41, 42, 43, 44, 45, 46, 47, 48, 49, 50, 51, 52, 53, 54, 59, 60, 61, 62, 63, 64, 65, 66, 67, 68, 69, 70, 71, 72] (by decide +kernel) (by decide +kernel)
set_option maxRecDepth 20000 in
theorem gX6_bestAgain_X6_againIn : GoodIn wsX6_bestAgain (wsV RX6 162 RX6 yX6_againIn wsX6_againIn) := goodIn_app (goodIn_of _ (by decide +kernel)) ggX6_bestAgain_X6_againIn
set_option maxRecDepth 20000 in
theorem ggX6_bestAgain_X6_pieces : GoodIn wsX6_bestAgain wsX6_pieces := goodIn_r _ [58, 35, 31, 32, 33, 7, 34, 30, 36, 37, 38, 39, 40, 41, 59, 60, 61, 62, 63, 64, 65, 66, 67, 68, 69, 70, 71, 72] (by decide +kernel) (by decide +kernel)
set_option maxRecDepth 20000 in
theorem gX6_bestAgain_X6_pieces : GoodIn wsX6_bestAgain (wsV RX6 124 RX6 yX6_pieces wsX6_pieces) := goodIn_app (goodIn_of _ (by decide +kernel)) ggX6_bestAgain_X6_pieces
theorem dX6_bestAgain_0 : decode cX6_bestAgain 0 = .ok (.aload_n 0, 1) := by decide +kernel
theorem dX6_bestAgain_1 : decode cX6_bestAgain 1 = .ok (.iconst 0, 1) := by decide +kernel
theorem dX6_bestAgain_2 : decode cX6_bestAgain 2 = .ok (.putfield 41, 3) := by decide +kernel
theorem dX6_bestAgain_5 : decode cX6_bestAgain 5 = .ok (.iconst (-1), 1) := by decide +kernel
theorem dX6_bestAgain_6 : decode cX6_bestAgain 6 = .ok (.istore_n 1, 1) := by decide +kernel
theorem dX6_bestAgain_7 : decode cX6_bestAgain 7 = .ok (.iconst 0, 1) := by decide +kernel
theorem dX6_bestAgain_8 : decode cX6_bestAgain 8 = .ok (.istore_n 2, 1) := by decide +kernel
theorem dX6_bestAgain_9 : decode cX6_bestAgain 9 = .ok (.iconst 0, 1) := by decide +kernel
theorem dX6_bestAgain_10 : decode cX6_bestAgain 10 = .ok (.istore_n 3, 1) := by decide +kernel
theorem dX6_bestAgain_11 : decode cX6_bestAgain 11 = .ok (.iload_n 3, 1) := by decide +kernel
theorem dX6_bestAgain_12 : decode cX6_bestAgain 12 = .ok (.aload_n 0, 1) := by decide +kernel
theorem dX6_bestAgain_13 : decode cX6_bestAgain 13 = .ok (.getfield 13, 3) := by decide +kernel
theorem dX6_bestAgain_16 : decode cX6_bestAgain 16 = .ok (.iconst 1, 1) := by decide +kernel
theorem dX6_bestAgain_17 : decode cX6_bestAgain 17 = .ok (.iaload, 1) := by decide +kernel
theorem dX6_bestAgain_18 : decode cX6_bestAgain 18 = .ok (.if_icmp .ge 49, 3) := by decide +kernel
theorem dX6_bestAgain_21 : decode cX6_bestAgain 21 = .ok (.aload_n 0, 1) := by decide +kernel
theorem dX6_bestAgain_22 : decode cX6_bestAgain 22 = .ok (.invokevirtual 174, 3) := by decide +kernel
theorem dX6_bestAgain_25 : decode cX6_bestAgain 25 = .ok (.aload_n 0, 1) := by decide +kernel
theorem dX6_bestAgain_26 : decode cX6_bestAgain 26 = .ok (.aload_n 0, 1) := by decide +kernel
theorem dX6_bestAgain_27 : decode cX6_bestAgain 27 = .ok (.getfield 16, 3) := by decide +kernel
theorem dX6_bestAgain_30 : decode cX6_bestAgain 30 = .ok (.iload_n 3, 1) := by decide +kernel
theorem dX6_bestAgain_31 : decode cX6_bestAgain 31 = .ok (.invokevirtual 162, 3) := by decide +kernel
theorem dX6_bestAgain_34 : decode cX6_bestAgain 34 = .ok (.pop, 1) := by decide +kernel
theorem dX6_bestAgain_35 : decode cX6_bestAgain 35 = .ok (.aload_n 0, 1) := by decide +kernel
theorem dX6_bestAgain_36 : decode cX6_bestAgain 36 = .ok (.aload_n 0, 1) := by decide +kernel
theorem dX6_bestAgain_37 : decode cX6_bestAgain 37 = .ok (.getfield 16, 3) := by decide +kernel
theorem dX6_bestAgain_40 : decode cX6_bestAgain 40 = .ok (.invokevirtual 124, 3) := by decide +kernel
theorem dX6_bestAgain_43 : decode cX6_bestAgain 43 = .ok (.istore 4, 2) := by decide +kernel
theorem dX6_bestAgain_45 : decode cX6_bestAgain 45 = .ok (.iload_n 1, 1) := by decide +kernel
theorem dX6_bestAgain_46 : decode cX6_bestAgain 46 = .ok (.iconst (-1), 1) := by decide +kernel
theorem dX6_bestAgain_47 : decode cX6_bestAgain 47 = .ok (.if_icmp .eq 9, 3) := by decide +kernel
theorem dX6_bestAgain_50 : decode cX6_bestAgain 50 = .ok (.iload 4, 2) := by decide +kernel
theorem dX6_bestAgain_52 : decode cX6_bestAgain 52 = .ok (.iload_n 2, 1) := by decide +kernel
theorem dX6_bestAgain_53 : decode cX6_bestAgain 53 = .ok (.if_icmp .le 8, 3) := by decide +kernel
theorem dX6_bestAgain_56 : decode cX6_bestAgain 56 = .ok (.iload_n 3, 1) := by decide +kernel
theorem dX6_bestAgain_57 : decode cX6_bestAgain 57 = .ok (.istore_n 1, 1) := by decide +kernel
theorem dX6_bestAgain_58 : decode cX6_bestAgain 58 = .ok (.iload 4, 2) := by decide +kernel
theorem dX6_bestAgain_60 : decode cX6_bestAgain 60 = .ok (.istore_n 2, 1) := by decide +kernel
theorem dX6_bestAgain_61 : decode cX6_bestAgain 61 = .ok (.iinc 3 1, 3) := by decide +kernel
theorem dX6_bestAgain_64 : decode cX6_bestAgain 64 = .ok (.goto (-53), 3) := by decide +kernel
theorem dX6_bestAgain_67 : decode cX6_bestAgain 67 = .ok (.iload_n 1, 1) := by decide +kernel
theorem dX6_bestAgain_68 : decode cX6_bestAgain 68 = .ok (.ireturn, 1) := by decide +kernel
theorem dX6_takeDigits_0 : decode cX6_takeDigits 0 = .ok (.aload_n 0, 1) := by decide +kernel
theorem dX6_takeDigits_1 : decode cX6_takeDigits 1 = .ok (.iconst 0, 1) := by decide +kernel
theorem dX6_takeDigits_2 : decode cX6_takeDigits 2 = .ok (.putfield 76, 3) := by decide +kernel
theorem dX6_takeDigits_5 : decode cX6_takeDigits 5 = .ok (.iload_n 1, 1) := by decide +kernel
theorem dX6_takeDigits_6 : decode cX6_takeDigits 6 = .ok (.sipush 999, 3) := by decide +kernel
theorem dX6_takeDigits_9 : decode cX6_takeDigits 9 = .ok (.if_icmp .le 7, 3) := by decide +kernel
theorem dX6_takeDigits_12 : decode cX6_takeDigits 12 = .ok (.iconst 1, 1) := by decide +kernel
theorem dX6_takeDigits_13 : decode cX6_takeDigits 13 = .ok (.goto 4, 3) := by decide +kernel
theorem dX6_takeDigits_16 : decode cX6_takeDigits 16 = .ok (.iconst 0, 1) := by decide +kernel
theorem dX6_takeDigits_17 : decode cX6_takeDigits 17 = .ok (.istore_n 2, 1) := by decide +kernel
theorem dX6_takeDigits_18 : decode cX6_takeDigits 18 = .ok (.iconst 0, 1) := by decide +kernel
theorem dX6_takeDigits_19 : decode cX6_takeDigits 19 = .ok (.istore_n 3, 1) := by decide +kernel
theorem dX6_takeDigits_20 : decode cX6_takeDigits 20 = .ok (.iload_n 1, 1) := by decide +kernel
theorem dX6_takeDigits_21 : decode cX6_takeDigits 21 = .ok (.istore 4, 2) := by decide +kernel
theorem dX6_takeDigits_23 : decode cX6_takeDigits 23 = .ok (.sipush 1000, 3) := by decide +kernel
theorem dX6_takeDigits_26 : decode cX6_takeDigits 26 = .ok (.istore 5, 2) := by decide +kernel
theorem dX6_takeDigits_28 : decode cX6_takeDigits 28 = .ok (.iconst 0, 1) := by decide +kernel
theorem dX6_takeDigits_29 : decode cX6_takeDigits 29 = .ok (.istore 6, 2) := by decide +kernel
theorem dX6_takeDigits_31 : decode cX6_takeDigits 31 = .ok (.iload 6, 2) := by decide +kernel
theorem dX6_takeDigits_33 : decode cX6_takeDigits 33 = .ok (.iconst 4, 1) := by decide +kernel
theorem dX6_takeDigits_34 : decode cX6_takeDigits 34 = .ok (.if_icmp .ge 97, 3) := by decide +kernel
theorem dX6_takeDigits_37 : decode cX6_takeDigits 37 = .ok (.iload 4, 2) := by decide +kernel
theorem dX6_takeDigits_39 : decode cX6_takeDigits 39 = .ok (.iload 5, 2) := by decide +kernel
theorem dX6_takeDigits_41 : decode cX6_takeDigits 41 = .ok (.idiv, 1) := by decide +kernel
theorem dX6_takeDigits_42 : decode cX6_takeDigits 42 = .ok (.bipush 10, 2) := by decide +kernel
theorem dX6_takeDigits_44 : decode cX6_takeDigits 44 = .ok (.irem, 1) := by decide +kernel
theorem dX6_takeDigits_45 : decode cX6_takeDigits 45 = .ok (.istore 7, 2) := by decide +kernel
theorem dX6_takeDigits_47 : decode cX6_takeDigits 47 = .ok (.iload_n 3, 1) := by decide +kernel
theorem dX6_takeDigits_48 : decode cX6_takeDigits 48 = .ok (.ifCond .ne 8, 3) := by decide +kernel
theorem dX6_takeDigits_51 : decode cX6_takeDigits 51 = .ok (.iload 7, 2) := by decide +kernel
theorem dX6_takeDigits_53 : decode cX6_takeDigits 53 = .ok (.ifCond .ne 7, 3) := by decide +kernel
theorem dX6_takeDigits_56 : decode cX6_takeDigits 56 = .ok (.iconst 1, 1) := by decide +kernel
theorem dX6_takeDigits_57 : decode cX6_takeDigits 57 = .ok (.goto 4, 3) := by decide +kernel
theorem dX6_takeDigits_60 : decode cX6_takeDigits 60 = .ok (.iconst 0, 1) := by decide +kernel
theorem dX6_takeDigits_61 : decode cX6_takeDigits 61 = .ok (.istore_n 3, 1) := by decide +kernel
theorem dX6_takeDigits_62 : decode cX6_takeDigits 62 = .ok (.iload_n 2, 1) := by decide +kernel
theorem dX6_takeDigits_63 : decode cX6_takeDigits 63 = .ok (.ifCond .eq 23, 3) := by decide +kernel
theorem dX6_takeDigits_66 : decode cX6_takeDigits 66 = .ok (.iload 7, 2) := by decide +kernel
theorem dX6_takeDigits_68 : decode cX6_takeDigits 68 = .ok (.bipush 9, 2) := by decide +kernel
theorem dX6_takeDigits_70 : decode cX6_takeDigits 70 = .ok (.if_icmp .ge 16, 3) := by decide +kernel
theorem dX6_takeDigits_73 : decode cX6_takeDigits 73 = .ok (.iload_n 3, 1) := by decide +kernel
theorem dX6_takeDigits_74 : decode cX6_takeDigits 74 = .ok (.ifCond .eq 8, 3) := by decide +kernel
theorem dX6_takeDigits_77 : decode cX6_takeDigits 77 = .ok (.iload 7, 2) := by decide +kernel
theorem dX6_takeDigits_79 : decode cX6_takeDigits 79 = .ok (.ifCond .ne 7, 3) := by decide +kernel
theorem dX6_takeDigits_82 : decode cX6_takeDigits 82 = .ok (.iconst 1, 1) := by decide +kernel
theorem dX6_takeDigits_83 : decode cX6_takeDigits 83 = .ok (.goto 4, 3) := by decide +kernel
theorem dX6_takeDigits_86 : decode cX6_takeDigits 86 = .ok (.iconst 0, 1) := by decide +kernel
theorem dX6_takeDigits_87 : decode cX6_takeDigits 87 = .ok (.istore_n 2, 1) := by decide +kernel
theorem dX6_takeDigits_88 : decode cX6_takeDigits 88 = .ok (.iload_n 3, 1) := by decide +kernel
theorem dX6_takeDigits_89 : decode cX6_takeDigits 89 = .ok (.ifCond .ne 29, 3) := by decide +kernel
theorem dX6_takeDigits_92 : decode cX6_takeDigits 92 = .ok (.aload_n 0, 1) := by decide +kernel
theorem dX6_takeDigits_93 : decode cX6_takeDigits 93 = .ok (.getfield 38, 3) := by decide +kernel
theorem dX6_takeDigits_96 : decode cX6_takeDigits 96 = .ok (.aload_n 0, 1) := by decide +kernel
theorem dX6_takeDigits_97 : decode cX6_takeDigits 97 = .ok (.getfield 76, 3) := by decide +kernel
theorem dX6_takeDigits_100 : decode cX6_takeDigits 100 = .ok (.bipush 97, 2) := by decide +kernel
theorem dX6_takeDigits_102 : decode cX6_takeDigits 102 = .ok (.iload 7, 2) := by decide +kernel
theorem dX6_takeDigits_104 : decode cX6_takeDigits 104 = .ok (.iadd, 1) := by decide +kernel
theorem dX6_takeDigits_105 : decode cX6_takeDigits 105 = .ok (.iconst 1, 1) := by decide +kernel
theorem dX6_takeDigits_106 : decode cX6_takeDigits 106 = .ok (.isub, 1) := by decide +kernel
theorem dX6_takeDigits_107 : decode cX6_takeDigits 107 = .ok (.iastore, 1) := by decide +kernel
theorem dX6_takeDigits_108 : decode cX6_takeDigits 108 = .ok (.aload_n 0, 1) := by decide +kernel
theorem dX6_takeDigits_109 : decode cX6_takeDigits 109 = .ok (.dup, 1) := by decide +kernel
theorem dX6_takeDigits_110 : decode cX6_takeDigits 110 = .ok (.getfield 76, 3) := by decide +kernel
theorem dX6_takeDigits_113 : decode cX6_takeDigits 113 = .ok (.iconst 1, 1) := by decide +kernel
theorem dX6_takeDigits_114 : decode cX6_takeDigits 114 = .ok (.iadd, 1) := by decide +kernel
theorem dX6_takeDigits_115 : decode cX6_takeDigits 115 = .ok (.putfield 76, 3) := by decide +kernel
theorem dX6_takeDigits_118 : decode cX6_takeDigits 118 = .ok (.iload 5, 2) := by decide +kernel
theorem dX6_takeDigits_120 : decode cX6_takeDigits 120 = .ok (.bipush 10, 2) := by decide +kernel
theorem dX6_takeDigits_122 : decode cX6_takeDigits 122 = .ok (.idiv, 1) := by decide +kernel
theorem dX6_takeDigits_123 : decode cX6_takeDigits 123 = .ok (.istore 5, 2) := by decide +kernel
theorem dX6_takeDigits_125 : decode cX6_takeDigits 125 = .ok (.iinc 6 1, 3) := by decide +kernel
theorem dX6_takeDigits_128 : decode cX6_takeDigits 128 = .ok (.goto (-97), 3) := by decide +kernel
theorem dX6_takeDigits_131 : decode cX6_takeDigits 131 = .ok (.iload_n 2, 1) := by decide +kernel
theorem dX6_takeDigits_132 : decode cX6_takeDigits 132 = .ok (.ireturn, 1) := by decide +kernel
set_option maxRecDepth 20000 in
theorem ggX6_does_X6_againIn : GoodIn wsX6_does wsX6_againIn := goodIn_r _ [7, 8, 9, 10, 11, 6, 12, 13, 14, 15, 16, 17, 18, 19, 20, 21, 22, 23, 24, 25, 26, 27, 28, 29, 30, 31, 32, 33, 34, 35, 36, 37, 38, 39, 40, 41, 42, 43, 44, 45, 46, 47, 48, 49, 83, 84, 85, 86, 87, 88, 89, 90, 91, 92, 93, 94, 95, 96] (by decide +kernel) (by decide +kernel)
set_option maxRecDepth 20000 in
theorem gX6_does_X6_againIn : GoodIn wsX6_does (wsV RX6 162 RX6 yX6_againIn wsX6_againIn) := goodIn_app (goodIn_of _ (by decide +kernel)) ggX6_does_X6_againIn
set_option maxRecDepth 20000 in
theorem ggX6_does_X6_forgetIn : GoodIn wsX6_does wsX6_forgetIn := goodIn_r _ [53, 20, 21, 22, 6, 23, 24, 25, 26, 27, 28, 29, 30, 31, 32, 33, 34, 35, 36, 37, 38, 39, 40, 41, 42, 43, 44, 45, 13, 14, 15, 46, 47, 48, 49, 83, 84, 85, 86, 87, 88, 89, 90, 91, 92, 93, 94, 95, 96] (by decide +kernel) (by decide +kernel)
set_option maxRecDepth 20000 in
theorem gX6_does_X6_forgetIn : GoodIn wsX6_does (wsV RX6 165 RX6 yX6_forgetIn wsX6_forgetIn) := goodIn_app (goodIn_of _ (by decide +kernel)) ggX6_does_X6_forgetIn
set_option maxRecDepth 20000 in
theorem ggX6_does_X6_isChoir : GoodIn wsX6_does wsX6_isChoir := goodIn_r _ [56, 57, 58, 59, 6, 60] (by decide +kernel) (by decide +kernel)
set_option maxRecDepth 20000 in
theorem gX6_does_X6_isChoir : GoodIn wsX6_does (va_wsS RX6 168 yX6_isChoir wsX6_isChoir) := goodIn_app (goodIn_of _ (by decide +kernel)) ggX6_does_X6_isChoir
set_option maxRecDepth 20000 in
theorem ggX6_does_X6_setSingersIn : GoodIn wsX6_does wsX6_setSingersIn := goodIn_r _ [64, 20, 21, 22, 6, 23, 24, 25, 26, 27, 28, 29, 30, 31, 32, 33, 34, 35, 36, 37, 38, 39, 40, 41, 42, 46, 47, 48, 49, 83, 84, 85, 86, 87, 88, 89, 90, 91, 92, 93, 94, 95, 96] (by decide +kernel) (by decide +kernel)
set_option maxRecDepth 20000 in
theorem gX6_does_X6_setSingersIn : GoodIn wsX6_does (wsV RX6 171 RX6 yX6_setSingersIn wsX6_setSingersIn) := goodIn_app (goodIn_of _ (by decide +kernel)) ggX6_does_X6_setSingersIn
set_option maxRecDepth 20000 in
theorem ggX6_does_X6_takeDigits : GoodIn wsX6_does wsX6_takeDigits := goodIn_r _ [68, 8, 9, 83, 84, 85, 86, 87, 88, 89, 90, 91, 92, 93, 94, 95, 96] (by decide +kernel) (by decide +kernel)
set_option maxRecDepth 20000 in
theorem gX6_does_X6_takeDigits : GoodIn wsX6_does (wsV RX6 177 RX6 yX6_takeDigits wsX6_takeDigits) := goodIn_app (goodIn_of _ (by decide +kernel)) ggX6_does_X6_takeDigits
set_option maxRecDepth 20000 in
theorem ggX6_does_X6_singIn : GoodIn wsX6_does wsX6_singIn := goodIn_r _ [19, 9, 8, 20, 21, 22, 6, 23, 24, 25, 26, 27, 28, 29, 30, 31, 32, 33, 34, 35, 36, 37, 38, 39, 40, 41, 42, 13, 14, 15, 43, 44, 45, 46, 47, 48, 49, 83, 84, 85, 86, 87, 88, 89, 90, 91, 92, 93, 94, 95, 96] (by decide +kernel) (by decide +kernel)
set_option maxRecDepth 20000 in
theorem gX6_does_X6_singIn : GoodIn wsX6_does (wsV RX6 88 RX6 yX6_singIn wsX6_singIn) := goodIn_app (goodIn_of _ (by decide +kernel)) ggX6_does_X6_singIn
set_option maxRecDepth 20000 in
theorem ggX6_does_X6_longest : GoodIn wsX6_does wsX6_longest := goodIn_r _ [72, 30, 26, 27, 28, 6, 29, 25, 31, 32, 33, 34, 35, 36, 83, 84, 85, 86, 87, 88, 89, 90, 91, 92, 93, 94, 95, 96] (by decide +kernel) (by decide +kernel)
set_option maxRecDepth 20000 in
theorem gX6_does_X6_longest : GoodIn wsX6_does (wsV RX6 92 RX6 yX6_longest wsX6_longest) := goodIn_app (goodIn_of _ (by decide +kernel)) ggX6_does_X6_longest
set_option maxRecDepth 20000 in
theorem ggX6_does_X6_pieces : GoodIn wsX6_does wsX6_pieces := goodIn_r _ [76, 30, 26, 27, 28, 6, 29, 25, 31, 32, 33, 34, 35, 36, 83, 84, 85, 86, 87, 88, 89, 90, 91, 92, 93, 94, 95, 96] (by decide +kernel) (by decide +kernel)
set_option maxRecDepth 20000 in
theorem gX6_does_X6_pieces : GoodIn wsX6_does (wsV RX6 124 RX6 yX6_pieces wsX6_pieces) := goodIn_app (goodIn_of _ (by decide +kernel)) ggX6_does_X6_pieces
set_option maxRecDepth 20000 in
theorem ggX6_does_X6_in : GoodIn wsX6_does wsX6_in := goodIn_r _ [60] (by decide +kernel) (by decide +kernel)
set_option maxRecDepth 20000 in
theorem gX6_does_X6_in : GoodIn wsX6_does (va_wsS RX6 103 yX6_in wsX6_in) := goodIn_app (goodIn_of _ (by decide +kernel)) ggX6_does_X6_in
set_option maxRecDepth 20000 in
theorem ggX6_does_X6_mostTimes : GoodIn wsX6_does wsX6_mostTimes := goodIn_r _ [79, 80, 81, 6, 82, 34, 35, 36] (by decide +kernel) (by decide +kernel)
set_option maxRecDepth 20000 in
theorem gX6_does_X6_mostTimes : GoodIn wsX6_does (va_wsS RX6 149 yX6_mostTimes wsX6_mostTimes) := goodIn_app (goodIn_of _ (by decide +kernel)) ggX6_does_X6_mostTimes
theorem dX6_does_0 : decode cX6_does 0 = .ok (.iload_n 1, 1) := by decide +kernel
theorem dX6_does_1 : decode cX6_does 1 = .ok (.sipush 10000, 3) := by decide +kernel
theorem dX6_does_4 : decode cX6_does 4 = .ok (.idiv, 1) := by decide +kernel
theorem dX6_does_5 : decode cX6_does 5 = .ok (.istore_n 2, 1) := by decide +kernel
theorem dX6_does_6 : decode cX6_does 6 = .ok (.iload_n 1, 1) := by decide +kernel
theorem dX6_does_7 : decode cX6_does 7 = .ok (.bipush 100, 2) := by decide +kernel
theorem dX6_does_9 : decode cX6_does 9 = .ok (.idiv, 1) := by decide +kernel
theorem dX6_does_10 : decode cX6_does 10 = .ok (.bipush 100, 2) := by decide +kernel
theorem dX6_does_12 : decode cX6_does 12 = .ok (.irem, 1) := by decide +kernel
theorem dX6_does_13 : decode cX6_does 13 = .ok (.istore_n 3, 1) := by decide +kernel
theorem dX6_does_14 : decode cX6_does 14 = .ok (.iload_n 1, 1) := by decide +kernel
theorem dX6_does_15 : decode cX6_does 15 = .ok (.bipush 100, 2) := by decide +kernel
theorem dX6_does_17 : decode cX6_does 17 = .ok (.irem, 1) := by decide +kernel
theorem dX6_does_18 : decode cX6_does 18 = .ok (.istore 4, 2) := by decide +kernel
theorem dX6_does_20 : decode cX6_does 20 = .ok (.iload_n 1, 1) := by decide +kernel
theorem dX6_does_21 : decode cX6_does 21 = .ok (.sipush 1000, 3) := by decide +kernel
theorem dX6_does_24 : decode cX6_does 24 = .ok (.irem, 1) := by decide +kernel
theorem dX6_does_25 : decode cX6_does 25 = .ok (.istore 5, 2) := by decide +kernel
theorem dX6_does_27 : decode cX6_does 27 = .ok (.iload_n 1, 1) := by decide +kernel
theorem dX6_does_28 : decode cX6_does 28 = .ok (.sipush 1000, 3) := by decide +kernel
theorem dX6_does_31 : decode cX6_does 31 = .ok (.idiv, 1) := by decide +kernel
theorem dX6_does_32 : decode cX6_does 32 = .ok (.bipush 10, 2) := by decide +kernel
theorem dX6_does_34 : decode cX6_does 34 = .ok (.irem, 1) := by decide +kernel
theorem dX6_does_35 : decode cX6_does 35 = .ok (.ifCond .ne 7, 3) := by decide +kernel
theorem dX6_does_38 : decode cX6_does 38 = .ok (.iconst 1, 1) := by decide +kernel
theorem dX6_does_39 : decode cX6_does 39 = .ok (.goto 4, 3) := by decide +kernel
theorem dX6_does_42 : decode cX6_does 42 = .ok (.iconst 0, 1) := by decide +kernel
theorem dX6_does_43 : decode cX6_does 43 = .ok (.istore 6, 2) := by decide +kernel
theorem dX6_does_45 : decode cX6_does 45 = .ok (.iload_n 2, 1) := by decide +kernel
theorem dX6_does_46 : decode cX6_does 46 = .ok (.tableswitch 295 1 9 #[50, 79, 109, 149, 174, 197, 221, 242, 273], 50) := by decide +kernel
theorem dX6_does_96 : decode cX6_does 96 = .ok (.iload_n 3, 1) := by decide +kernel
theorem dX6_does_97 : decode cX6_does 97 = .ok (.aload_n 0, 1) := by decide +kernel
theorem dX6_does_98 : decode cX6_does 98 = .ok (.getfield 16, 3) := by decide +kernel
theorem dX6_does_101 : decode cX6_does 101 = .ok (.iconst 1, 1) := by decide +kernel
theorem dX6_does_102 : decode cX6_does 102 = .ok (.iaload, 1) := by decide +kernel
theorem dX6_does_103 : decode cX6_does 103 = .ok (.if_icmp .ge 8, 3) := by decide +kernel
theorem dX6_does_106 : decode cX6_does 106 = .ok (.iload 4, 2) := by decide +kernel
theorem dX6_does_108 : decode cX6_does 108 = .ok (.ifCond .eq 5, 3) := by decide +kernel
theorem dX6_does_111 : decode cX6_does 111 = .ok (.iconst 0, 1) := by decide +kernel
theorem dX6_does_112 : decode cX6_does 112 = .ok (.ireturn, 1) := by decide +kernel
theorem dX6_does_113 : decode cX6_does 113 = .ok (.aload_n 0, 1) := by decide +kernel
theorem dX6_does_114 : decode cX6_does 114 = .ok (.aload_n 0, 1) := by decide +kernel
theorem dX6_does_115 : decode cX6_does 115 = .ok (.getfield 16, 3) := by decide +kernel
theorem dX6_does_118 : decode cX6_does 118 = .ok (.iload_n 3, 1) := by decide +kernel
theorem dX6_does_119 : decode cX6_does 119 = .ok (.invokevirtual 162, 3) := by decide +kernel
theorem dX6_does_122 : decode cX6_does 122 = .ok (.pop, 1) := by decide +kernel
theorem dX6_does_123 : decode cX6_does 123 = .ok (.iconst 1, 1) := by decide +kernel
theorem dX6_does_124 : decode cX6_does 124 = .ok (.ireturn, 1) := by decide +kernel
theorem dX6_does_125 : decode cX6_does 125 = .ok (.iload_n 1, 1) := by decide +kernel
theorem dX6_does_126 : decode cX6_does 126 = .ok (.sipush 10000, 3) := by decide +kernel
theorem dX6_does_129 : decode cX6_does 129 = .ok (.irem, 1) := by decide +kernel
theorem dX6_does_130 : decode cX6_does 130 = .ok (.ifCond .ne 12, 3) := by decide +kernel
theorem dX6_does_133 : decode cX6_does 133 = .ok (.aload_n 0, 1) := by decide +kernel
theorem dX6_does_134 : decode cX6_does 134 = .ok (.getfield 16, 3) := by decide +kernel
theorem dX6_does_137 : decode cX6_does 137 = .ok (.iconst 1, 1) := by decide +kernel
theorem dX6_does_138 : decode cX6_does 138 = .ok (.iaload, 1) := by decide +kernel
theorem dX6_does_139 : decode cX6_does 139 = .ok (.ifCond .ne 5, 3) := by decide +kernel
theorem dX6_does_142 : decode cX6_does 142 = .ok (.iconst 0, 1) := by decide +kernel
theorem dX6_does_143 : decode cX6_does 143 = .ok (.ireturn, 1) := by decide +kernel
theorem dX6_does_144 : decode cX6_does 144 = .ok (.aload_n 0, 1) := by decide +kernel
theorem dX6_does_145 : decode cX6_does 145 = .ok (.aload_n 0, 1) := by decide +kernel
theorem dX6_does_146 : decode cX6_does 146 = .ok (.getfield 16, 3) := by decide +kernel
theorem dX6_does_149 : decode cX6_does 149 = .ok (.invokevirtual 165, 3) := by decide +kernel
theorem dX6_does_152 : decode cX6_does 152 = .ok (.pop, 1) := by decide +kernel
theorem dX6_does_153 : decode cX6_does 153 = .ok (.iconst 1, 1) := by decide +kernel
theorem dX6_does_154 : decode cX6_does 154 = .ok (.ireturn, 1) := by decide +kernel
theorem dX6_does_155 : decode cX6_does 155 = .ok (.iload 5, 2) := by decide +kernel
theorem dX6_does_157 : decode cX6_does 157 = .ok (.ifCond .ne 17, 3) := by decide +kernel
theorem dX6_does_160 : decode cX6_does 160 = .ok (.iload_n 1, 1) := by decide +kernel
theorem dX6_does_161 : decode cX6_does 161 = .ok (.sipush 1000, 3) := by decide +kernel
theorem dX6_does_164 : decode cX6_does 164 = .ok (.idiv, 1) := by decide +kernel
theorem dX6_does_165 : decode cX6_does 165 = .ok (.bipush 10, 2) := by decide +kernel
theorem dX6_does_167 : decode cX6_does 167 = .ok (.irem, 1) := by decide +kernel
theorem dX6_does_168 : decode cX6_does 168 = .ok (.invokestatic 168, 3) := by decide +kernel
theorem dX6_does_171 : decode cX6_does 171 = .ok (.ifCond .ne 5, 3) := by decide +kernel
theorem dX6_does_174 : decode cX6_does 174 = .ok (.iconst 0, 1) := by decide +kernel
theorem dX6_does_175 : decode cX6_does 175 = .ok (.ireturn, 1) := by decide +kernel
theorem dX6_does_176 : decode cX6_does 176 = .ok (.aload_n 0, 1) := by decide +kernel
theorem dX6_does_177 : decode cX6_does 177 = .ok (.aload_n 0, 1) := by decide +kernel
theorem dX6_does_178 : decode cX6_does 178 = .ok (.getfield 16, 3) := by decide +kernel
theorem dX6_does_181 : decode cX6_does 181 = .ok (.iload_n 1, 1) := by decide +kernel
theorem dX6_does_182 : decode cX6_does 182 = .ok (.sipush 1000, 3) := by decide +kernel
theorem dX6_does_185 : decode cX6_does 185 = .ok (.idiv, 1) := by decide +kernel
theorem dX6_does_186 : decode cX6_does 186 = .ok (.bipush 10, 2) := by decide +kernel
theorem dX6_does_188 : decode cX6_does 188 = .ok (.irem, 1) := by decide +kernel
theorem dX6_does_189 : decode cX6_does 189 = .ok (.invokevirtual 171, 3) := by decide +kernel
theorem dX6_does_192 : decode cX6_does 192 = .ok (.pop, 1) := by decide +kernel
theorem dX6_does_193 : decode cX6_does 193 = .ok (.iconst 1, 1) := by decide +kernel
theorem dX6_does_194 : decode cX6_does 194 = .ok (.ireturn, 1) := by decide +kernel
theorem dX6_does_195 : decode cX6_does 195 = .ok (.aload_n 0, 1) := by decide +kernel
theorem dX6_does_196 : decode cX6_does 196 = .ok (.iload_n 1, 1) := by decide +kernel
theorem dX6_does_197 : decode cX6_does 197 = .ok (.sipush 10000, 3) := by decide +kernel
theorem dX6_does_200 : decode cX6_does 200 = .ok (.irem, 1) := by decide +kernel
theorem dX6_does_201 : decode cX6_does 201 = .ok (.invokevirtual 177, 3) := by decide +kernel
theorem dX6_does_204 : decode cX6_does 204 = .ok (.ifCond .ne 5, 3) := by decide +kernel
theorem dX6_does_207 : decode cX6_does 207 = .ok (.iconst 0, 1) := by decide +kernel
theorem dX6_does_208 : decode cX6_does 208 = .ok (.ireturn, 1) := by decide +kernel
theorem dX6_does_209 : decode cX6_does 209 = .ok (.aload_n 0, 1) := by decide +kernel
theorem dX6_does_210 : decode cX6_does 210 = .ok (.aload_n 0, 1) := by decide +kernel
theorem dX6_does_211 : decode cX6_does 211 = .ok (.getfield 16, 3) := by decide +kernel
theorem dX6_does_214 : decode cX6_does 214 = .ok (.invokevirtual 88, 3) := by decide +kernel
theorem dX6_does_217 : decode cX6_does 217 = .ok (.pop, 1) := by decide +kernel
theorem dX6_does_218 : decode cX6_does 218 = .ok (.iconst 1, 1) := by decide +kernel
theorem dX6_does_219 : decode cX6_does 219 = .ok (.ireturn, 1) := by decide +kernel
theorem dX6_does_220 : decode cX6_does 220 = .ok (.iload_n 3, 1) := by decide +kernel
theorem dX6_does_221 : decode cX6_does 221 = .ok (.ifCond .ne 20, 3) := by decide +kernel
theorem dX6_does_224 : decode cX6_does 224 = .ok (.aload_n 0, 1) := by decide +kernel
theorem dX6_does_225 : decode cX6_does 225 = .ok (.aload_n 0, 1) := by decide +kernel
theorem dX6_does_226 : decode cX6_does 226 = .ok (.getfield 16, 3) := by decide +kernel
theorem dX6_does_229 : decode cX6_does 229 = .ok (.invokevirtual 92, 3) := by decide +kernel
theorem dX6_does_232 : decode cX6_does 232 = .ok (.iload 4, 2) := by decide +kernel
theorem dX6_does_234 : decode cX6_does 234 = .ok (.if_icmp .lt 7, 3) := by decide +kernel
theorem dX6_does_237 : decode cX6_does 237 = .ok (.iconst 1, 1) := by decide +kernel
theorem dX6_does_238 : decode cX6_does 238 = .ok (.goto 4, 3) := by decide +kernel
theorem dX6_does_241 : decode cX6_does 241 = .ok (.iconst 0, 1) := by decide +kernel
theorem dX6_does_242 : decode cX6_does 242 = .ok (.ireturn, 1) := by decide +kernel
theorem dX6_does_243 : decode cX6_does 243 = .ok (.iload 6, 2) := by decide +kernel
theorem dX6_does_245 : decode cX6_does 245 = .ok (.ifCond .eq 20, 3) := by decide +kernel
theorem dX6_does_248 : decode cX6_does 248 = .ok (.aload_n 0, 1) := by decide +kernel
theorem dX6_does_249 : decode cX6_does 249 = .ok (.aload_n 0, 1) := by decide +kernel
theorem dX6_does_250 : decode cX6_does 250 = .ok (.getfield 16, 3) := by decide +kernel
theorem dX6_does_253 : decode cX6_does 253 = .ok (.invokevirtual 124, 3) := by decide +kernel
theorem dX6_does_256 : decode cX6_does 256 = .ok (.iload 5, 2) := by decide +kernel
theorem dX6_does_258 : decode cX6_does 258 = .ok (.if_icmp .lt 7, 3) := by decide +kernel
theorem dX6_does_261 : decode cX6_does 261 = .ok (.iconst 1, 1) := by decide +kernel
theorem dX6_does_262 : decode cX6_does 262 = .ok (.goto 4, 3) := by decide +kernel
theorem dX6_does_265 : decode cX6_does 265 = .ok (.iconst 0, 1) := by decide +kernel
theorem dX6_does_266 : decode cX6_does 266 = .ok (.ireturn, 1) := by decide +kernel
theorem dX6_does_267 : decode cX6_does 267 = .ok (.iload_n 3, 1) := by decide +kernel
theorem dX6_does_268 : decode cX6_does 268 = .ok (.ifCond .ne 18, 3) := by decide +kernel
theorem dX6_does_271 : decode cX6_does 271 = .ok (.aload_n 0, 1) := by decide +kernel
theorem dX6_does_272 : decode cX6_does 272 = .ok (.getfield 16, 3) := by decide +kernel
theorem dX6_does_275 : decode cX6_does 275 = .ok (.iconst 0, 1) := by decide +kernel
theorem dX6_does_276 : decode cX6_does 276 = .ok (.iaload, 1) := by decide +kernel
theorem dX6_does_277 : decode cX6_does 277 = .ok (.iload 4, 2) := by decide +kernel
theorem dX6_does_279 : decode cX6_does 279 = .ok (.if_icmp .lt 7, 3) := by decide +kernel
theorem dX6_does_282 : decode cX6_does 282 = .ok (.iconst 1, 1) := by decide +kernel
theorem dX6_does_283 : decode cX6_does 283 = .ok (.goto 4, 3) := by decide +kernel
theorem dX6_does_286 : decode cX6_does 286 = .ok (.iconst 0, 1) := by decide +kernel
theorem dX6_does_287 : decode cX6_does 287 = .ok (.ireturn, 1) := by decide +kernel
theorem dX6_does_288 : decode cX6_does 288 = .ok (.iload_n 3, 1) := by decide +kernel
theorem dX6_does_289 : decode cX6_does 289 = .ok (.i2l, 1) := by decide +kernel
theorem dX6_does_290 : decode cX6_does 290 = .ok (.lconst 1, 1) := by decide +kernel
theorem dX6_does_291 : decode cX6_does 291 = .ok (.ldc2_w 147, 3) := by decide +kernel
theorem dX6_does_294 : decode cX6_does 294 = .ok (.invokestatic 103, 3) := by decide +kernel
theorem dX6_does_297 : decode cX6_does 297 = .ok (.ifCond .eq 20, 3) := by decide +kernel
theorem dX6_does_300 : decode cX6_does 300 = .ok (.aload_n 0, 1) := by decide +kernel
theorem dX6_does_301 : decode cX6_does 301 = .ok (.getfield 16, 3) := by decide +kernel
theorem dX6_does_304 : decode cX6_does 304 = .ok (.iload_n 3, 1) := by decide +kernel
theorem dX6_does_305 : decode cX6_does 305 = .ok (.invokestatic 149, 3) := by decide +kernel
theorem dX6_does_308 : decode cX6_does 308 = .ok (.iload 4, 2) := by decide +kernel
theorem dX6_does_310 : decode cX6_does 310 = .ok (.if_icmp .lt 7, 3) := by decide +kernel
theorem dX6_does_313 : decode cX6_does 313 = .ok (.iconst 1, 1) := by decide +kernel
theorem dX6_does_314 : decode cX6_does 314 = .ok (.goto 4, 3) := by decide +kernel
theorem dX6_does_317 : decode cX6_does 317 = .ok (.iconst 0, 1) := by decide +kernel
theorem dX6_does_318 : decode cX6_does 318 = .ok (.ireturn, 1) := by decide +kernel
theorem dX6_does_319 : decode cX6_does 319 = .ok (.iload 6, 2) := by decide +kernel
theorem dX6_does_321 : decode cX6_does 321 = .ok (.ifCond .eq 18, 3) := by decide +kernel
theorem dX6_does_324 : decode cX6_does 324 = .ok (.aload_n 0, 1) := by decide +kernel
theorem dX6_does_325 : decode cX6_does 325 = .ok (.getfield 16, 3) := by decide +kernel
theorem dX6_does_328 : decode cX6_does 328 = .ok (.iconst 4, 1) := by decide +kernel
theorem dX6_does_329 : decode cX6_does 329 = .ok (.iaload, 1) := by decide +kernel
theorem dX6_does_330 : decode cX6_does 330 = .ok (.iload 5, 2) := by decide +kernel
theorem dX6_does_332 : decode cX6_does 332 = .ok (.if_icmp .gt 7, 3) := by decide +kernel
theorem dX6_does_335 : decode cX6_does 335 = .ok (.iconst 1, 1) := by decide +kernel
theorem dX6_does_336 : decode cX6_does 336 = .ok (.goto 4, 3) := by decide +kernel
theorem dX6_does_339 : decode cX6_does 339 = .ok (.iconst 0, 1) := by decide +kernel
theorem dX6_does_340 : decode cX6_does 340 = .ok (.ireturn, 1) := by decide +kernel
theorem dX6_does_341 : decode cX6_does 341 = .ok (.iconst 0, 1) := by decide +kernel
theorem dX6_does_342 : decode cX6_does 342 = .ok (.ireturn, 1) := by decide +kernel
set_option maxRecDepth 20000 in
theorem ggX6_runScript_X6_in : GoodIn wsX6_runScript wsX6_in := goodIn_r _ [6] (by decide +kernel) (by decide +kernel)
set_option maxRecDepth 20000 in
theorem gX6_runScript_X6_in : GoodIn wsX6_runScript (va_wsS RX6 103 yX6_in wsX6_in) := goodIn_app (goodIn_of _ (by decide +kernel)) ggX6_runScript_X6_in
set_option maxRecDepth 20000 in
theorem ggX6_runScript_X6_tenTo : GoodIn wsX6_runScript wsX6_tenTo := goodIn_r _ [9, 10] (by decide +kernel) (by decide +kernel)
set_option maxRecDepth 20000 in
theorem gX6_runScript_X6_tenTo : GoodIn wsX6_runScript (va_wsS RX6 182 yX6_tenTo wsX6_tenTo) := goodIn_app (goodIn_of _ (by decide +kernel)) ggX6_runScript_X6_tenTo
set_option maxRecDepth 20000 in
theorem ggX6_runScript_X6_refused : GoodIn wsX6_runScript wsX6_refused := goodIn_r _ [14, 15, 103, 104, 105, 106, 107, 108, 109, 110, 111, 112, 113, 114, 115, 116] (by decide +kernel) (by decide +kernel)
set_option maxRecDepth 20000 in
theorem gX6_runScript_X6_refused : GoodIn wsX6_runScript (wsV RX6 110 RX6 yX6_refused wsX6_refused) := goodIn_app (goodIn_of _ (by decide +kernel)) ggX6_runScript_X6_refused
set_option maxRecDepth 20000 in
theorem ggX6_runScript_X6_begin : GoodIn wsX6_runScript wsX6_begin := goodIn_r _ [19, 20, 21, 22, 23, 5, 24, 103, 104, 105, 106, 107, 108, 109, 110, 111, 112, 113, 114, 115, 116] (by decide +kernel) (by decide +kernel)
set_option maxRecDepth 20000 in
theorem gX6_runScript_X6_begin : GoodIn wsX6_runScript (wsV RX6 174 RX6 yX6_begin wsX6_begin) := goodIn_app (goodIn_of _ (by decide +kernel)) ggX6_runScript_X6_begin
set_option maxRecDepth 20000 in
theorem ggX6_runScript_X6_does : GoodIn wsX6_runScript wsX6_does := goodIn_r _ [28, 21, 29, 30, 31, 32, 5, 33, 34, 35, 36, 37, 38, 22, 23, 24, 39, 40, 41, 42, 43, 44, 45, 46, 47, 48, 49, 50, 51, 52, 53, 54, 55, 56, 57, 58, 59, 60, 61, 62, 63, 64, 65, 66, 67, 68, 69, 70, 71, 72, 73, 74, 75, 76, 77, 78, 79, 80, 3, 4, 6, 81, 82, 83, 84, 85, 86, 87, 88, 89, 90, 91, 92, 93, 94, 95, 96, 97, 98, 99, 100, 101, 102, 103, 104, 105, 106, 107, 108, 109, 110, 111, 112, 113, 114, 115, 116] (by decide +kernel) (by decide +kernel)
set_option maxRecDepth 20000 in
theorem gX6_runScript_X6_does : GoodIn wsX6_runScript (wsV RX6 188 RX6 yX6_does wsX6_does) := goodIn_app (goodIn_of _ (by decide +kernel)) ggX6_runScript_X6_does
theorem dX6_runScript_0 : decode cX6_runScript 0 = .ok (.iload_n 1, 1) := by decide +kernel
theorem dX6_runScript_1 : decode cX6_runScript 1 = .ok (.i2l, 1) := by decide +kernel
theorem dX6_runScript_2 : decode cX6_runScript 2 = .ok (.lconst 1, 1) := by decide +kernel
theorem dX6_runScript_3 : decode cX6_runScript 3 = .ok (.ldc2_w 180, 3) := by decide +kernel
theorem dX6_runScript_6 : decode cX6_runScript 6 = .ok (.invokestatic 103, 3) := by decide +kernel
theorem dX6_runScript_9 : decode cX6_runScript 9 = .ok (.istore 4, 2) := by decide +kernel
theorem dX6_runScript_11 : decode cX6_runScript 11 = .ok (.aload_n 0, 1) := by decide +kernel
theorem dX6_runScript_12 : decode cX6_runScript 12 = .ok (.iload 4, 2) := by decide +kernel
theorem dX6_runScript_14 : decode cX6_runScript 14 = .ok (.ifCond .eq 32, 3) := by decide +kernel
theorem dX6_runScript_17 : decode cX6_runScript 17 = .ok (.lload_n 2, 1) := by decide +kernel
theorem dX6_runScript_18 : decode cX6_runScript 18 = .ok (.lconst 0, 1) := by decide +kernel
theorem dX6_runScript_19 : decode cX6_runScript 19 = .ok (.iload 4, 2) := by decide +kernel
theorem dX6_runScript_21 : decode cX6_runScript 21 = .ok (.ifCond .eq 9, 3) := by decide +kernel
theorem dX6_runScript_24 : decode cX6_runScript 24 = .ok (.iconst 5, 1) := by decide +kernel
theorem dX6_runScript_25 : decode cX6_runScript 25 = .ok (.iload_n 1, 1) := by decide +kernel
theorem dX6_runScript_26 : decode cX6_runScript 26 = .ok (.imul, 1) := by decide +kernel
theorem dX6_runScript_27 : decode cX6_runScript 27 = .ok (.goto 4, 3) := by decide +kernel
theorem dX6_runScript_30 : decode cX6_runScript 30 = .ok (.iconst 0, 1) := by decide +kernel
theorem dX6_runScript_31 : decode cX6_runScript 31 = .ok (.invokestatic 182, 3) := by decide +kernel
theorem dX6_runScript_34 : decode cX6_runScript 34 = .ok (.lconst 1, 1) := by decide +kernel
theorem dX6_runScript_35 : decode cX6_runScript 35 = .ok (.lsub, 1) := by decide +kernel
theorem dX6_runScript_36 : decode cX6_runScript 36 = .ok (.invokestatic 103, 3) := by decide +kernel
theorem dX6_runScript_39 : decode cX6_runScript 39 = .ok (.ifCond .eq 7, 3) := by decide +kernel
theorem dX6_runScript_42 : decode cX6_runScript 42 = .ok (.iconst 0, 1) := by decide +kernel
theorem dX6_runScript_43 : decode cX6_runScript 43 = .ok (.goto 4, 3) := by decide +kernel
theorem dX6_runScript_46 : decode cX6_runScript 46 = .ok (.iconst 1, 1) := by decide +kernel
theorem dX6_runScript_47 : decode cX6_runScript 47 = .ok (.invokevirtual 110, 3) := by decide +kernel
theorem dX6_runScript_50 : decode cX6_runScript 50 = .ok (.ifCond .eq 5, 3) := by decide +kernel
theorem dX6_runScript_53 : decode cX6_runScript 53 = .ok (.iconst 0, 1) := by decide +kernel
theorem dX6_runScript_54 : decode cX6_runScript 54 = .ok (.ireturn, 1) := by decide +kernel
theorem dX6_runScript_55 : decode cX6_runScript 55 = .ok (.aload_n 0, 1) := by decide +kernel
theorem dX6_runScript_56 : decode cX6_runScript 56 = .ok (.invokevirtual 174, 3) := by decide +kernel
theorem dX6_runScript_59 : decode cX6_runScript 59 = .ok (.iconst 0, 1) := by decide +kernel
theorem dX6_runScript_60 : decode cX6_runScript 60 = .ok (.istore 5, 2) := by decide +kernel
theorem dX6_runScript_62 : decode cX6_runScript 62 = .ok (.iload 5, 2) := by decide +kernel
theorem dX6_runScript_64 : decode cX6_runScript 64 = .ok (.iload_n 1, 1) := by decide +kernel
theorem dX6_runScript_65 : decode cX6_runScript 65 = .ok (.if_icmp .ge 37, 3) := by decide +kernel
theorem dX6_runScript_68 : decode cX6_runScript 68 = .ok (.aload_n 0, 1) := by decide +kernel
theorem dX6_runScript_69 : decode cX6_runScript 69 = .ok (.lload_n 2, 1) := by decide +kernel
theorem dX6_runScript_70 : decode cX6_runScript 70 = .ok (.iconst 5, 1) := by decide +kernel
theorem dX6_runScript_71 : decode cX6_runScript 71 = .ok (.iload_n 1, 1) := by decide +kernel
theorem dX6_runScript_72 : decode cX6_runScript 72 = .ok (.iconst 1, 1) := by decide +kernel
theorem dX6_runScript_73 : decode cX6_runScript 73 = .ok (.isub, 1) := by decide +kernel
theorem dX6_runScript_74 : decode cX6_runScript 74 = .ok (.iload 5, 2) := by decide +kernel
theorem dX6_runScript_76 : decode cX6_runScript 76 = .ok (.isub, 1) := by decide +kernel
theorem dX6_runScript_77 : decode cX6_runScript 77 = .ok (.imul, 1) := by decide +kernel
theorem dX6_runScript_78 : decode cX6_runScript 78 = .ok (.invokestatic 182, 3) := by decide +kernel
theorem dX6_runScript_81 : decode cX6_runScript 81 = .ok (.ldiv, 1) := by decide +kernel
theorem dX6_runScript_82 : decode cX6_runScript 82 = .ok (.ldc2_w 186, 3) := by decide +kernel
theorem dX6_runScript_85 : decode cX6_runScript 85 = .ok (.lrem, 1) := by decide +kernel
theorem dX6_runScript_86 : decode cX6_runScript 86 = .ok (.l2i, 1) := by decide +kernel
theorem dX6_runScript_87 : decode cX6_runScript 87 = .ok (.invokevirtual 188, 3) := by decide +kernel
theorem dX6_runScript_90 : decode cX6_runScript 90 = .ok (.ifCond .ne 6, 3) := by decide +kernel
theorem dX6_runScript_93 : decode cX6_runScript 93 = .ok (.iload 5, 2) := by decide +kernel
theorem dX6_runScript_95 : decode cX6_runScript 95 = .ok (.ireturn, 1) := by decide +kernel
theorem dX6_runScript_96 : decode cX6_runScript 96 = .ok (.iinc 5 1, 3) := by decide +kernel
theorem dX6_runScript_99 : decode cX6_runScript 99 = .ok (.goto (-37), 3) := by decide +kernel
theorem dX6_runScript_102 : decode cX6_runScript 102 = .ok (.iconst (-1), 1) := by decide +kernel
theorem dX6_runScript_103 : decode cX6_runScript 103 = .ok (.ireturn, 1) := by decide +kernel
set_option maxRecDepth 20000 in
theorem ggX6_stir_X6_againIn : GoodIn wsX6_stir wsX6_againIn := goodIn_r _ [8, 2, 3, 9, 10, 7, 11, 12, 13, 14, 15, 16, 17, 18, 19, 20, 21, 22, 23, 24, 25, 26, 27, 28, 29, 30, 31, 32, 33, 34, 35, 36, 37, 38, 39, 40, 41, 42, 43, 44, 45, 46, 47, 48, 49, 50, 51, 52, 53, 54, 55, 56, 57, 58, 59, 60, 61, 62] (by decide +kernel) (by decide +kernel)
set_option maxRecDepth 20000 in
theorem gX6_stir_X6_againIn : GoodIn wsX6_stir (wsV RX6 162 RX6 yX6_againIn wsX6_againIn) := goodIn_app (goodIn_of _ (by decide +kernel)) ggX6_stir_X6_againIn
set_option maxRecDepth 20000 in
theorem ggX6_stir_X6_singIn : GoodIn wsX6_stir wsX6_singIn := goodIn_r _ [18, 3, 2, 19, 20, 21, 7, 22, 23, 24, 25, 26, 27, 28, 29, 30, 31, 32, 33, 34, 35, 36, 37, 38, 39, 40, 41, 12, 13, 14, 42, 43, 44, 45, 46, 47, 48, 49, 50, 51, 52, 53, 54, 55, 56, 57, 58, 59, 60, 61, 62] (by decide +kernel) (by decide +kernel)
set_option maxRecDepth 20000 in
theorem gX6_stir_X6_singIn : GoodIn wsX6_stir (wsV RX6 88 RX6 yX6_singIn wsX6_singIn) := goodIn_app (goodIn_of _ (by decide +kernel)) ggX6_stir_X6_singIn
theorem dX6_stir_0 : decode cX6_stir 0 = .ok (.aload_n 0, 1) := by decide +kernel
theorem dX6_stir_1 : decode cX6_stir 1 = .ok (.getfield 16, 3) := by decide +kernel
theorem dX6_stir_4 : decode cX6_stir 4 = .ok (.iconst 1, 1) := by decide +kernel
theorem dX6_stir_5 : decode cX6_stir 5 = .ok (.iaload, 1) := by decide +kernel
theorem dX6_stir_6 : decode cX6_stir 6 = .ok (.istore_n 2, 1) := by decide +kernel
theorem dX6_stir_7 : decode cX6_stir 7 = .ok (.iload_n 1, 1) := by decide +kernel
theorem dX6_stir_8 : decode cX6_stir 8 = .ok (.iconst 4, 1) := by decide +kernel
theorem dX6_stir_9 : decode cX6_stir 9 = .ok (.irem, 1) := by decide +kernel
theorem dX6_stir_10 : decode cX6_stir 10 = .ok (.ifCond .ne 22, 3) := by decide +kernel
theorem dX6_stir_13 : decode cX6_stir 13 = .ok (.iload_n 2, 1) := by decide +kernel
theorem dX6_stir_14 : decode cX6_stir 14 = .ok (.ifCond .le 18, 3) := by decide +kernel
theorem dX6_stir_17 : decode cX6_stir 17 = .ok (.aload_n 0, 1) := by decide +kernel
theorem dX6_stir_18 : decode cX6_stir 18 = .ok (.aload_n 0, 1) := by decide +kernel
theorem dX6_stir_19 : decode cX6_stir 19 = .ok (.getfield 16, 3) := by decide +kernel
theorem dX6_stir_22 : decode cX6_stir 22 = .ok (.iload_n 1, 1) := by decide +kernel
theorem dX6_stir_23 : decode cX6_stir 23 = .ok (.bipush 8, 2) := by decide +kernel
theorem dX6_stir_25 : decode cX6_stir 25 = .ok (.idiv, 1) := by decide +kernel
theorem dX6_stir_26 : decode cX6_stir 26 = .ok (.iload_n 2, 1) := by decide +kernel
theorem dX6_stir_27 : decode cX6_stir 27 = .ok (.irem, 1) := by decide +kernel
theorem dX6_stir_28 : decode cX6_stir 28 = .ok (.invokevirtual 162, 3) := by decide +kernel
theorem dX6_stir_31 : decode cX6_stir 31 = .ok (.ireturn, 1) := by decide +kernel
theorem dX6_stir_32 : decode cX6_stir 32 = .ok (.aload_n 0, 1) := by decide +kernel
theorem dX6_stir_33 : decode cX6_stir 33 = .ok (.iconst 1, 1) := by decide +kernel
theorem dX6_stir_34 : decode cX6_stir 34 = .ok (.iload_n 1, 1) := by decide +kernel
theorem dX6_stir_35 : decode cX6_stir 35 = .ok (.bipush 8, 2) := by decide +kernel
theorem dX6_stir_37 : decode cX6_stir 37 = .ok (.idiv, 1) := by decide +kernel
theorem dX6_stir_38 : decode cX6_stir 38 = .ok (.iconst 4, 1) := by decide +kernel
theorem dX6_stir_39 : decode cX6_stir 39 = .ok (.irem, 1) := by decide +kernel
theorem dX6_stir_40 : decode cX6_stir 40 = .ok (.iadd, 1) := by decide +kernel
theorem dX6_stir_41 : decode cX6_stir 41 = .ok (.putfield 76, 3) := by decide +kernel
theorem dX6_stir_44 : decode cX6_stir 44 = .ok (.aload_n 0, 1) := by decide +kernel
theorem dX6_stir_45 : decode cX6_stir 45 = .ok (.getfield 38, 3) := by decide +kernel
theorem dX6_stir_48 : decode cX6_stir 48 = .ok (.iconst 0, 1) := by decide +kernel
theorem dX6_stir_49 : decode cX6_stir 49 = .ok (.bipush 97, 2) := by decide +kernel
theorem dX6_stir_51 : decode cX6_stir 51 = .ok (.iload_n 1, 1) := by decide +kernel
theorem dX6_stir_52 : decode cX6_stir 52 = .ok (.bipush 64, 2) := by decide +kernel
theorem dX6_stir_54 : decode cX6_stir 54 = .ok (.idiv, 1) := by decide +kernel
theorem dX6_stir_55 : decode cX6_stir 55 = .ok (.iconst 3, 1) := by decide +kernel
theorem dX6_stir_56 : decode cX6_stir 56 = .ok (.irem, 1) := by decide +kernel
theorem dX6_stir_57 : decode cX6_stir 57 = .ok (.iadd, 1) := by decide +kernel
theorem dX6_stir_58 : decode cX6_stir 58 = .ok (.iastore, 1) := by decide +kernel
theorem dX6_stir_59 : decode cX6_stir 59 = .ok (.aload_n 0, 1) := by decide +kernel
theorem dX6_stir_60 : decode cX6_stir 60 = .ok (.getfield 38, 3) := by decide +kernel
theorem dX6_stir_63 : decode cX6_stir 63 = .ok (.iconst 1, 1) := by decide +kernel
theorem dX6_stir_64 : decode cX6_stir 64 = .ok (.bipush 97, 2) := by decide +kernel
theorem dX6_stir_66 : decode cX6_stir 66 = .ok (.iload_n 1, 1) := by decide +kernel
theorem dX6_stir_67 : decode cX6_stir 67 = .ok (.sipush 256, 3) := by decide +kernel
theorem dX6_stir_70 : decode cX6_stir 70 = .ok (.idiv, 1) := by decide +kernel
theorem dX6_stir_71 : decode cX6_stir 71 = .ok (.iconst 3, 1) := by decide +kernel
theorem dX6_stir_72 : decode cX6_stir 72 = .ok (.irem, 1) := by decide +kernel
theorem dX6_stir_73 : decode cX6_stir 73 = .ok (.iadd, 1) := by decide +kernel
theorem dX6_stir_74 : decode cX6_stir 74 = .ok (.iastore, 1) := by decide +kernel
theorem dX6_stir_75 : decode cX6_stir 75 = .ok (.aload_n 0, 1) := by decide +kernel
theorem dX6_stir_76 : decode cX6_stir 76 = .ok (.getfield 38, 3) := by decide +kernel
theorem dX6_stir_79 : decode cX6_stir 79 = .ok (.iconst 2, 1) := by decide +kernel
theorem dX6_stir_80 : decode cX6_stir 80 = .ok (.bipush 97, 2) := by decide +kernel
theorem dX6_stir_82 : decode cX6_stir 82 = .ok (.iload_n 1, 1) := by decide +kernel
theorem dX6_stir_83 : decode cX6_stir 83 = .ok (.sipush 1024, 3) := by decide +kernel
theorem dX6_stir_86 : decode cX6_stir 86 = .ok (.idiv, 1) := by decide +kernel
theorem dX6_stir_87 : decode cX6_stir 87 = .ok (.iconst 3, 1) := by decide +kernel
theorem dX6_stir_88 : decode cX6_stir 88 = .ok (.irem, 1) := by decide +kernel
theorem dX6_stir_89 : decode cX6_stir 89 = .ok (.iadd, 1) := by decide +kernel
theorem dX6_stir_90 : decode cX6_stir 90 = .ok (.iastore, 1) := by decide +kernel
theorem dX6_stir_91 : decode cX6_stir 91 = .ok (.aload_n 0, 1) := by decide +kernel
theorem dX6_stir_92 : decode cX6_stir 92 = .ok (.getfield 38, 3) := by decide +kernel
theorem dX6_stir_95 : decode cX6_stir 95 = .ok (.iconst 3, 1) := by decide +kernel
theorem dX6_stir_96 : decode cX6_stir 96 = .ok (.bipush 97, 2) := by decide +kernel
theorem dX6_stir_98 : decode cX6_stir 98 = .ok (.iload_n 1, 1) := by decide +kernel
theorem dX6_stir_99 : decode cX6_stir 99 = .ok (.sipush 4096, 3) := by decide +kernel
theorem dX6_stir_102 : decode cX6_stir 102 = .ok (.idiv, 1) := by decide +kernel
theorem dX6_stir_103 : decode cX6_stir 103 = .ok (.iconst 3, 1) := by decide +kernel
theorem dX6_stir_104 : decode cX6_stir 104 = .ok (.irem, 1) := by decide +kernel
theorem dX6_stir_105 : decode cX6_stir 105 = .ok (.iadd, 1) := by decide +kernel
theorem dX6_stir_106 : decode cX6_stir 106 = .ok (.iastore, 1) := by decide +kernel
theorem dX6_stir_107 : decode cX6_stir 107 = .ok (.aload_n 0, 1) := by decide +kernel
theorem dX6_stir_108 : decode cX6_stir 108 = .ok (.aload_n 0, 1) := by decide +kernel
theorem dX6_stir_109 : decode cX6_stir 109 = .ok (.getfield 16, 3) := by decide +kernel
theorem dX6_stir_112 : decode cX6_stir 112 = .ok (.invokevirtual 88, 3) := by decide +kernel
theorem dX6_stir_115 : decode cX6_stir 115 = .ok (.ireturn, 1) := by decide +kernel
set_option maxRecDepth 20000 in
theorem ggX6_simulate_X6_in : GoodIn wsX6_simulate wsX6_in := goodIn_r _ [8] (by decide +kernel) (by decide +kernel)
set_option maxRecDepth 20000 in
theorem gX6_simulate_X6_in : GoodIn wsX6_simulate (va_wsS RX6 103 yX6_in wsX6_in) := goodIn_app (goodIn_of _ (by decide +kernel)) ggX6_simulate_X6_in
set_option maxRecDepth 20000 in
theorem ggX6_simulate_X6_refused : GoodIn wsX6_simulate wsX6_refused := goodIn_r _ [12, 13, 73, 74, 75, 76, 77, 78, 79, 80, 81, 82, 83, 84, 85, 86] (by decide +kernel) (by decide +kernel)
set_option maxRecDepth 20000 in
theorem gX6_simulate_X6_refused : GoodIn wsX6_simulate (wsV RX6 110 RX6 yX6_refused wsX6_refused) := goodIn_app (goodIn_of _ (by decide +kernel)) ggX6_simulate_X6_refused
set_option maxRecDepth 20000 in
theorem ggX6_simulate_X6_begin : GoodIn wsX6_simulate wsX6_begin := goodIn_r _ [17, 18, 4, 19, 20, 7, 21, 73, 74, 75, 76, 77, 78, 79, 80, 81, 82, 83, 84, 85, 86] (by decide +kernel) (by decide +kernel)
set_option maxRecDepth 20000 in
theorem gX6_simulate_X6_begin : GoodIn wsX6_simulate (wsV RX6 174 RX6 yX6_begin wsX6_begin) := goodIn_app (goodIn_of _ (by decide +kernel)) ggX6_simulate_X6_begin
set_option maxRecDepth 20000 in
theorem ggX6_simulate_X6_stir : GoodIn wsX6_simulate wsX6_stir := goodIn_r _ [25, 4, 26, 27, 28, 29, 30, 7, 31, 32, 33, 34, 19, 20, 21, 35, 36, 37, 38, 39, 40, 41, 42, 43, 44, 45, 46, 47, 48, 49, 50, 51, 52, 53, 54, 55, 56, 57, 58, 59, 60, 61, 62, 63, 64, 65, 66, 67, 68, 73, 74, 75, 76, 77, 78, 79, 80, 81, 82, 83, 84, 85, 86] (by decide +kernel) (by decide +kernel)
set_option maxRecDepth 20000 in
theorem gX6_simulate_X6_stir : GoodIn wsX6_simulate (wsV RX6 197 RX6 yX6_stir wsX6_stir) := goodIn_app (goodIn_of _ (by decide +kernel)) ggX6_simulate_X6_stir
set_option maxRecDepth 20000 in
theorem ggX6_simulate_X6_longest : GoodIn wsX6_simulate wsX6_longest := goodIn_r _ [72, 49, 45, 46, 47, 7, 48, 44, 50, 51, 52, 53, 54, 55, 73, 74, 75, 76, 77, 78, 79, 80, 81, 82, 83, 84, 85, 86] (by decide +kernel) (by decide +kernel)
set_option maxRecDepth 20000 in
theorem gX6_simulate_X6_longest : GoodIn wsX6_simulate (wsV RX6 92 RX6 yX6_longest wsX6_longest) := goodIn_app (goodIn_of _ (by decide +kernel)) ggX6_simulate_X6_longest
theorem dX6_simulate_0 : decode cX6_simulate 0 = .ok (.aload_n 0, 1) := by decide +kernel
theorem dX6_simulate_1 : decode cX6_simulate 1 = .ok (.iload_n 3, 1) := by decide +kernel
theorem dX6_simulate_2 : decode cX6_simulate 2 = .ok (.i2l, 1) := by decide +kernel
theorem dX6_simulate_3 : decode cX6_simulate 3 = .ok (.lconst 1, 1) := by decide +kernel
theorem dX6_simulate_4 : decode cX6_simulate 4 = .ok (.ldc2_w 191, 3) := by decide +kernel
theorem dX6_simulate_7 : decode cX6_simulate 7 = .ok (.invokestatic 103, 3) := by decide +kernel
theorem dX6_simulate_10 : decode cX6_simulate 10 = .ok (.ifCond .eq 7, 3) := by decide +kernel
theorem dX6_simulate_13 : decode cX6_simulate 13 = .ok (.iconst 0, 1) := by decide +kernel
theorem dX6_simulate_14 : decode cX6_simulate 14 = .ok (.goto 4, 3) := by decide +kernel
theorem dX6_simulate_17 : decode cX6_simulate 17 = .ok (.iconst 1, 1) := by decide +kernel
theorem dX6_simulate_18 : decode cX6_simulate 18 = .ok (.invokevirtual 110, 3) := by decide +kernel
theorem dX6_simulate_21 : decode cX6_simulate 21 = .ok (.ifCond .eq 5, 3) := by decide +kernel
theorem dX6_simulate_24 : decode cX6_simulate 24 = .ok (.iconst 0, 1) := by decide +kernel
theorem dX6_simulate_25 : decode cX6_simulate 25 = .ok (.ireturn, 1) := by decide +kernel
theorem dX6_simulate_26 : decode cX6_simulate 26 = .ok (.aload_n 0, 1) := by decide +kernel
theorem dX6_simulate_27 : decode cX6_simulate 27 = .ok (.invokevirtual 174, 3) := by decide +kernel
theorem dX6_simulate_30 : decode cX6_simulate 30 = .ok (.lload_n 1, 1) := by decide +kernel
theorem dX6_simulate_31 : decode cX6_simulate 31 = .ok (.lstore 4, 2) := by decide +kernel
theorem dX6_simulate_33 : decode cX6_simulate 33 = .ok (.iconst 0, 1) := by decide +kernel
theorem dX6_simulate_34 : decode cX6_simulate 34 = .ok (.istore 6, 2) := by decide +kernel
theorem dX6_simulate_36 : decode cX6_simulate 36 = .ok (.iconst 0, 1) := by decide +kernel
theorem dX6_simulate_37 : decode cX6_simulate 37 = .ok (.istore 7, 2) := by decide +kernel
theorem dX6_simulate_39 : decode cX6_simulate 39 = .ok (.iload 7, 2) := by decide +kernel
theorem dX6_simulate_41 : decode cX6_simulate 41 = .ok (.iload_n 3, 1) := by decide +kernel
theorem dX6_simulate_42 : decode cX6_simulate 42 = .ok (.if_icmp .ge 36, 3) := by decide +kernel
theorem dX6_simulate_45 : decode cX6_simulate 45 = .ok (.lload 4, 2) := by decide +kernel
theorem dX6_simulate_47 : decode cX6_simulate 47 = .ok (.ldc2_w 193, 3) := by decide +kernel
theorem dX6_simulate_50 : decode cX6_simulate 50 = .ok (.lmul, 1) := by decide +kernel
theorem dX6_simulate_51 : decode cX6_simulate 51 = .ok (.ldc2_w 195, 3) := by decide +kernel
theorem dX6_simulate_54 : decode cX6_simulate 54 = .ok (.ladd, 1) := by decide +kernel
theorem dX6_simulate_55 : decode cX6_simulate 55 = .ok (.lstore 4, 2) := by decide +kernel
theorem dX6_simulate_57 : decode cX6_simulate 57 = .ok (.iload 6, 2) := by decide +kernel
theorem dX6_simulate_59 : decode cX6_simulate 59 = .ok (.aload_n 0, 1) := by decide +kernel
theorem dX6_simulate_60 : decode cX6_simulate 60 = .ok (.lload 4, 2) := by decide +kernel
theorem dX6_simulate_62 : decode cX6_simulate 62 = .ok (.bipush 33, 2) := by decide +kernel
theorem dX6_simulate_64 : decode cX6_simulate 64 = .ok (.lushr, 1) := by decide +kernel
theorem dX6_simulate_65 : decode cX6_simulate 65 = .ok (.l2i, 1) := by decide +kernel
theorem dX6_simulate_66 : decode cX6_simulate 66 = .ok (.invokevirtual 197, 3) := by decide +kernel
theorem dX6_simulate_69 : decode cX6_simulate 69 = .ok (.iadd, 1) := by decide +kernel
theorem dX6_simulate_70 : decode cX6_simulate 70 = .ok (.istore 6, 2) := by decide +kernel
theorem dX6_simulate_72 : decode cX6_simulate 72 = .ok (.iinc 7 1, 3) := by decide +kernel
theorem dX6_simulate_75 : decode cX6_simulate 75 = .ok (.goto (-36), 3) := by decide +kernel
theorem dX6_simulate_78 : decode cX6_simulate 78 = .ok (.sipush 1000, 3) := by decide +kernel
theorem dX6_simulate_81 : decode cX6_simulate 81 = .ok (.aload_n 0, 1) := by decide +kernel
theorem dX6_simulate_82 : decode cX6_simulate 82 = .ok (.aload_n 0, 1) := by decide +kernel
theorem dX6_simulate_83 : decode cX6_simulate 83 = .ok (.getfield 16, 3) := by decide +kernel
theorem dX6_simulate_86 : decode cX6_simulate 86 = .ok (.invokevirtual 92, 3) := by decide +kernel
theorem dX6_simulate_89 : decode cX6_simulate 89 = .ok (.imul, 1) := by decide +kernel
theorem dX6_simulate_90 : decode cX6_simulate 90 = .ok (.iload 6, 2) := by decide +kernel
theorem dX6_simulate_92 : decode cX6_simulate 92 = .ok (.sipush 999, 3) := by decide +kernel
theorem dX6_simulate_95 : decode cX6_simulate 95 = .ok (.if_icmp .le 9, 3) := by decide +kernel
theorem dX6_simulate_98 : decode cX6_simulate 98 = .ok (.sipush 999, 3) := by decide +kernel
theorem dX6_simulate_101 : decode cX6_simulate 101 = .ok (.goto 5, 3) := by decide +kernel
theorem dX6_simulate_104 : decode cX6_simulate 104 = .ok (.iload 6, 2) := by decide +kernel
theorem dX6_simulate_106 : decode cX6_simulate 106 = .ok (.iadd, 1) := by decide +kernel
theorem dX6_simulate_107 : decode cX6_simulate 107 = .ok (.ireturn, 1) := by decide +kernel
set_option maxRecDepth 20000 in
theorem ggX6_save_X6_in : GoodIn wsX6_save wsX6_in := goodIn_r _ [7] (by decide +kernel) (by decide +kernel)
set_option maxRecDepth 20000 in
theorem gX6_save_X6_in : GoodIn wsX6_save (va_wsS RX6 103 yX6_in wsX6_in) := goodIn_app (goodIn_of _ (by decide +kernel)) ggX6_save_X6_in
set_option maxRecDepth 20000 in
theorem ggX6_save_X6_refused : GoodIn wsX6_save wsX6_refused := goodIn_r _ [11, 12, 16, 17, 18, 19, 20, 21, 22, 23, 24, 25, 26, 27, 28, 29] (by decide +kernel) (by decide +kernel)
set_option maxRecDepth 20000 in
theorem gX6_save_X6_refused : GoodIn wsX6_save (wsV RX6 110 RX6 yX6_refused wsX6_refused) := goodIn_app (goodIn_of _ (by decide +kernel)) ggX6_save_X6_refused
set_option maxRecDepth 20000 in
theorem ggX6_save_X6_copy : GoodIn wsX6_save wsX6_copy := goodIn_r _ [15] (by decide +kernel) (by decide +kernel)
set_option maxRecDepth 20000 in
theorem gX6_save_X6_copy : GoodIn wsX6_save (va_wsS RX6 50 yX6_copy wsX6_copy) := goodIn_app (goodIn_of _ (by decide +kernel)) ggX6_save_X6_copy
theorem dX6_save_0 : decode cX6_save 0 = .ok (.aload_n 0, 1) := by decide +kernel
theorem dX6_save_1 : decode cX6_save 1 = .ok (.iload_n 1, 1) := by decide +kernel
theorem dX6_save_2 : decode cX6_save 2 = .ok (.i2l, 1) := by decide +kernel
theorem dX6_save_3 : decode cX6_save 3 = .ok (.lconst 0, 1) := by decide +kernel
theorem dX6_save_4 : decode cX6_save 4 = .ok (.lconst 1, 1) := by decide +kernel
theorem dX6_save_5 : decode cX6_save 5 = .ok (.invokestatic 103, 3) := by decide +kernel
theorem dX6_save_8 : decode cX6_save 8 = .ok (.ifCond .eq 7, 3) := by decide +kernel
theorem dX6_save_11 : decode cX6_save 11 = .ok (.iconst 0, 1) := by decide +kernel
theorem dX6_save_12 : decode cX6_save 12 = .ok (.goto 4, 3) := by decide +kernel
theorem dX6_save_15 : decode cX6_save 15 = .ok (.iconst 1, 1) := by decide +kernel
theorem dX6_save_16 : decode cX6_save 16 = .ok (.invokevirtual 110, 3) := by decide +kernel
theorem dX6_save_19 : decode cX6_save 19 = .ok (.ifCond .eq 5, 3) := by decide +kernel
theorem dX6_save_22 : decode cX6_save 22 = .ok (.iconst 0, 1) := by decide +kernel
theorem dX6_save_23 : decode cX6_save 23 = .ok (.ireturn, 1) := by decide +kernel
theorem dX6_save_24 : decode cX6_save 24 = .ok (.aload_n 0, 1) := by decide +kernel
theorem dX6_save_25 : decode cX6_save 25 = .ok (.getfield 13, 3) := by decide +kernel
theorem dX6_save_28 : decode cX6_save 28 = .ok (.iconst 0, 1) := by decide +kernel
theorem dX6_save_29 : decode cX6_save 29 = .ok (.aload_n 0, 1) := by decide +kernel
theorem dX6_save_30 : decode cX6_save 30 = .ok (.getfield 22, 3) := by decide +kernel
theorem dX6_save_33 : decode cX6_save 33 = .ok (.bipush 126, 2) := by decide +kernel
theorem dX6_save_35 : decode cX6_save 35 = .ok (.iload_n 1, 1) := by decide +kernel
theorem dX6_save_36 : decode cX6_save 36 = .ok (.imul, 1) := by decide +kernel
theorem dX6_save_37 : decode cX6_save 37 = .ok (.bipush 126, 2) := by decide +kernel
theorem dX6_save_39 : decode cX6_save 39 = .ok (.invokestatic 50, 3) := by decide +kernel
theorem dX6_save_42 : decode cX6_save 42 = .ok (.aload_n 0, 1) := by decide +kernel
theorem dX6_save_43 : decode cX6_save 43 = .ok (.getfield 25, 3) := by decide +kernel
theorem dX6_save_46 : decode cX6_save 46 = .ok (.iload_n 1, 1) := by decide +kernel
theorem dX6_save_47 : decode cX6_save 47 = .ok (.iconst 1, 1) := by decide +kernel
theorem dX6_save_48 : decode cX6_save 48 = .ok (.bastore, 1) := by decide +kernel
theorem dX6_save_49 : decode cX6_save 49 = .ok (.aload_n 0, 1) := by decide +kernel
theorem dX6_save_50 : decode cX6_save 50 = .ok (.getfield 13, 3) := by decide +kernel
theorem dX6_save_53 : decode cX6_save 53 = .ok (.iconst 0, 1) := by decide +kernel
theorem dX6_save_54 : decode cX6_save 54 = .ok (.iaload, 1) := by decide +kernel
theorem dX6_save_55 : decode cX6_save 55 = .ok (.ireturn, 1) := by decide +kernel
set_option maxRecDepth 20000 in
theorem ggX6_restore_X6_in : GoodIn wsX6_restore wsX6_in := goodIn_r _ [8] (by decide +kernel) (by decide +kernel)
set_option maxRecDepth 20000 in
theorem gX6_restore_X6_in : GoodIn wsX6_restore (va_wsS RX6 103 yX6_in wsX6_in) := goodIn_app (goodIn_of _ (by decide +kernel)) ggX6_restore_X6_in
set_option maxRecDepth 20000 in
theorem ggX6_restore_X6_refused : GoodIn wsX6_restore wsX6_refused := goodIn_r _ [12, 13, 17, 18, 19, 20, 21, 22, 23, 24, 25, 26, 27, 28, 29, 30] (by decide +kernel) (by decide +kernel)
set_option maxRecDepth 20000 in
theorem gX6_restore_X6_refused : GoodIn wsX6_restore (wsV RX6 110 RX6 yX6_refused wsX6_refused) := goodIn_app (goodIn_of _ (by decide +kernel)) ggX6_restore_X6_refused
set_option maxRecDepth 20000 in
theorem ggX6_restore_X6_copy : GoodIn wsX6_restore wsX6_copy := goodIn_r _ [16] (by decide +kernel) (by decide +kernel)
set_option maxRecDepth 20000 in
theorem gX6_restore_X6_copy : GoodIn wsX6_restore (va_wsS RX6 50 yX6_copy wsX6_copy) := goodIn_app (goodIn_of _ (by decide +kernel)) ggX6_restore_X6_copy
theorem dX6_restore_0 : decode cX6_restore 0 = .ok (.aload_n 0, 1) := by decide +kernel
theorem dX6_restore_1 : decode cX6_restore 1 = .ok (.iload_n 1, 1) := by decide +kernel
theorem dX6_restore_2 : decode cX6_restore 2 = .ok (.i2l, 1) := by decide +kernel
theorem dX6_restore_3 : decode cX6_restore 3 = .ok (.lconst 0, 1) := by decide +kernel
theorem dX6_restore_4 : decode cX6_restore 4 = .ok (.lconst 1, 1) := by decide +kernel
theorem dX6_restore_5 : decode cX6_restore 5 = .ok (.invokestatic 103, 3) := by decide +kernel
theorem dX6_restore_8 : decode cX6_restore 8 = .ok (.ifCond .ne 7, 3) := by decide +kernel
theorem dX6_restore_11 : decode cX6_restore 11 = .ok (.iconst 1, 1) := by decide +kernel
theorem dX6_restore_12 : decode cX6_restore 12 = .ok (.goto 17, 3) := by decide +kernel
theorem dX6_restore_15 : decode cX6_restore 15 = .ok (.aload_n 0, 1) := by decide +kernel
theorem dX6_restore_16 : decode cX6_restore 16 = .ok (.getfield 25, 3) := by decide +kernel
theorem dX6_restore_19 : decode cX6_restore 19 = .ok (.iload_n 1, 1) := by decide +kernel
theorem dX6_restore_20 : decode cX6_restore 20 = .ok (.baload, 1) := by decide +kernel
theorem dX6_restore_21 : decode cX6_restore 21 = .ok (.ifCond .eq 7, 3) := by decide +kernel
theorem dX6_restore_24 : decode cX6_restore 24 = .ok (.iconst 0, 1) := by decide +kernel
theorem dX6_restore_25 : decode cX6_restore 25 = .ok (.goto 4, 3) := by decide +kernel
theorem dX6_restore_28 : decode cX6_restore 28 = .ok (.iconst 2, 1) := by decide +kernel
theorem dX6_restore_29 : decode cX6_restore 29 = .ok (.invokevirtual 110, 3) := by decide +kernel
theorem dX6_restore_32 : decode cX6_restore 32 = .ok (.ifCond .eq 5, 3) := by decide +kernel
theorem dX6_restore_35 : decode cX6_restore 35 = .ok (.iconst 0, 1) := by decide +kernel
theorem dX6_restore_36 : decode cX6_restore 36 = .ok (.ireturn, 1) := by decide +kernel
theorem dX6_restore_37 : decode cX6_restore 37 = .ok (.aload_n 0, 1) := by decide +kernel
theorem dX6_restore_38 : decode cX6_restore 38 = .ok (.getfield 22, 3) := by decide +kernel
theorem dX6_restore_41 : decode cX6_restore 41 = .ok (.bipush 126, 2) := by decide +kernel
theorem dX6_restore_43 : decode cX6_restore 43 = .ok (.iload_n 1, 1) := by decide +kernel
theorem dX6_restore_44 : decode cX6_restore 44 = .ok (.imul, 1) := by decide +kernel
theorem dX6_restore_45 : decode cX6_restore 45 = .ok (.aload_n 0, 1) := by decide +kernel
theorem dX6_restore_46 : decode cX6_restore 46 = .ok (.getfield 13, 3) := by decide +kernel
theorem dX6_restore_49 : decode cX6_restore 49 = .ok (.iconst 0, 1) := by decide +kernel
theorem dX6_restore_50 : decode cX6_restore 50 = .ok (.bipush 126, 2) := by decide +kernel
theorem dX6_restore_52 : decode cX6_restore 52 = .ok (.invokestatic 50, 3) := by decide +kernel
theorem dX6_restore_55 : decode cX6_restore 55 = .ok (.aload_n 0, 1) := by decide +kernel
theorem dX6_restore_56 : decode cX6_restore 56 = .ok (.iconst 0, 1) := by decide +kernel
theorem dX6_restore_57 : decode cX6_restore 57 = .ok (.putfield 47, 3) := by decide +kernel
theorem dX6_restore_60 : decode cX6_restore 60 = .ok (.aload_n 0, 1) := by decide +kernel
theorem dX6_restore_61 : decode cX6_restore 61 = .ok (.getfield 13, 3) := by decide +kernel
theorem dX6_restore_64 : decode cX6_restore 64 = .ok (.iconst 0, 1) := by decide +kernel
theorem dX6_restore_65 : decode cX6_restore 65 = .ok (.iaload, 1) := by decide +kernel
theorem dX6_restore_66 : decode cX6_restore 66 = .ok (.ireturn, 1) := by decide +kernel
