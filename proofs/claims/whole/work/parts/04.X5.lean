set_option maxRecDepth 20000 in
theorem ggX5_init_X2_init : GoodIn wsX5_init wsX2_init := goodIn_r _ [22, 23, 2, 3, 24, 25, 26, 27, 28, 29, 30, 71, 72] (by decide +kernel) (by decide +kernel)
set_option maxRecDepth 20000 in
theorem gX5_init_X2_init : GoodIn wsX5_init (wsX2_init) := ggX5_init_X2_init
set_option maxRecDepth 20000 in
theorem ggX5_init_X0_init : GoodIn wsX5_init wsX0_init := goodIn_r _ [32, 33, 2, 3, 34, 35, 36, 37, 38, 39, 40, 41, 29, 42, 43, 44, 45, 46, 47, 48, 49, 50, 51, 52, 53, 54, 55, 56, 57, 58, 59, 60, 61, 62, 63, 86, 87, 88, 89, 90, 91, 92, 93, 79, 80, 81, 82, 94, 95, 96, 97, 98, 99] (by decide +kernel) (by decide +kernel)
set_option maxRecDepth 20000 in
theorem gX5_init_X0_init_n20 : GoodIn wsX5_init (wsX0_init) := ggX5_init_X0_init
set_option maxRecDepth 20000 in
theorem ggX5_init_X1_init : GoodIn wsX5_init wsX1_init := goodIn_r _ [65, 66, 2, 3, 67, 68, 69, 70, 83, 84, 85] (by decide +kernel) (by decide +kernel)
set_option maxRecDepth 20000 in
theorem gX5_init_X1_init_n33 : GoodIn wsX5_init (wsX1_init) := ggX5_init_X1_init
theorem dX5_init_0 : decode cX5_init 0 = .ok (.aload_n 0, 1) := by decide +kernel
theorem dX5_init_1 : decode cX5_init 1 = .ok (.invokespecial 1, 3) := by decide +kernel
theorem dX5_init_4 : decode cX5_init 4 = .ok (.aload_n 0, 1) := by decide +kernel
theorem dX5_init_5 : decode cX5_init 5 = .ok (.new 7, 3) := by decide +kernel
theorem dX5_init_8 : decode cX5_init 8 = .ok (.dup, 1) := by decide +kernel
theorem dX5_init_9 : decode cX5_init 9 = .ok (.bipush 40, 2) := by decide +kernel
theorem dX5_init_11 : decode cX5_init 11 = .ok (.invokespecial 11, 3) := by decide +kernel
theorem dX5_init_14 : decode cX5_init 14 = .ok (.putfield 14, 3) := by decide +kernel
theorem dX5_init_17 : decode cX5_init 17 = .ok (.aload_n 0, 1) := by decide +kernel
theorem dX5_init_18 : decode cX5_init 18 = .ok (.new 18, 3) := by decide +kernel
theorem dX5_init_21 : decode cX5_init 21 = .ok (.dup, 1) := by decide +kernel
theorem dX5_init_22 : decode cX5_init 22 = .ok (.invokespecial 20, 3) := by decide +kernel
theorem dX5_init_25 : decode cX5_init 25 = .ok (.putfield 21, 3) := by decide +kernel
theorem dX5_init_28 : decode cX5_init 28 = .ok (.aload_n 0, 1) := by decide +kernel
theorem dX5_init_29 : decode cX5_init 29 = .ok (.new 18, 3) := by decide +kernel
theorem dX5_init_32 : decode cX5_init 32 = .ok (.dup, 1) := by decide +kernel
theorem dX5_init_33 : decode cX5_init 33 = .ok (.invokespecial 20, 3) := by decide +kernel
theorem dX5_init_36 : decode cX5_init 36 = .ok (.putfield 25, 3) := by decide +kernel
theorem dX5_init_39 : decode cX5_init 39 = .ok (.aload_n 0, 1) := by decide +kernel
theorem dX5_init_40 : decode cX5_init 40 = .ok (.new 7, 3) := by decide +kernel
theorem dX5_init_43 : decode cX5_init 43 = .ok (.dup, 1) := by decide +kernel
theorem dX5_init_44 : decode cX5_init 44 = .ok (.bipush 12, 2) := by decide +kernel
theorem dX5_init_46 : decode cX5_init 46 = .ok (.invokespecial 11, 3) := by decide +kernel
theorem dX5_init_49 : decode cX5_init 49 = .ok (.putfield 28, 3) := by decide +kernel
theorem dX5_init_52 : decode cX5_init 52 = .ok (.aload_n 0, 1) := by decide +kernel
theorem dX5_init_53 : decode cX5_init 53 = .ok (.new 31, 3) := by decide +kernel
theorem dX5_init_56 : decode cX5_init 56 = .ok (.dup, 1) := by decide +kernel
theorem dX5_init_57 : decode cX5_init 57 = .ok (.invokespecial 33, 3) := by decide +kernel
theorem dX5_init_60 : decode cX5_init 60 = .ok (.putfield 34, 3) := by decide +kernel
theorem dX5_init_63 : decode cX5_init 63 = .ok (.aload_n 0, 1) := by decide +kernel
theorem dX5_init_64 : decode cX5_init 64 = .ok (.iconst 2, 1) := by decide +kernel
theorem dX5_init_65 : decode cX5_init 65 = .ok (.anewarray 38, 3) := by decide +kernel
theorem dX5_init_68 : decode cX5_init 68 = .ok (.putfield 40, 3) := by decide +kernel
theorem dX5_init_71 : decode cX5_init 71 = .ok (.return_, 1) := by decide +kernel
set_option maxRecDepth 20000 in
theorem ggX5_append_X2_isFull : GoodIn wsX5_append wsX2_isFull := goodIn_r _ [11, 12, 13, 24, 25] (by decide +kernel) (by decide +kernel)
set_option maxRecDepth 20000 in
theorem gX5_append_X2_isFull : GoodIn wsX5_append (wsV RX5 51 RX2 yX2_isFull wsX2_isFull) := goodIn_app (goodIn_of _ (by decide +kernel)) ggX5_append_X2_isFull
set_option maxRecDepth 20000 in
theorem ggX5_append_X2_add : GoodIn wsX5_append wsX2_add := goodIn_r _ [17, 12, 13, 24, 25] (by decide +kernel) (by decide +kernel)
set_option maxRecDepth 20000 in
theorem gX5_append_X2_add : GoodIn wsX5_append (wsV RX5 60 RX2 yX2_add wsX2_add) := goodIn_app (goodIn_of _ (by decide +kernel)) ggX5_append_X2_add
theorem dX5_append_0 : decode cX5_append 0 = .ok (.iload_n 1, 1) := by decide +kernel
theorem dX5_append_1 : decode cX5_append 1 = .ok (.ifCond .lt 10, 3) := by decide +kernel
theorem dX5_append_4 : decode cX5_append 4 = .ok (.iload_n 1, 1) := by decide +kernel
theorem dX5_append_5 : decode cX5_append 5 = .ok (.sipush 255, 3) := by decide +kernel
theorem dX5_append_8 : decode cX5_append 8 = .ok (.if_icmp .le 13, 3) := by decide +kernel
theorem dX5_append_11 : decode cX5_append 11 = .ok (.new 44, 3) := by decide +kernel
theorem dX5_append_14 : decode cX5_append 14 = .ok (.dup, 1) := by decide +kernel
theorem dX5_append_15 : decode cX5_append 15 = .ok (.ldc 46, 2) := by decide +kernel
theorem dX5_append_17 : decode cX5_append 17 = .ok (.invokespecial 48, 3) := by decide +kernel
theorem dX5_append_20 : decode cX5_append 20 = .ok (.athrow, 1) := by decide +kernel
theorem dX5_append_21 : decode cX5_append 21 = .ok (.aload_n 0, 1) := by decide +kernel
theorem dX5_append_22 : decode cX5_append 22 = .ok (.getfield 14, 3) := by decide +kernel
theorem dX5_append_25 : decode cX5_append 25 = .ok (.invokevirtual 51, 3) := by decide +kernel
theorem dX5_append_28 : decode cX5_append 28 = .ok (.ifCond .eq 13, 3) := by decide +kernel
theorem dX5_append_31 : decode cX5_append 31 = .ok (.new 55, 3) := by decide +kernel
theorem dX5_append_34 : decode cX5_append 34 = .ok (.dup, 1) := by decide +kernel
theorem dX5_append_35 : decode cX5_append 35 = .ok (.ldc 57, 2) := by decide +kernel
theorem dX5_append_37 : decode cX5_append 37 = .ok (.invokespecial 59, 3) := by decide +kernel
theorem dX5_append_40 : decode cX5_append 40 = .ok (.athrow, 1) := by decide +kernel
theorem dX5_append_41 : decode cX5_append 41 = .ok (.aload_n 0, 1) := by decide +kernel
theorem dX5_append_42 : decode cX5_append 42 = .ok (.getfield 14, 3) := by decide +kernel
theorem dX5_append_45 : decode cX5_append 45 = .ok (.iload_n 1, 1) := by decide +kernel
theorem dX5_append_46 : decode cX5_append 46 = .ok (.invokevirtual 60, 3) := by decide +kernel
theorem dX5_append_49 : decode cX5_append 49 = .ok (.aload_n 0, 1) := by decide +kernel
theorem dX5_append_50 : decode cX5_append 50 = .ok (.getfield 14, 3) := by decide +kernel
theorem dX5_append_53 : decode cX5_append 53 = .ok (.getfield 63, 3) := by decide +kernel
theorem dX5_append_56 : decode cX5_append 56 = .ok (.ireturn, 1) := by decide +kernel
set_option maxRecDepth 20000 in
theorem ggX5_clearText_X2_empty : GoodIn wsX5_clearText wsX2_empty := goodIn_r _ [7, 8, 15, 16] (by decide +kernel) (by decide +kernel)
set_option maxRecDepth 20000 in
theorem gX5_clearText_X2_empty : GoodIn wsX5_clearText (wsV RX5 67 RX2 yX2_empty wsX2_empty) := goodIn_app (goodIn_of _ (by decide +kernel)) ggX5_clearText_X2_empty
theorem dX5_clearText_0 : decode cX5_clearText 0 = .ok (.aload_n 0, 1) := by decide +kernel
theorem dX5_clearText_1 : decode cX5_clearText 1 = .ok (.getfield 14, 3) := by decide +kernel
theorem dX5_clearText_4 : decode cX5_clearText 4 = .ok (.getfield 63, 3) := by decide +kernel
theorem dX5_clearText_7 : decode cX5_clearText 7 = .ok (.istore_n 1, 1) := by decide +kernel
theorem dX5_clearText_8 : decode cX5_clearText 8 = .ok (.aload_n 0, 1) := by decide +kernel
theorem dX5_clearText_9 : decode cX5_clearText 9 = .ok (.getfield 14, 3) := by decide +kernel
theorem dX5_clearText_12 : decode cX5_clearText 12 = .ok (.invokevirtual 67, 3) := by decide +kernel
theorem dX5_clearText_15 : decode cX5_clearText 15 = .ok (.iload_n 1, 1) := by decide +kernel
theorem dX5_clearText_16 : decode cX5_clearText 16 = .ok (.ireturn, 1) := by decide +kernel
set_option maxRecDepth 20000 in
theorem ggX5_errorPosition_X2_firstError : GoodIn wsX5_errorPosition wsX2_firstError := goodIn_r _ [6, 7, 8, 9, 10, 5, 11, 12, 13, 14, 15, 16, 17, 24, 25] (by decide +kernel) (by decide +kernel)
set_option maxRecDepth 20000 in
theorem gX5_errorPosition_X2_firstError : GoodIn wsX5_errorPosition (wsV RX5 70 RX2 yX2_firstError wsX2_firstError) := goodIn_app (goodIn_of _ (by decide +kernel)) ggX5_errorPosition_X2_firstError
theorem dX5_errorPosition_0 : decode cX5_errorPosition 0 = .ok (.aload_n 0, 1) := by decide +kernel
theorem dX5_errorPosition_1 : decode cX5_errorPosition 1 = .ok (.getfield 14, 3) := by decide +kernel
theorem dX5_errorPosition_4 : decode cX5_errorPosition 4 = .ok (.invokevirtual 70, 3) := by decide +kernel
theorem dX5_errorPosition_7 : decode cX5_errorPosition 7 = .ok (.ireturn, 1) := by decide +kernel
set_option maxRecDepth 20000 in
theorem ggX5_about_X3_pieces : GoodIn wsX5_about wsX3_pieces := goodIn_r _ [16, 17, 18, 19, 20, 15, 21, 22, 23, 24, 25, 62, 63, 64, 65, 66, 67] (by decide +kernel) (by decide +kernel)
set_option maxRecDepth 20000 in
theorem gX5_about_X3_pieces : GoodIn wsX5_about (wsV RX5 94 RX3 yX3_pieces wsX3_pieces) := goodIn_app (goodIn_of _ (by decide +kernel)) ggX5_about_X3_pieces
set_option maxRecDepth 20000 in
theorem ggX5_about_X3_longestRepeat : GoodIn wsX5_about wsX3_longestRepeat := goodIn_r _ [29, 17, 30, 31, 32, 33, 34, 35, 36, 15, 37, 38, 23, 24, 25, 62, 63, 64, 65, 66, 67] (by decide +kernel) (by decide +kernel)
set_option maxRecDepth 20000 in
theorem gX5_about_X3_longestRepeat : GoodIn wsX5_about (wsV RX5 99 RX3 yX3_longestRepeat wsX3_longestRepeat) := goodIn_app (goodIn_of _ (by decide +kernel)) ggX5_about_X3_longestRepeat
set_option maxRecDepth 20000 in
theorem ggX5_about_X3_placeOfLongestRepeat : GoodIn wsX5_about wsX3_placeOfLongestRepeat := goodIn_r _ [42, 17, 43, 27, 28, 15, 29, 30, 31, 32, 33, 34, 35, 36, 37, 38, 23, 24, 25, 62, 63, 64, 65, 66, 67] (by decide +kernel) (by decide +kernel)
set_option maxRecDepth 20000 in
theorem gX5_about_X3_placeOfLongestRepeat : GoodIn wsX5_about (wsV RX5 102 RX3 yX3_placeOfLongestRepeat wsX3_placeOfLongestRepeat) := goodIn_app (goodIn_of _ (by decide +kernel)) ggX5_about_X3_placeOfLongestRepeat
theorem dX5_about_0 : decode cX5_about 0 = .ok (.iload_n 1, 1) := by decide +kernel
theorem dX5_about_1 : decode cX5_about 1 = .ok (.tableswitch 150 0 8 #[51, 62, 73, 84, 95, 106, 117, 128, 139], 51) := by decide +kernel
theorem dX5_about_52 : decode cX5_about 52 = .ok (.aload_n 0, 1) := by decide +kernel
theorem dX5_about_53 : decode cX5_about 53 = .ok (.getfield 21, 3) := by decide +kernel
theorem dX5_about_56 : decode cX5_about 56 = .ok (.getfield 74, 3) := by decide +kernel
theorem dX5_about_59 : decode cX5_about 59 = .ok (.getfield 78, 3) := by decide +kernel
theorem dX5_about_62 : decode cX5_about 62 = .ok (.ireturn, 1) := by decide +kernel
theorem dX5_about_63 : decode cX5_about 63 = .ok (.aload_n 0, 1) := by decide +kernel
theorem dX5_about_64 : decode cX5_about 64 = .ok (.getfield 21, 3) := by decide +kernel
theorem dX5_about_67 : decode cX5_about 67 = .ok (.getfield 74, 3) := by decide +kernel
theorem dX5_about_70 : decode cX5_about 70 = .ok (.getfield 81, 3) := by decide +kernel
theorem dX5_about_73 : decode cX5_about 73 = .ok (.ireturn, 1) := by decide +kernel
theorem dX5_about_74 : decode cX5_about 74 = .ok (.aload_n 0, 1) := by decide +kernel
theorem dX5_about_75 : decode cX5_about 75 = .ok (.getfield 21, 3) := by decide +kernel
theorem dX5_about_78 : decode cX5_about 78 = .ok (.getfield 74, 3) := by decide +kernel
theorem dX5_about_81 : decode cX5_about 81 = .ok (.getfield 84, 3) := by decide +kernel
theorem dX5_about_84 : decode cX5_about 84 = .ok (.ireturn, 1) := by decide +kernel
theorem dX5_about_85 : decode cX5_about 85 = .ok (.aload_n 0, 1) := by decide +kernel
theorem dX5_about_86 : decode cX5_about 86 = .ok (.getfield 21, 3) := by decide +kernel
theorem dX5_about_89 : decode cX5_about 89 = .ok (.getfield 74, 3) := by decide +kernel
theorem dX5_about_92 : decode cX5_about 92 = .ok (.getfield 87, 3) := by decide +kernel
theorem dX5_about_95 : decode cX5_about 95 = .ok (.ireturn, 1) := by decide +kernel
theorem dX5_about_96 : decode cX5_about 96 = .ok (.aload_n 0, 1) := by decide +kernel
theorem dX5_about_97 : decode cX5_about 97 = .ok (.getfield 21, 3) := by decide +kernel
theorem dX5_about_100 : decode cX5_about 100 = .ok (.getfield 90, 3) := by decide +kernel
theorem dX5_about_103 : decode cX5_about 103 = .ok (.invokevirtual 94, 3) := by decide +kernel
theorem dX5_about_106 : decode cX5_about 106 = .ok (.ireturn, 1) := by decide +kernel
theorem dX5_about_107 : decode cX5_about 107 = .ok (.aload_n 0, 1) := by decide +kernel
theorem dX5_about_108 : decode cX5_about 108 = .ok (.getfield 21, 3) := by decide +kernel
theorem dX5_about_111 : decode cX5_about 111 = .ok (.getfield 90, 3) := by decide +kernel
theorem dX5_about_114 : decode cX5_about 114 = .ok (.invokevirtual 99, 3) := by decide +kernel
theorem dX5_about_117 : decode cX5_about 117 = .ok (.ireturn, 1) := by decide +kernel
theorem dX5_about_118 : decode cX5_about 118 = .ok (.aload_n 0, 1) := by decide +kernel
theorem dX5_about_119 : decode cX5_about 119 = .ok (.getfield 21, 3) := by decide +kernel
theorem dX5_about_122 : decode cX5_about 122 = .ok (.getfield 90, 3) := by decide +kernel
theorem dX5_about_125 : decode cX5_about 125 = .ok (.invokevirtual 102, 3) := by decide +kernel
theorem dX5_about_128 : decode cX5_about 128 = .ok (.ireturn, 1) := by decide +kernel
theorem dX5_about_129 : decode cX5_about 129 = .ok (.aload_n 0, 1) := by decide +kernel
theorem dX5_about_130 : decode cX5_about 130 = .ok (.getfield 21, 3) := by decide +kernel
theorem dX5_about_133 : decode cX5_about 133 = .ok (.getfield 74, 3) := by decide +kernel
theorem dX5_about_136 : decode cX5_about 136 = .ok (.getfield 105, 3) := by decide +kernel
theorem dX5_about_139 : decode cX5_about 139 = .ok (.ireturn, 1) := by decide +kernel
theorem dX5_about_140 : decode cX5_about 140 = .ok (.aload_n 0, 1) := by decide +kernel
theorem dX5_about_141 : decode cX5_about 141 = .ok (.getfield 21, 3) := by decide +kernel
theorem dX5_about_144 : decode cX5_about 144 = .ok (.getfield 74, 3) := by decide +kernel
theorem dX5_about_147 : decode cX5_about 147 = .ok (.getfield 108, 3) := by decide +kernel
theorem dX5_about_150 : decode cX5_about 150 = .ok (.ireturn, 1) := by decide +kernel
theorem dX5_about_151 : decode cX5_about 151 = .ok (.new 44, 3) := by decide +kernel
theorem dX5_about_154 : decode cX5_about 154 = .ok (.dup, 1) := by decide +kernel
theorem dX5_about_155 : decode cX5_about 155 = .ok (.ldc 111, 2) := by decide +kernel
theorem dX5_about_157 : decode cX5_about 157 = .ok (.invokespecial 48, 3) := by decide +kernel
theorem dX5_about_160 : decode cX5_about 160 = .ok (.athrow, 1) := by decide +kernel
set_option maxRecDepth 20000 in
theorem ggX5_note_X4_codeAt : GoodIn wsX5_note wsX4_codeAt := goodIn_r _ [13, 14, 15, 16, 17, 51, 52, 53, 54, 55, 56, 57, 58] (by decide +kernel) (by decide +kernel)
set_option maxRecDepth 20000 in
theorem gX5_note_X4_codeAt : GoodIn wsX5_note (wsV RX5 118 RX4 yX4_codeAt wsX4_codeAt) := goodIn_app (goodIn_of _ (by decide +kernel)) ggX5_note_X4_codeAt
set_option maxRecDepth 20000 in
theorem ggX5_note_X3_rankOf : GoodIn wsX5_note wsX3_rankOf := goodIn_r _ [22, 23, 15, 16, 17, 59, 60, 61, 62, 63, 64] (by decide +kernel) (by decide +kernel)
set_option maxRecDepth 20000 in
theorem gX5_note_X3_rankOf : GoodIn wsX5_note (wsV RX5 122 RX3 yX3_rankOf wsX3_rankOf) := goodIn_app (goodIn_of _ (by decide +kernel)) ggX5_note_X3_rankOf
set_option maxRecDepth 20000 in
theorem ggX5_note_X4_verseAt : GoodIn wsX5_note wsX4_verseAt := goodIn_r _ [27, 28, 29, 15, 16, 17, 51, 52, 53, 54, 55, 56, 57, 58] (by decide +kernel) (by decide +kernel)
set_option maxRecDepth 20000 in
theorem gX5_note_X4_verseAt : GoodIn wsX5_note (wsV RX5 125 RX4 yX4_verseAt wsX4_verseAt) := goodIn_app (goodIn_of _ (by decide +kernel)) ggX5_note_X4_verseAt
set_option maxRecDepth 20000 in
theorem ggX5_note_X0_keeperOf : GoodIn wsX5_note wsX0_keeperOf := goodIn_r _ [34, 35, 15, 16, 17, 47, 48, 49, 50] (by decide +kernel) (by decide +kernel)
set_option maxRecDepth 20000 in
theorem gX5_note_X0_keeperOf : GoodIn wsX5_note (wsV RX5 128 RX0 yX0_keeperOf wsX0_keeperOf) := goodIn_app (goodIn_of _ (by decide +kernel)) ggX5_note_X0_keeperOf
set_option maxRecDepth 20000 in
theorem ggX5_note_X3_sharedWithAhead : GoodIn wsX5_note wsX3_sharedWithAhead := goodIn_r _ [39, 40, 15, 16, 17, 59, 60, 61, 62, 63, 64] (by decide +kernel) (by decide +kernel)
set_option maxRecDepth 20000 in
theorem gX5_note_X3_sharedWithAhead : GoodIn wsX5_note (wsV RX5 131 RX3 yX3_sharedWithAhead wsX3_sharedWithAhead) := goodIn_app (goodIn_of _ (by decide +kernel)) ggX5_note_X3_sharedWithAhead
theorem dX5_note_0 : decode cX5_note 0 = .ok (.iload_n 1, 1) := by decide +kernel
theorem dX5_note_1 : decode cX5_note 1 = .ok (.ifCond .lt 17, 3) := by decide +kernel
theorem dX5_note_4 : decode cX5_note 4 = .ok (.iload_n 1, 1) := by decide +kernel
theorem dX5_note_5 : decode cX5_note 5 = .ok (.aload_n 0, 1) := by decide +kernel
theorem dX5_note_6 : decode cX5_note 6 = .ok (.getfield 21, 3) := by decide +kernel
theorem dX5_note_9 : decode cX5_note 9 = .ok (.getfield 74, 3) := by decide +kernel
theorem dX5_note_12 : decode cX5_note 12 = .ok (.getfield 78, 3) := by decide +kernel
theorem dX5_note_15 : decode cX5_note 15 = .ok (.if_icmp .lt 13, 3) := by decide +kernel
theorem dX5_note_18 : decode cX5_note 18 = .ok (.new 113, 3) := by decide +kernel
theorem dX5_note_21 : decode cX5_note 21 = .ok (.dup, 1) := by decide +kernel
theorem dX5_note_22 : decode cX5_note 22 = .ok (.ldc 115, 2) := by decide +kernel
theorem dX5_note_24 : decode cX5_note 24 = .ok (.invokespecial 117, 3) := by decide +kernel
theorem dX5_note_27 : decode cX5_note 27 = .ok (.athrow, 1) := by decide +kernel
theorem dX5_note_28 : decode cX5_note 28 = .ok (.iload_n 2, 1) := by decide +kernel
theorem dX5_note_29 : decode cX5_note 29 = .ok (.tableswitch 92 0 4 #[35, 47, 59, 71, 80], 35) := by decide +kernel
theorem dX5_note_64 : decode cX5_note 64 = .ok (.aload_n 0, 1) := by decide +kernel
theorem dX5_note_65 : decode cX5_note 65 = .ok (.getfield 21, 3) := by decide +kernel
theorem dX5_note_68 : decode cX5_note 68 = .ok (.getfield 74, 3) := by decide +kernel
theorem dX5_note_71 : decode cX5_note 71 = .ok (.iload_n 1, 1) := by decide +kernel
theorem dX5_note_72 : decode cX5_note 72 = .ok (.invokevirtual 118, 3) := by decide +kernel
theorem dX5_note_75 : decode cX5_note 75 = .ok (.ireturn, 1) := by decide +kernel
theorem dX5_note_76 : decode cX5_note 76 = .ok (.aload_n 0, 1) := by decide +kernel
theorem dX5_note_77 : decode cX5_note 77 = .ok (.getfield 21, 3) := by decide +kernel
theorem dX5_note_80 : decode cX5_note 80 = .ok (.getfield 90, 3) := by decide +kernel
theorem dX5_note_83 : decode cX5_note 83 = .ok (.iload_n 1, 1) := by decide +kernel
theorem dX5_note_84 : decode cX5_note 84 = .ok (.invokevirtual 122, 3) := by decide +kernel
theorem dX5_note_87 : decode cX5_note 87 = .ok (.ireturn, 1) := by decide +kernel
theorem dX5_note_88 : decode cX5_note 88 = .ok (.aload_n 0, 1) := by decide +kernel
theorem dX5_note_89 : decode cX5_note 89 = .ok (.getfield 21, 3) := by decide +kernel
theorem dX5_note_92 : decode cX5_note 92 = .ok (.getfield 74, 3) := by decide +kernel
theorem dX5_note_95 : decode cX5_note 95 = .ok (.iload_n 1, 1) := by decide +kernel
theorem dX5_note_96 : decode cX5_note 96 = .ok (.invokevirtual 125, 3) := by decide +kernel
theorem dX5_note_99 : decode cX5_note 99 = .ok (.ireturn, 1) := by decide +kernel
theorem dX5_note_100 : decode cX5_note 100 = .ok (.aload_n 0, 1) := by decide +kernel
theorem dX5_note_101 : decode cX5_note 101 = .ok (.getfield 21, 3) := by decide +kernel
theorem dX5_note_104 : decode cX5_note 104 = .ok (.iload_n 1, 1) := by decide +kernel
theorem dX5_note_105 : decode cX5_note 105 = .ok (.invokevirtual 128, 3) := by decide +kernel
theorem dX5_note_108 : decode cX5_note 108 = .ok (.ireturn, 1) := by decide +kernel
theorem dX5_note_109 : decode cX5_note 109 = .ok (.aload_n 0, 1) := by decide +kernel
theorem dX5_note_110 : decode cX5_note 110 = .ok (.getfield 21, 3) := by decide +kernel
theorem dX5_note_113 : decode cX5_note 113 = .ok (.getfield 90, 3) := by decide +kernel
theorem dX5_note_116 : decode cX5_note 116 = .ok (.iload_n 1, 1) := by decide +kernel
theorem dX5_note_117 : decode cX5_note 117 = .ok (.invokevirtual 131, 3) := by decide +kernel
theorem dX5_note_120 : decode cX5_note 120 = .ok (.ireturn, 1) := by decide +kernel
theorem dX5_note_121 : decode cX5_note 121 = .ok (.new 44, 3) := by decide +kernel
theorem dX5_note_124 : decode cX5_note 124 = .ok (.dup, 1) := by decide +kernel
theorem dX5_note_125 : decode cX5_note 125 = .ok (.ldc 134, 2) := by decide +kernel
theorem dX5_note_127 : decode cX5_note 127 = .ok (.invokespecial 48, 3) := by decide +kernel
theorem dX5_note_130 : decode cX5_note 130 = .ok (.athrow, 1) := by decide +kernel
set_option maxRecDepth 20000 in
theorem ggX5_suffix_X3_placeAt : GoodIn wsX5_suffix wsX3_placeAt := goodIn_r _ [9, 10, 11, 22, 23, 24, 25, 26, 27] (by decide +kernel) (by decide +kernel)
set_option maxRecDepth 20000 in
theorem gX5_suffix_X3_placeAt : GoodIn wsX5_suffix (wsV RX5 138 RX3 yX3_placeAt wsX3_placeAt) := goodIn_app (goodIn_of _ (by decide +kernel)) ggX5_suffix_X3_placeAt
theorem dX5_suffix_0 : decode cX5_suffix 0 = .ok (.iload_n 1, 1) := by decide +kernel
theorem dX5_suffix_1 : decode cX5_suffix 1 = .ok (.ifCond .ge 13, 3) := by decide +kernel
theorem dX5_suffix_4 : decode cX5_suffix 4 = .ok (.new 44, 3) := by decide +kernel
theorem dX5_suffix_7 : decode cX5_suffix 7 = .ok (.dup, 1) := by decide +kernel
theorem dX5_suffix_8 : decode cX5_suffix 8 = .ok (.ldc 136, 2) := by decide +kernel
theorem dX5_suffix_10 : decode cX5_suffix 10 = .ok (.invokespecial 48, 3) := by decide +kernel
theorem dX5_suffix_13 : decode cX5_suffix 13 = .ok (.athrow, 1) := by decide +kernel
theorem dX5_suffix_14 : decode cX5_suffix 14 = .ok (.aload_n 0, 1) := by decide +kernel
theorem dX5_suffix_15 : decode cX5_suffix 15 = .ok (.getfield 21, 3) := by decide +kernel
theorem dX5_suffix_18 : decode cX5_suffix 18 = .ok (.getfield 90, 3) := by decide +kernel
theorem dX5_suffix_21 : decode cX5_suffix 21 = .ok (.iload_n 1, 1) := by decide +kernel
theorem dX5_suffix_22 : decode cX5_suffix 22 = .ok (.invokevirtual 138, 3) := by decide +kernel
theorem dX5_suffix_25 : decode cX5_suffix 25 = .ok (.ireturn, 1) := by decide +kernel
set_option maxRecDepth 20000 in
theorem ggX5_verse_X4_hasVerse : GoodIn wsX5_verse wsX4_hasVerse := goodIn_r _ [11, 12, 58, 59, 60, 61, 62, 63, 64, 65] (by decide +kernel) (by decide +kernel)
set_option maxRecDepth 20000 in
theorem gX5_verse_X4_hasVerse : GoodIn wsX5_verse (wsV RX5 141 RX4 yX4_hasVerse wsX4_hasVerse) := goodIn_app (goodIn_of _ (by decide +kernel)) ggX5_verse_X4_hasVerse
set_option maxRecDepth 20000 in
theorem ggX5_verse_X4_startOf : GoodIn wsX5_verse wsX4_startOf := goodIn_r _ [16, 12, 17, 18, 19, 20, 58, 59, 60, 61, 62, 63, 64, 65] (by decide +kernel) (by decide +kernel)
set_option maxRecDepth 20000 in
theorem gX5_verse_X4_startOf : GoodIn wsX5_verse (wsV RX5 147 RX4 yX4_startOf wsX4_startOf) := goodIn_app (goodIn_of _ (by decide +kernel)) ggX5_verse_X4_startOf
set_option maxRecDepth 20000 in
theorem ggX5_verse_X4_lengthOf : GoodIn wsX5_verse wsX4_lengthOf := goodIn_r _ [24, 17, 25, 8, 9, 10, 11, 12, 18, 19, 20, 58, 59, 60, 61, 62, 63, 64, 65] (by decide +kernel) (by decide +kernel)
set_option maxRecDepth 20000 in
theorem gX5_verse_X4_lengthOf : GoodIn wsX5_verse (wsV RX5 150 RX4 yX4_lengthOf wsX4_lengthOf) := goodIn_app (goodIn_of _ (by decide +kernel)) ggX5_verse_X4_lengthOf
set_option maxRecDepth 20000 in
theorem ggX5_verse_X0_longestRepeatIn : GoodIn wsX5_verse wsX0_longestRepeatIn := goodIn_r _ [30, 31, 32, 33, 34, 35, 36, 37, 38, 39, 40, 14, 15, 10, 16, 12, 17, 18, 19, 20, 41, 22, 23, 24, 25, 8, 9, 11, 42, 43, 44, 45, 46, 47, 54, 55, 56, 57, 58, 59, 60, 61, 62, 63, 64, 65, 66, 67, 68, 69, 70, 71] (by decide +kernel) (by decide +kernel)
set_option maxRecDepth 20000 in
theorem gX5_verse_X0_longestRepeatIn : GoodIn wsX5_verse (wsV RX5 153 RX0 yX0_longestRepeatIn wsX0_longestRepeatIn) := goodIn_app (goodIn_of _ (by decide +kernel)) ggX5_verse_X0_longestRepeatIn
theorem dX5_verse_0 : decode cX5_verse 0 = .ok (.aload_n 0, 1) := by decide +kernel
theorem dX5_verse_1 : decode cX5_verse 1 = .ok (.getfield 21, 3) := by decide +kernel
theorem dX5_verse_4 : decode cX5_verse 4 = .ok (.getfield 74, 3) := by decide +kernel
theorem dX5_verse_7 : decode cX5_verse 7 = .ok (.iload_n 1, 1) := by decide +kernel
theorem dX5_verse_8 : decode cX5_verse 8 = .ok (.invokevirtual 141, 3) := by decide +kernel
theorem dX5_verse_11 : decode cX5_verse 11 = .ok (.ifCond .ne 13, 3) := by decide +kernel
theorem dX5_verse_14 : decode cX5_verse 14 = .ok (.new 113, 3) := by decide +kernel
theorem dX5_verse_17 : decode cX5_verse 17 = .ok (.dup, 1) := by decide +kernel
theorem dX5_verse_18 : decode cX5_verse 18 = .ok (.ldc 145, 2) := by decide +kernel
theorem dX5_verse_20 : decode cX5_verse 20 = .ok (.invokespecial 117, 3) := by decide +kernel
theorem dX5_verse_23 : decode cX5_verse 23 = .ok (.athrow, 1) := by decide +kernel
theorem dX5_verse_24 : decode cX5_verse 24 = .ok (.iload_n 2, 1) := by decide +kernel
theorem dX5_verse_25 : decode cX5_verse 25 = .ok (.tableswitch 60 0 2 #[27, 39, 51], 27) := by decide +kernel
theorem dX5_verse_52 : decode cX5_verse 52 = .ok (.aload_n 0, 1) := by decide +kernel
theorem dX5_verse_53 : decode cX5_verse 53 = .ok (.getfield 21, 3) := by decide +kernel
theorem dX5_verse_56 : decode cX5_verse 56 = .ok (.getfield 74, 3) := by decide +kernel
theorem dX5_verse_59 : decode cX5_verse 59 = .ok (.iload_n 1, 1) := by decide +kernel
theorem dX5_verse_60 : decode cX5_verse 60 = .ok (.invokevirtual 147, 3) := by decide +kernel
theorem dX5_verse_63 : decode cX5_verse 63 = .ok (.ireturn, 1) := by decide +kernel
theorem dX5_verse_64 : decode cX5_verse 64 = .ok (.aload_n 0, 1) := by decide +kernel
theorem dX5_verse_65 : decode cX5_verse 65 = .ok (.getfield 21, 3) := by decide +kernel
theorem dX5_verse_68 : decode cX5_verse 68 = .ok (.getfield 74, 3) := by decide +kernel
theorem dX5_verse_71 : decode cX5_verse 71 = .ok (.iload_n 1, 1) := by decide +kernel
theorem dX5_verse_72 : decode cX5_verse 72 = .ok (.invokevirtual 150, 3) := by decide +kernel
theorem dX5_verse_75 : decode cX5_verse 75 = .ok (.ireturn, 1) := by decide +kernel
theorem dX5_verse_76 : decode cX5_verse 76 = .ok (.aload_n 0, 1) := by decide +kernel
theorem dX5_verse_77 : decode cX5_verse 77 = .ok (.getfield 21, 3) := by decide +kernel
theorem dX5_verse_80 : decode cX5_verse 80 = .ok (.iload_n 1, 1) := by decide +kernel
theorem dX5_verse_81 : decode cX5_verse 81 = .ok (.invokevirtual 153, 3) := by decide +kernel
theorem dX5_verse_84 : decode cX5_verse 84 = .ok (.ireturn, 1) := by decide +kernel
theorem dX5_verse_85 : decode cX5_verse 85 = .ok (.new 44, 3) := by decide +kernel
theorem dX5_verse_88 : decode cX5_verse 88 = .ok (.dup, 1) := by decide +kernel
theorem dX5_verse_89 : decode cX5_verse 89 = .ok (.ldc 156, 2) := by decide +kernel
theorem dX5_verse_91 : decode cX5_verse 91 = .ok (.invokespecial 48, 3) := by decide +kernel
theorem dX5_verse_94 : decode cX5_verse 94 = .ok (.athrow, 1) := by decide +kernel
set_option maxRecDepth 20000 in
theorem ggX5_singer_X4_lowestRankOf : GoodIn wsX5_singer wsX4_lowestRankOf := goodIn_r _ [13, 14, 15, 49, 50, 51, 52, 53, 54, 55, 56] (by decide +kernel) (by decide +kernel)
set_option maxRecDepth 20000 in
theorem gX5_singer_X4_lowestRankOf : GoodIn wsX5_singer (wsV RX5 160 RX4 yX4_lowestRankOf wsX4_lowestRankOf) := goodIn_app (goodIn_of _ (by decide +kernel)) ggX5_singer_X4_lowestRankOf
set_option maxRecDepth 20000 in
theorem ggX5_singer_X3_sharedByAll : GoodIn wsX5_singer wsX3_sharedByAll := goodIn_r _ [20, 21, 22, 23, 24, 25, 26, 27, 28, 19, 29, 30, 31, 32, 33, 34, 35, 36, 37, 38, 57, 58, 59, 60, 61, 62] (by decide +kernel) (by decide +kernel)
set_option maxRecDepth 20000 in
theorem gX5_singer_X3_sharedByAll : GoodIn wsX5_singer (wsV RX5 163 RX3 yX3_sharedByAll wsX3_sharedByAll) := goodIn_app (goodIn_of _ (by decide +kernel)) ggX5_singer_X3_sharedByAll
theorem dX5_singer_0 : decode cX5_singer 0 = .ok (.iload_n 1, 1) := by decide +kernel
theorem dX5_singer_1 : decode cX5_singer 1 = .ok (.ifCond .lt 17, 3) := by decide +kernel
theorem dX5_singer_4 : decode cX5_singer 4 = .ok (.iload_n 1, 1) := by decide +kernel
theorem dX5_singer_5 : decode cX5_singer 5 = .ok (.aload_n 0, 1) := by decide +kernel
theorem dX5_singer_6 : decode cX5_singer 6 = .ok (.getfield 21, 3) := by decide +kernel
theorem dX5_singer_9 : decode cX5_singer 9 = .ok (.getfield 74, 3) := by decide +kernel
theorem dX5_singer_12 : decode cX5_singer 12 = .ok (.getfield 84, 3) := by decide +kernel
theorem dX5_singer_15 : decode cX5_singer 15 = .ok (.if_icmp .lt 13, 3) := by decide +kernel
theorem dX5_singer_18 : decode cX5_singer 18 = .ok (.new 113, 3) := by decide +kernel
theorem dX5_singer_21 : decode cX5_singer 21 = .ok (.dup, 1) := by decide +kernel
theorem dX5_singer_22 : decode cX5_singer 22 = .ok (.ldc 158, 2) := by decide +kernel
theorem dX5_singer_24 : decode cX5_singer 24 = .ok (.invokespecial 117, 3) := by decide +kernel
theorem dX5_singer_27 : decode cX5_singer 27 = .ok (.athrow, 1) := by decide +kernel
theorem dX5_singer_28 : decode cX5_singer 28 = .ok (.aload_n 0, 1) := by decide +kernel
theorem dX5_singer_29 : decode cX5_singer 29 = .ok (.getfield 21, 3) := by decide +kernel
theorem dX5_singer_32 : decode cX5_singer 32 = .ok (.getfield 74, 3) := by decide +kernel
theorem dX5_singer_35 : decode cX5_singer 35 = .ok (.iload_n 1, 1) := by decide +kernel
theorem dX5_singer_36 : decode cX5_singer 36 = .ok (.invokevirtual 160, 3) := by decide +kernel
theorem dX5_singer_39 : decode cX5_singer 39 = .ok (.istore_n 3, 1) := by decide +kernel
theorem dX5_singer_40 : decode cX5_singer 40 = .ok (.aload_n 0, 1) := by decide +kernel
theorem dX5_singer_41 : decode cX5_singer 41 = .ok (.getfield 21, 3) := by decide +kernel
theorem dX5_singer_44 : decode cX5_singer 44 = .ok (.getfield 74, 3) := by decide +kernel
theorem dX5_singer_47 : decode cX5_singer 47 = .ok (.iload_n 1, 1) := by decide +kernel
theorem dX5_singer_48 : decode cX5_singer 48 = .ok (.iconst 1, 1) := by decide +kernel
theorem dX5_singer_49 : decode cX5_singer 49 = .ok (.iadd, 1) := by decide +kernel
theorem dX5_singer_50 : decode cX5_singer 50 = .ok (.invokevirtual 160, 3) := by decide +kernel
theorem dX5_singer_53 : decode cX5_singer 53 = .ok (.istore 4, 2) := by decide +kernel
theorem dX5_singer_55 : decode cX5_singer 55 = .ok (.iload_n 2, 1) := by decide +kernel
theorem dX5_singer_56 : decode cX5_singer 56 = .ok (.tableswitch 49 0 2 #[28, 30, 35], 28) := by decide +kernel
theorem dX5_singer_84 : decode cX5_singer 84 = .ok (.iload_n 3, 1) := by decide +kernel
theorem dX5_singer_85 : decode cX5_singer 85 = .ok (.ireturn, 1) := by decide +kernel
theorem dX5_singer_86 : decode cX5_singer 86 = .ok (.iload 4, 2) := by decide +kernel
theorem dX5_singer_88 : decode cX5_singer 88 = .ok (.iload_n 3, 1) := by decide +kernel
theorem dX5_singer_89 : decode cX5_singer 89 = .ok (.isub, 1) := by decide +kernel
theorem dX5_singer_90 : decode cX5_singer 90 = .ok (.ireturn, 1) := by decide +kernel
theorem dX5_singer_91 : decode cX5_singer 91 = .ok (.aload_n 0, 1) := by decide +kernel
theorem dX5_singer_92 : decode cX5_singer 92 = .ok (.getfield 21, 3) := by decide +kernel
theorem dX5_singer_95 : decode cX5_singer 95 = .ok (.getfield 90, 3) := by decide +kernel
theorem dX5_singer_98 : decode cX5_singer 98 = .ok (.iload_n 3, 1) := by decide +kernel
theorem dX5_singer_99 : decode cX5_singer 99 = .ok (.iload 4, 2) := by decide +kernel
theorem dX5_singer_101 : decode cX5_singer 101 = .ok (.invokevirtual 163, 3) := by decide +kernel
theorem dX5_singer_104 : decode cX5_singer 104 = .ok (.ireturn, 1) := by decide +kernel
theorem dX5_singer_105 : decode cX5_singer 105 = .ok (.new 44, 3) := by decide +kernel
theorem dX5_singer_108 : decode cX5_singer 108 = .ok (.dup, 1) := by decide +kernel
theorem dX5_singer_109 : decode cX5_singer 109 = .ok (.ldc 167, 2) := by decide +kernel
theorem dX5_singer_111 : decode cX5_singer 111 = .ok (.invokespecial 48, 3) := by decide +kernel
theorem dX5_singer_114 : decode cX5_singer 114 = .ok (.athrow, 1) := by decide +kernel
set_option maxRecDepth 20000 in
theorem ggX5_count_X2_isPattern : GoodIn wsX5_count wsX2_isPattern := goodIn_r _ [11, 12, 13, 14, 10, 15, 16, 17, 18, 19, 20, 21, 22, 23, 24, 25, 26, 61, 62] (by decide +kernel) (by decide +kernel)
set_option maxRecDepth 20000 in
theorem gX5_count_X2_isPattern : GoodIn wsX5_count (wsV RX5 169 RX2 yX2_isPattern wsX2_isPattern) := goodIn_app (goodIn_of _ (by decide +kernel)) ggX5_count_X2_isPattern
set_option maxRecDepth 20000 in
theorem ggX5_count_X5_isSungAt : GoodIn wsX5_count wsX5_isSungAt := goodIn_r _ [30, 3, 4, 5, 31, 32, 33, 34, 10, 35, 16, 36, 17, 18, 19, 20, 21, 22, 23, 24, 37, 38, 39, 40, 41, 42, 43, 44, 45, 46, 47, 48, 49, 50, 51, 52, 61, 62, 53, 54, 55, 56, 57, 58, 59, 60] (by decide +kernel) (by decide +kernel)
set_option maxRecDepth 20000 in
theorem gX5_count_X5_isSungAt : GoodIn wsX5_count (wsV RX5 174 RX5 yX5_isSungAt wsX5_isSungAt) := goodIn_app (goodIn_of _ (by decide +kernel)) ggX5_count_X5_isSungAt
theorem dX5_count_0 : decode cX5_count 0 = .ok (.aload_n 0, 1) := by decide +kernel
theorem dX5_count_1 : decode cX5_count 1 = .ok (.getfield 14, 3) := by decide +kernel
theorem dX5_count_4 : decode cX5_count 4 = .ok (.invokevirtual 169, 3) := by decide +kernel
theorem dX5_count_7 : decode cX5_count 7 = .ok (.ifCond .ne 13, 3) := by decide +kernel
theorem dX5_count_10 : decode cX5_count 10 = .ok (.new 55, 3) := by decide +kernel
theorem dX5_count_13 : decode cX5_count 13 = .ok (.dup, 1) := by decide +kernel
theorem dX5_count_14 : decode cX5_count 14 = .ok (.ldc 172, 2) := by decide +kernel
theorem dX5_count_16 : decode cX5_count 16 = .ok (.invokespecial 59, 3) := by decide +kernel
theorem dX5_count_19 : decode cX5_count 19 = .ok (.athrow, 1) := by decide +kernel
theorem dX5_count_20 : decode cX5_count 20 = .ok (.iconst 0, 1) := by decide +kernel
theorem dX5_count_21 : decode cX5_count 21 = .ok (.istore_n 1, 1) := by decide +kernel
theorem dX5_count_22 : decode cX5_count 22 = .ok (.iconst 0, 1) := by decide +kernel
theorem dX5_count_23 : decode cX5_count 23 = .ok (.istore_n 2, 1) := by decide +kernel
theorem dX5_count_24 : decode cX5_count 24 = .ok (.iload_n 2, 1) := by decide +kernel
theorem dX5_count_25 : decode cX5_count 25 = .ok (.aload_n 0, 1) := by decide +kernel
theorem dX5_count_26 : decode cX5_count 26 = .ok (.getfield 21, 3) := by decide +kernel
theorem dX5_count_29 : decode cX5_count 29 = .ok (.getfield 74, 3) := by decide +kernel
theorem dX5_count_32 : decode cX5_count 32 = .ok (.getfield 78, 3) := by decide +kernel
theorem dX5_count_35 : decode cX5_count 35 = .ok (.if_icmp .ge 20, 3) := by decide +kernel
theorem dX5_count_38 : decode cX5_count 38 = .ok (.aload_n 0, 1) := by decide +kernel
theorem dX5_count_39 : decode cX5_count 39 = .ok (.iload_n 2, 1) := by decide +kernel
theorem dX5_count_40 : decode cX5_count 40 = .ok (.invokevirtual 174, 3) := by decide +kernel
theorem dX5_count_43 : decode cX5_count 43 = .ok (.ifCond .eq 6, 3) := by decide +kernel
theorem dX5_count_46 : decode cX5_count 46 = .ok (.iinc 1 1, 3) := by decide +kernel
theorem dX5_count_49 : decode cX5_count 49 = .ok (.iinc 2 1, 3) := by decide +kernel
theorem dX5_count_52 : decode cX5_count 52 = .ok (.goto (-28), 3) := by decide +kernel
theorem dX5_count_55 : decode cX5_count 55 = .ok (.iload_n 1, 1) := by decide +kernel
theorem dX5_count_56 : decode cX5_count 56 = .ok (.ireturn, 1) := by decide +kernel
set_option maxRecDepth 20000 in
theorem ggX5_placeOf_X2_isPattern : GoodIn wsX5_placeOf wsX2_isPattern := goodIn_r _ [13, 14, 15, 16, 12, 17, 18, 19, 20, 21, 22, 23, 24, 25, 26, 27, 28, 63, 64] (by decide +kernel) (by decide +kernel)
set_option maxRecDepth 20000 in
theorem gX5_placeOf_X2_isPattern : GoodIn wsX5_placeOf (wsV RX5 169 RX2 yX2_isPattern wsX2_isPattern) := goodIn_app (goodIn_of _ (by decide +kernel)) ggX5_placeOf_X2_isPattern
set_option maxRecDepth 20000 in
theorem ggX5_placeOf_X5_isSungAt : GoodIn wsX5_placeOf wsX5_isSungAt := goodIn_r _ [32, 5, 6, 7, 33, 34, 35, 36, 12, 37, 18, 38, 19, 20, 21, 22, 23, 24, 25, 26, 39, 40, 41, 42, 43, 44, 45, 46, 47, 48, 49, 50, 51, 52, 53, 54, 63, 64, 55, 56, 57, 58, 59, 60, 61, 62] (by decide +kernel) (by decide +kernel)
set_option maxRecDepth 20000 in
theorem gX5_placeOf_X5_isSungAt : GoodIn wsX5_placeOf (wsV RX5 174 RX5 yX5_isSungAt wsX5_isSungAt) := goodIn_app (goodIn_of _ (by decide +kernel)) ggX5_placeOf_X5_isSungAt
theorem dX5_placeOf_0 : decode cX5_placeOf 0 = .ok (.iload_n 1, 1) := by decide +kernel
theorem dX5_placeOf_1 : decode cX5_placeOf 1 = .ok (.ifCond .ge 13, 3) := by decide +kernel
theorem dX5_placeOf_4 : decode cX5_placeOf 4 = .ok (.new 44, 3) := by decide +kernel
theorem dX5_placeOf_7 : decode cX5_placeOf 7 = .ok (.dup, 1) := by decide +kernel
theorem dX5_placeOf_8 : decode cX5_placeOf 8 = .ok (.ldc 177, 2) := by decide +kernel
theorem dX5_placeOf_10 : decode cX5_placeOf 10 = .ok (.invokespecial 48, 3) := by decide +kernel
theorem dX5_placeOf_13 : decode cX5_placeOf 13 = .ok (.athrow, 1) := by decide +kernel
theorem dX5_placeOf_14 : decode cX5_placeOf 14 = .ok (.aload_n 0, 1) := by decide +kernel
theorem dX5_placeOf_15 : decode cX5_placeOf 15 = .ok (.getfield 14, 3) := by decide +kernel
theorem dX5_placeOf_18 : decode cX5_placeOf 18 = .ok (.invokevirtual 169, 3) := by decide +kernel
theorem dX5_placeOf_21 : decode cX5_placeOf 21 = .ok (.ifCond .ne 13, 3) := by decide +kernel
theorem dX5_placeOf_24 : decode cX5_placeOf 24 = .ok (.new 55, 3) := by decide +kernel
theorem dX5_placeOf_27 : decode cX5_placeOf 27 = .ok (.dup, 1) := by decide +kernel
theorem dX5_placeOf_28 : decode cX5_placeOf 28 = .ok (.ldc 172, 2) := by decide +kernel
theorem dX5_placeOf_30 : decode cX5_placeOf 30 = .ok (.invokespecial 59, 3) := by decide +kernel
theorem dX5_placeOf_33 : decode cX5_placeOf 33 = .ok (.athrow, 1) := by decide +kernel
theorem dX5_placeOf_34 : decode cX5_placeOf 34 = .ok (.iconst 0, 1) := by decide +kernel
theorem dX5_placeOf_35 : decode cX5_placeOf 35 = .ok (.istore_n 2, 1) := by decide +kernel
theorem dX5_placeOf_36 : decode cX5_placeOf 36 = .ok (.iconst 0, 1) := by decide +kernel
theorem dX5_placeOf_37 : decode cX5_placeOf 37 = .ok (.istore_n 3, 1) := by decide +kernel
theorem dX5_placeOf_38 : decode cX5_placeOf 38 = .ok (.iload_n 3, 1) := by decide +kernel
theorem dX5_placeOf_39 : decode cX5_placeOf 39 = .ok (.aload_n 0, 1) := by decide +kernel
theorem dX5_placeOf_40 : decode cX5_placeOf 40 = .ok (.getfield 21, 3) := by decide +kernel
theorem dX5_placeOf_43 : decode cX5_placeOf 43 = .ok (.getfield 74, 3) := by decide +kernel
theorem dX5_placeOf_46 : decode cX5_placeOf 46 = .ok (.getfield 78, 3) := by decide +kernel
theorem dX5_placeOf_49 : decode cX5_placeOf 49 = .ok (.if_icmp .ge 27, 3) := by decide +kernel
theorem dX5_placeOf_52 : decode cX5_placeOf 52 = .ok (.aload_n 0, 1) := by decide +kernel
theorem dX5_placeOf_53 : decode cX5_placeOf 53 = .ok (.iload_n 3, 1) := by decide +kernel
theorem dX5_placeOf_54 : decode cX5_placeOf 54 = .ok (.invokevirtual 174, 3) := by decide +kernel
theorem dX5_placeOf_57 : decode cX5_placeOf 57 = .ok (.ifCond .eq 13, 3) := by decide +kernel
theorem dX5_placeOf_60 : decode cX5_placeOf 60 = .ok (.iload_n 2, 1) := by decide +kernel
theorem dX5_placeOf_61 : decode cX5_placeOf 61 = .ok (.iload_n 1, 1) := by decide +kernel
theorem dX5_placeOf_62 : decode cX5_placeOf 62 = .ok (.if_icmp .ne 5, 3) := by decide +kernel
theorem dX5_placeOf_65 : decode cX5_placeOf 65 = .ok (.iload_n 3, 1) := by decide +kernel
theorem dX5_placeOf_66 : decode cX5_placeOf 66 = .ok (.ireturn, 1) := by decide +kernel
theorem dX5_placeOf_67 : decode cX5_placeOf 67 = .ok (.iinc 2 1, 3) := by decide +kernel
theorem dX5_placeOf_70 : decode cX5_placeOf 70 = .ok (.iinc 3 1, 3) := by decide +kernel
theorem dX5_placeOf_73 : decode cX5_placeOf 73 = .ok (.goto (-35), 3) := by decide +kernel
theorem dX5_placeOf_76 : decode cX5_placeOf 76 = .ok (.iconst (-1), 1) := by decide +kernel
theorem dX5_placeOf_77 : decode cX5_placeOf 77 = .ok (.ireturn, 1) := by decide +kernel
set_option maxRecDepth 20000 in
theorem ggX5_known_X2_isPattern : GoodIn wsX5_known wsX2_isPattern := goodIn_r _ [15, 16, 17, 18, 14, 19, 20, 21, 22, 23, 24, 25, 26, 27, 28, 29, 30, 60, 61] (by decide +kernel) (by decide +kernel)
set_option maxRecDepth 20000 in
theorem gX5_known_X2_isPattern : GoodIn wsX5_known (wsV RX5 169 RX2 yX2_isPattern wsX2_isPattern) := goodIn_app (goodIn_of _ (by decide +kernel)) ggX5_known_X2_isPattern
set_option maxRecDepth 20000 in
theorem ggX5_known_X2_sharedWith : GoodIn wsX5_known wsX2_sharedWith := goodIn_r _ [34, 20, 35, 21, 22, 23, 14, 24, 25, 26, 27, 28, 36, 37, 38, 39, 40, 41, 60, 61, 52, 53, 54, 55, 56, 57, 58, 59] (by decide +kernel) (by decide +kernel)
set_option maxRecDepth 20000 in
theorem gX5_known_X2_sharedWith : GoodIn wsX5_known (wsV RX5 179 RX2 yX2_sharedWith wsX2_sharedWith) := goodIn_app (goodIn_of _ (by decide +kernel)) ggX5_known_X2_sharedWith
theorem dX5_known_0 : decode cX5_known 0 = .ok (.aload_n 0, 1) := by decide +kernel
theorem dX5_known_1 : decode cX5_known 1 = .ok (.getfield 14, 3) := by decide +kernel
theorem dX5_known_4 : decode cX5_known 4 = .ok (.invokevirtual 169, 3) := by decide +kernel
theorem dX5_known_7 : decode cX5_known 7 = .ok (.ifCond .ne 13, 3) := by decide +kernel
theorem dX5_known_10 : decode cX5_known 10 = .ok (.new 55, 3) := by decide +kernel
theorem dX5_known_13 : decode cX5_known 13 = .ok (.dup, 1) := by decide +kernel
theorem dX5_known_14 : decode cX5_known 14 = .ok (.ldc 172, 2) := by decide +kernel
theorem dX5_known_16 : decode cX5_known 16 = .ok (.invokespecial 59, 3) := by decide +kernel
theorem dX5_known_19 : decode cX5_known 19 = .ok (.athrow, 1) := by decide +kernel
theorem dX5_known_20 : decode cX5_known 20 = .ok (.iconst 0, 1) := by decide +kernel
theorem dX5_known_21 : decode cX5_known 21 = .ok (.istore_n 1, 1) := by decide +kernel
theorem dX5_known_22 : decode cX5_known 22 = .ok (.iconst 0, 1) := by decide +kernel
theorem dX5_known_23 : decode cX5_known 23 = .ok (.istore_n 2, 1) := by decide +kernel
theorem dX5_known_24 : decode cX5_known 24 = .ok (.iload_n 2, 1) := by decide +kernel
theorem dX5_known_25 : decode cX5_known 25 = .ok (.aload_n 0, 1) := by decide +kernel
theorem dX5_known_26 : decode cX5_known 26 = .ok (.getfield 21, 3) := by decide +kernel
theorem dX5_known_29 : decode cX5_known 29 = .ok (.getfield 74, 3) := by decide +kernel
theorem dX5_known_32 : decode cX5_known 32 = .ok (.getfield 78, 3) := by decide +kernel
theorem dX5_known_35 : decode cX5_known 35 = .ok (.if_icmp .ge 29, 3) := by decide +kernel
theorem dX5_known_38 : decode cX5_known 38 = .ok (.iload_n 1, 1) := by decide +kernel
theorem dX5_known_39 : decode cX5_known 39 = .ok (.aload_n 0, 1) := by decide +kernel
theorem dX5_known_40 : decode cX5_known 40 = .ok (.getfield 14, 3) := by decide +kernel
theorem dX5_known_43 : decode cX5_known 43 = .ok (.aload_n 0, 1) := by decide +kernel
theorem dX5_known_44 : decode cX5_known 44 = .ok (.getfield 21, 3) := by decide +kernel
theorem dX5_known_47 : decode cX5_known 47 = .ok (.getfield 74, 3) := by decide +kernel
theorem dX5_known_50 : decode cX5_known 50 = .ok (.iload_n 2, 1) := by decide +kernel
theorem dX5_known_51 : decode cX5_known 51 = .ok (.invokevirtual 179, 3) := by decide +kernel
theorem dX5_known_54 : decode cX5_known 54 = .ok (.invokestatic 183, 3) := by decide +kernel
theorem dX5_known_57 : decode cX5_known 57 = .ok (.istore_n 1, 1) := by decide +kernel
theorem dX5_known_58 : decode cX5_known 58 = .ok (.iinc 2 1, 3) := by decide +kernel
theorem dX5_known_61 : decode cX5_known 61 = .ok (.goto (-37), 3) := by decide +kernel
theorem dX5_known_64 : decode cX5_known 64 = .ok (.iload_n 1, 1) := by decide +kernel
theorem dX5_known_65 : decode cX5_known 65 = .ok (.ireturn, 1) := by decide +kernel
set_option maxRecDepth 20000 in
theorem ggX5_isSungAt_X2_sharedWith : GoodIn wsX5_isSungAt wsX2_sharedWith := goodIn_r _ [9, 10, 11, 12, 13, 14, 8, 15, 16, 17, 18, 19, 20, 21, 22, 23, 24, 25, 36, 37, 38, 39, 40, 41, 42, 43, 44, 45] (by decide +kernel) (by decide +kernel)
set_option maxRecDepth 20000 in
theorem gX5_isSungAt_X2_sharedWith : GoodIn wsX5_isSungAt (wsV RX5 179 RX2 yX2_sharedWith wsX2_sharedWith) := goodIn_app (goodIn_of _ (by decide +kernel)) ggX5_isSungAt_X2_sharedWith
theorem dX5_isSungAt_0 : decode cX5_isSungAt 0 = .ok (.aload_n 0, 1) := by decide +kernel
theorem dX5_isSungAt_1 : decode cX5_isSungAt 1 = .ok (.getfield 14, 3) := by decide +kernel
theorem dX5_isSungAt_4 : decode cX5_isSungAt 4 = .ok (.aload_n 0, 1) := by decide +kernel
theorem dX5_isSungAt_5 : decode cX5_isSungAt 5 = .ok (.getfield 21, 3) := by decide +kernel
theorem dX5_isSungAt_8 : decode cX5_isSungAt 8 = .ok (.getfield 74, 3) := by decide +kernel
theorem dX5_isSungAt_11 : decode cX5_isSungAt 11 = .ok (.iload_n 1, 1) := by decide +kernel
theorem dX5_isSungAt_12 : decode cX5_isSungAt 12 = .ok (.invokevirtual 179, 3) := by decide +kernel
theorem dX5_isSungAt_15 : decode cX5_isSungAt 15 = .ok (.aload_n 0, 1) := by decide +kernel
theorem dX5_isSungAt_16 : decode cX5_isSungAt 16 = .ok (.getfield 14, 3) := by decide +kernel
theorem dX5_isSungAt_19 : decode cX5_isSungAt 19 = .ok (.getfield 63, 3) := by decide +kernel
theorem dX5_isSungAt_22 : decode cX5_isSungAt 22 = .ok (.if_icmp .ne 7, 3) := by decide +kernel
theorem dX5_isSungAt_25 : decode cX5_isSungAt 25 = .ok (.iconst 1, 1) := by decide +kernel
theorem dX5_isSungAt_26 : decode cX5_isSungAt 26 = .ok (.goto 4, 3) := by decide +kernel
theorem dX5_isSungAt_29 : decode cX5_isSungAt 29 = .ok (.iconst 0, 1) := by decide +kernel
theorem dX5_isSungAt_30 : decode cX5_isSungAt 30 = .ok (.ireturn, 1) := by decide +kernel
set_option maxRecDepth 20000 in
theorem ggX5_common_X4_hasVerse : GoodIn wsX5_common wsX4_hasVerse := goodIn_r _ [9, 10, 54, 55, 56, 57, 58, 59, 60, 61] (by decide +kernel) (by decide +kernel)
set_option maxRecDepth 20000 in
theorem gX5_common_X4_hasVerse : GoodIn wsX5_common (wsV RX5 141 RX4 yX4_hasVerse wsX4_hasVerse) := goodIn_app (goodIn_of _ (by decide +kernel)) ggX5_common_X4_hasVerse
set_option maxRecDepth 20000 in
theorem ggX5_common_X4_longestInBoth : GoodIn wsX5_common wsX4_longestInBoth := goodIn_r _ [14, 15, 16, 17, 18, 19, 20, 21, 22, 23, 24, 8, 25, 26, 27, 6, 7, 9, 10, 28, 29, 30, 31, 32, 33, 34, 35, 36, 37, 38, 39, 40, 41, 42, 43, 54, 55, 56, 57, 58, 59, 60, 61] (by decide +kernel) (by decide +kernel)
set_option maxRecDepth 20000 in
theorem gX5_common_X4_longestInBoth : GoodIn wsX5_common (wsV RX5 188 RX4 yX4_longestInBoth wsX4_longestInBoth) := goodIn_app (goodIn_of _ (by decide +kernel)) ggX5_common_X4_longestInBoth
theorem dX5_common_0 : decode cX5_common 0 = .ok (.aload_n 0, 1) := by decide +kernel
theorem dX5_common_1 : decode cX5_common 1 = .ok (.getfield 21, 3) := by decide +kernel
theorem dX5_common_4 : decode cX5_common 4 = .ok (.getfield 74, 3) := by decide +kernel
theorem dX5_common_7 : decode cX5_common 7 = .ok (.iload_n 1, 1) := by decide +kernel
theorem dX5_common_8 : decode cX5_common 8 = .ok (.invokevirtual 141, 3) := by decide +kernel
theorem dX5_common_11 : decode cX5_common 11 = .ok (.ifCond .eq 17, 3) := by decide +kernel
theorem dX5_common_14 : decode cX5_common 14 = .ok (.aload_n 0, 1) := by decide +kernel
theorem dX5_common_15 : decode cX5_common 15 = .ok (.getfield 21, 3) := by decide +kernel
theorem dX5_common_18 : decode cX5_common 18 = .ok (.getfield 74, 3) := by decide +kernel
theorem dX5_common_21 : decode cX5_common 21 = .ok (.iload_n 2, 1) := by decide +kernel
theorem dX5_common_22 : decode cX5_common 22 = .ok (.invokevirtual 141, 3) := by decide +kernel
theorem dX5_common_25 : decode cX5_common 25 = .ok (.ifCond .ne 13, 3) := by decide +kernel
theorem dX5_common_28 : decode cX5_common 28 = .ok (.new 113, 3) := by decide +kernel
theorem dX5_common_31 : decode cX5_common 31 = .ok (.dup, 1) := by decide +kernel
theorem dX5_common_32 : decode cX5_common 32 = .ok (.ldc 145, 2) := by decide +kernel
theorem dX5_common_34 : decode cX5_common 34 = .ok (.invokespecial 117, 3) := by decide +kernel
theorem dX5_common_37 : decode cX5_common 37 = .ok (.athrow, 1) := by decide +kernel
theorem dX5_common_38 : decode cX5_common 38 = .ok (.aload_n 0, 1) := by decide +kernel
theorem dX5_common_39 : decode cX5_common 39 = .ok (.getfield 21, 3) := by decide +kernel
theorem dX5_common_42 : decode cX5_common 42 = .ok (.getfield 74, 3) := by decide +kernel
theorem dX5_common_45 : decode cX5_common 45 = .ok (.iload_n 1, 1) := by decide +kernel
theorem dX5_common_46 : decode cX5_common 46 = .ok (.iload_n 2, 1) := by decide +kernel
theorem dX5_common_47 : decode cX5_common 47 = .ok (.invokevirtual 188, 3) := by decide +kernel
theorem dX5_common_50 : decode cX5_common 50 = .ok (.ireturn, 1) := by decide +kernel
set_option maxRecDepth 20000 in
theorem ggX5_most_X3_mostSung : GoodIn wsX5_most wsX3_mostSung := goodIn_r _ [9, 10, 11, 12, 13, 14, 15, 16, 17, 8, 18, 19, 20, 21, 22, 23, 24, 25, 26, 27, 38, 39, 40, 41, 42, 43] (by decide +kernel) (by decide +kernel)
set_option maxRecDepth 20000 in
theorem gX5_most_X3_mostSung : GoodIn wsX5_most (wsV RX5 193 RX3 yX3_mostSung wsX3_mostSung) := goodIn_app (goodIn_of _ (by decide +kernel)) ggX5_most_X3_mostSung
theorem dX5_most_0 : decode cX5_most 0 = .ok (.iload_n 1, 1) := by decide +kernel
theorem dX5_most_1 : decode cX5_most 1 = .ok (.iconst 1, 1) := by decide +kernel
theorem dX5_most_2 : decode cX5_most 2 = .ok (.if_icmp .lt 9, 3) := by decide +kernel
theorem dX5_most_5 : decode cX5_most 5 = .ok (.iload_n 1, 1) := by decide +kernel
theorem dX5_most_6 : decode cX5_most 6 = .ok (.bipush 12, 2) := by decide +kernel
theorem dX5_most_8 : decode cX5_most 8 = .ok (.if_icmp .le 13, 3) := by decide +kernel
theorem dX5_most_11 : decode cX5_most 11 = .ok (.new 44, 3) := by decide +kernel
theorem dX5_most_14 : decode cX5_most 14 = .ok (.dup, 1) := by decide +kernel
theorem dX5_most_15 : decode cX5_most 15 = .ok (.ldc 191, 2) := by decide +kernel
theorem dX5_most_17 : decode cX5_most 17 = .ok (.invokespecial 48, 3) := by decide +kernel
theorem dX5_most_20 : decode cX5_most 20 = .ok (.athrow, 1) := by decide +kernel
theorem dX5_most_21 : decode cX5_most 21 = .ok (.aload_n 0, 1) := by decide +kernel
theorem dX5_most_22 : decode cX5_most 22 = .ok (.getfield 21, 3) := by decide +kernel
theorem dX5_most_25 : decode cX5_most 25 = .ok (.getfield 90, 3) := by decide +kernel
theorem dX5_most_28 : decode cX5_most 28 = .ok (.iload_n 1, 1) := by decide +kernel
theorem dX5_most_29 : decode cX5_most 29 = .ok (.iload_n 2, 1) := by decide +kernel
theorem dX5_most_30 : decode cX5_most 30 = .ok (.invokevirtual 193, 3) := by decide +kernel
theorem dX5_most_33 : decode cX5_most 33 = .ok (.ireturn, 1) := by decide +kernel
set_option maxRecDepth 20000 in
theorem ggX5_sing_X2_fitsVerse : GoodIn wsX5_sing wsX2_fitsVerse := goodIn_r _ [12, 13, 14, 15, 16, 11, 17, 18, 19, 20, 21, 22, 23, 24, 25, 26, 27, 28, 29, 30, 31, 161, 162] (by decide +kernel) (by decide +kernel)
set_option maxRecDepth 20000 in
theorem gX5_sing_X2_fitsVerse : GoodIn wsX5_sing (wsV RX5 197 RX2 yX2_fitsVerse wsX2_fitsVerse) := goodIn_app (goodIn_of _ (by decide +kernel)) ggX5_sing_X2_fitsVerse
set_option maxRecDepth 20000 in
theorem ggX5_sing_X1_remember : GoodIn wsX5_sing wsX1_remember := goodIn_r _ [36, 37, 38, 39, 40, 41, 42, 43, 44, 45, 46, 47, 48, 49, 50, 51, 52, 53, 54, 55, 56, 57, 58, 59, 60, 61, 28, 62, 63, 64, 65, 66, 67, 68, 69, 70, 163, 164, 165, 166, 167, 168, 169, 170, 171, 172, 173] (by decide +kernel) (by decide +kernel)
set_option maxRecDepth 20000 in
theorem gX5_sing_X1_remember : GoodIn wsX5_sing (wsV RX5 202 RX1 yX1_remember wsX1_remember) := goodIn_app (goodIn_of _ (by decide +kernel)) ggX5_sing_X1_remember
set_option maxRecDepth 20000 in
theorem ggX5_sing_X2_takeLine : GoodIn wsX5_sing wsX2_takeLine := goodIn_r _ [74, 13, 75, 76, 77, 11, 78, 22, 23, 24, 25, 26, 27, 28, 29, 79, 80, 81, 82, 161, 162] (by decide +kernel) (by decide +kernel)
set_option maxRecDepth 20000 in
theorem gX5_sing_X2_takeLine : GoodIn wsX5_sing (wsV RX5 206 RX2 yX2_takeLine wsX2_takeLine) := goodIn_app (goodIn_of _ (by decide +kernel)) ggX5_sing_X2_takeLine
set_option maxRecDepth 20000 in
theorem ggX5_sing_X0_addVerse : GoodIn wsX5_sing wsX0_addVerse := goodIn_r _ [87, 88, 89, 90, 91, 92, 93, 94, 95, 42, 96, 52, 51, 97, 98, 99, 100, 50, 49, 54, 27, 28, 29, 101, 102, 103, 104, 105, 56, 106, 23, 24, 11, 25, 26, 107, 108, 109, 110, 111, 112, 113, 64, 65, 66, 114, 115, 116, 117, 118, 119, 120, 121, 122, 123, 124, 125, 126, 127, 128, 129, 86, 130, 131, 132, 133, 61, 62, 63, 67, 68, 69, 70, 134, 135, 136, 137, 138, 139, 140, 141, 142, 53, 143, 144, 145, 146, 147, 148, 149, 150, 157, 158, 159, 160, 166, 167, 168, 169, 170, 171, 172, 173, 161, 162, 174, 175, 176, 177, 178, 179] (by decide +kernel) (by decide +kernel)
set_option maxRecDepth 20000 in
theorem gX5_sing_X0_addVerse : GoodIn wsX5_sing (wsV RX5 210 RX0 yX0_addVerse wsX0_addVerse) := goodIn_app (goodIn_of _ (by decide +kernel)) ggX5_sing_X0_addVerse
theorem dX5_sing_0 : decode cX5_sing 0 = .ok (.aload_n 0, 1) := by decide +kernel
theorem dX5_sing_1 : decode cX5_sing 1 = .ok (.getfield 14, 3) := by decide +kernel
theorem dX5_sing_4 : decode cX5_sing 4 = .ok (.invokevirtual 197, 3) := by decide +kernel
theorem dX5_sing_7 : decode cX5_sing 7 = .ok (.ifCond .ne 13, 3) := by decide +kernel
theorem dX5_sing_10 : decode cX5_sing 10 = .ok (.new 55, 3) := by decide +kernel
theorem dX5_sing_13 : decode cX5_sing 13 = .ok (.dup, 1) := by decide +kernel
theorem dX5_sing_14 : decode cX5_sing 14 = .ok (.ldc 200, 2) := by decide +kernel
theorem dX5_sing_16 : decode cX5_sing 16 = .ok (.invokespecial 59, 3) := by decide +kernel
theorem dX5_sing_19 : decode cX5_sing 19 = .ok (.athrow, 1) := by decide +kernel
theorem dX5_sing_20 : decode cX5_sing 20 = .ok (.aload_n 0, 1) := by decide +kernel
theorem dX5_sing_21 : decode cX5_sing 21 = .ok (.getfield 34, 3) := by decide +kernel
theorem dX5_sing_24 : decode cX5_sing 24 = .ok (.aload_n 0, 1) := by decide +kernel
theorem dX5_sing_25 : decode cX5_sing 25 = .ok (.getfield 21, 3) := by decide +kernel
theorem dX5_sing_28 : decode cX5_sing 28 = .ok (.getfield 74, 3) := by decide +kernel
theorem dX5_sing_31 : decode cX5_sing 31 = .ok (.invokevirtual 202, 3) := by decide +kernel
theorem dX5_sing_34 : decode cX5_sing 34 = .ok (.aload_n 0, 1) := by decide +kernel
theorem dX5_sing_35 : decode cX5_sing 35 = .ok (.getfield 28, 3) := by decide +kernel
theorem dX5_sing_38 : decode cX5_sing 38 = .ok (.aload_n 0, 1) := by decide +kernel
theorem dX5_sing_39 : decode cX5_sing 39 = .ok (.getfield 14, 3) := by decide +kernel
theorem dX5_sing_42 : decode cX5_sing 42 = .ok (.invokevirtual 206, 3) := by decide +kernel
theorem dX5_sing_45 : decode cX5_sing 45 = .ok (.aload_n 0, 1) := by decide +kernel
theorem dX5_sing_46 : decode cX5_sing 46 = .ok (.getfield 21, 3) := by decide +kernel
theorem dX5_sing_49 : decode cX5_sing 49 = .ok (.aload_n 0, 1) := by decide +kernel
theorem dX5_sing_50 : decode cX5_sing 50 = .ok (.getfield 28, 3) := by decide +kernel
theorem dX5_sing_53 : decode cX5_sing 53 = .ok (.invokevirtual 210, 3) := by decide +kernel
theorem dX5_sing_56 : decode cX5_sing 56 = .ok (.ireturn, 1) := by decide +kernel
set_option maxRecDepth 20000 in
theorem ggX5_again_X4_hasVerse : GoodIn wsX5_again wsX4_hasVerse := goodIn_r _ [11, 12, 162, 163, 164, 165, 166, 167, 168, 169] (by decide +kernel) (by decide +kernel)
set_option maxRecDepth 20000 in
theorem gX5_again_X4_hasVerse : GoodIn wsX5_again (wsV RX5 141 RX4 yX4_hasVerse wsX4_hasVerse) := goodIn_app (goodIn_of _ (by decide +kernel)) ggX5_again_X4_hasVerse
set_option maxRecDepth 20000 in
theorem ggX5_again_X1_remember : GoodIn wsX5_again wsX1_remember := goodIn_r _ [17, 18, 19, 20, 21, 22, 10, 23, 24, 25, 26, 27, 28, 29, 30, 31, 12, 32, 33, 34, 35, 36, 37, 38, 39, 40, 41, 42, 43, 44, 45, 46, 47, 48, 49, 50, 170, 171, 172, 162, 163, 164, 165, 166, 167, 168, 169] (by decide +kernel) (by decide +kernel)
set_option maxRecDepth 20000 in
theorem gX5_again_X1_remember : GoodIn wsX5_again (wsV RX5 202 RX1 yX1_remember wsX1_remember) := goodIn_app (goodIn_of _ (by decide +kernel)) ggX5_again_X1_remember
set_option maxRecDepth 20000 in
theorem ggX5_again_X2_takeVerse : GoodIn wsX5_again wsX2_takeVerse := goodIn_r _ [55, 56, 57, 58, 54, 59, 60, 61, 62, 63, 10, 64, 12, 30, 65, 41, 66, 67, 68, 69, 70, 71, 8, 9, 11, 72, 73, 74, 75, 29, 76, 77, 78, 79, 80, 173, 174, 162, 163, 164, 165, 166, 167, 168, 169] (by decide +kernel) (by decide +kernel)
set_option maxRecDepth 20000 in
theorem gX5_again_X2_takeVerse : GoodIn wsX5_again (wsV RX5 214 RX2 yX2_takeVerse wsX2_takeVerse) := goodIn_app (goodIn_of _ (by decide +kernel)) ggX5_again_X2_takeVerse
set_option maxRecDepth 20000 in
theorem ggX5_again_X0_addVerse : GoodIn wsX5_again wsX0_addVerse := goodIn_r _ [85, 86, 87, 88, 89, 90, 91, 92, 93, 10, 94, 12, 31, 95, 96, 97, 98, 30, 29, 33, 65, 41, 66, 99, 100, 101, 102, 103, 35, 104, 105, 106, 54, 107, 80, 108, 109, 110, 111, 112, 113, 114, 44, 45, 46, 115, 116, 117, 118, 119, 120, 121, 122, 123, 124, 125, 126, 127, 128, 129, 130, 84, 131, 132, 133, 134, 40, 42, 43, 47, 48, 49, 50, 135, 136, 137, 138, 139, 140, 141, 142, 143, 32, 144, 145, 146, 147, 148, 149, 150, 151, 158, 159, 160, 161, 162, 163, 164, 165, 166, 167, 168, 169, 173, 174, 175, 176, 177, 178, 179, 180] (by decide +kernel) (by decide +kernel)
set_option maxRecDepth 20000 in
theorem gX5_again_X0_addVerse : GoodIn wsX5_again (wsV RX5 210 RX0 yX0_addVerse wsX0_addVerse) := goodIn_app (goodIn_of _ (by decide +kernel)) ggX5_again_X0_addVerse
theorem dX5_again_0 : decode cX5_again 0 = .ok (.aload_n 0, 1) := by decide +kernel
theorem dX5_again_1 : decode cX5_again 1 = .ok (.getfield 21, 3) := by decide +kernel
theorem dX5_again_4 : decode cX5_again 4 = .ok (.getfield 74, 3) := by decide +kernel
theorem dX5_again_7 : decode cX5_again 7 = .ok (.iload_n 1, 1) := by decide +kernel
theorem dX5_again_8 : decode cX5_again 8 = .ok (.invokevirtual 141, 3) := by decide +kernel
theorem dX5_again_11 : decode cX5_again 11 = .ok (.ifCond .ne 13, 3) := by decide +kernel
theorem dX5_again_14 : decode cX5_again 14 = .ok (.new 113, 3) := by decide +kernel
theorem dX5_again_17 : decode cX5_again 17 = .ok (.dup, 1) := by decide +kernel
theorem dX5_again_18 : decode cX5_again 18 = .ok (.ldc 145, 2) := by decide +kernel
theorem dX5_again_20 : decode cX5_again 20 = .ok (.invokespecial 117, 3) := by decide +kernel
theorem dX5_again_23 : decode cX5_again 23 = .ok (.athrow, 1) := by decide +kernel
theorem dX5_again_24 : decode cX5_again 24 = .ok (.aload_n 0, 1) := by decide +kernel
theorem dX5_again_25 : decode cX5_again 25 = .ok (.getfield 34, 3) := by decide +kernel
theorem dX5_again_28 : decode cX5_again 28 = .ok (.aload_n 0, 1) := by decide +kernel
theorem dX5_again_29 : decode cX5_again 29 = .ok (.getfield 21, 3) := by decide +kernel
theorem dX5_again_32 : decode cX5_again 32 = .ok (.getfield 74, 3) := by decide +kernel
theorem dX5_again_35 : decode cX5_again 35 = .ok (.invokevirtual 202, 3) := by decide +kernel
theorem dX5_again_38 : decode cX5_again 38 = .ok (.aload_n 0, 1) := by decide +kernel
theorem dX5_again_39 : decode cX5_again 39 = .ok (.getfield 28, 3) := by decide +kernel
theorem dX5_again_42 : decode cX5_again 42 = .ok (.aload_n 0, 1) := by decide +kernel
theorem dX5_again_43 : decode cX5_again 43 = .ok (.getfield 21, 3) := by decide +kernel
theorem dX5_again_46 : decode cX5_again 46 = .ok (.getfield 74, 3) := by decide +kernel
theorem dX5_again_49 : decode cX5_again 49 = .ok (.iload_n 1, 1) := by decide +kernel
theorem dX5_again_50 : decode cX5_again 50 = .ok (.invokevirtual 214, 3) := by decide +kernel
theorem dX5_again_53 : decode cX5_again 53 = .ok (.aload_n 0, 1) := by decide +kernel
theorem dX5_again_54 : decode cX5_again 54 = .ok (.getfield 21, 3) := by decide +kernel
theorem dX5_again_57 : decode cX5_again 57 = .ok (.aload_n 0, 1) := by decide +kernel
theorem dX5_again_58 : decode cX5_again 58 = .ok (.getfield 28, 3) := by decide +kernel
theorem dX5_again_61 : decode cX5_again 61 = .ok (.invokevirtual 210, 3) := by decide +kernel
theorem dX5_again_64 : decode cX5_again 64 = .ok (.ireturn, 1) := by decide +kernel
set_option maxRecDepth 20000 in
theorem ggX5_forget_X1_remember : GoodIn wsX5_forget wsX1_remember := goodIn_r _ [11, 12, 13, 14, 15, 16, 17, 18, 19, 20, 21, 22, 23, 24, 25, 26, 27, 28, 29, 30, 31, 32, 33, 34, 35, 36, 37, 38, 39, 40, 41, 42, 43, 44, 45, 46, 124, 125, 126, 116, 117, 118, 119, 120, 121, 122, 123] (by decide +kernel) (by decide +kernel)
set_option maxRecDepth 20000 in
theorem gX5_forget_X1_remember : GoodIn wsX5_forget (wsV RX5 202 RX1 yX1_remember wsX1_remember) := goodIn_app (goodIn_of _ (by decide +kernel)) ggX5_forget_X1_remember
set_option maxRecDepth 20000 in
theorem ggX5_forget_X0_dropOldest : GoodIn wsX5_forget wsX0_dropOldest := goodIn_r _ [51, 52, 53, 54, 55, 56, 57, 58, 17, 59, 25, 26, 24, 27, 29, 60, 37, 61, 62, 63, 64, 65, 66, 67, 68, 40, 41, 42, 69, 70, 71, 72, 73, 74, 75, 76, 77, 78, 79, 80, 81, 82, 83, 84, 50, 85, 86, 87, 88, 36, 38, 39, 43, 44, 45, 46, 89, 90, 91, 92, 93, 94, 95, 96, 97, 28, 98, 99, 100, 101, 102, 103, 104, 105, 112, 113, 114, 115, 116, 117, 118, 119, 120, 121, 122, 123, 127, 128, 129, 130, 131, 132] (by decide +kernel) (by decide +kernel)
set_option maxRecDepth 20000 in
theorem gX5_forget_X0_dropOldest : GoodIn wsX5_forget (wsV RX5 220 RX0 yX0_dropOldest wsX0_dropOldest) := goodIn_app (goodIn_of _ (by decide +kernel)) ggX5_forget_X0_dropOldest
theorem dX5_forget_0 : decode cX5_forget 0 = .ok (.aload_n 0, 1) := by decide +kernel
theorem dX5_forget_1 : decode cX5_forget 1 = .ok (.getfield 21, 3) := by decide +kernel
theorem dX5_forget_4 : decode cX5_forget 4 = .ok (.getfield 74, 3) := by decide +kernel
theorem dX5_forget_7 : decode cX5_forget 7 = .ok (.getfield 81, 3) := by decide +kernel
theorem dX5_forget_10 : decode cX5_forget 10 = .ok (.ifCond .ne 13, 3) := by decide +kernel
theorem dX5_forget_13 : decode cX5_forget 13 = .ok (.new 55, 3) := by decide +kernel
theorem dX5_forget_16 : decode cX5_forget 16 = .ok (.dup, 1) := by decide +kernel
theorem dX5_forget_17 : decode cX5_forget 17 = .ok (.ldc 218, 2) := by decide +kernel
theorem dX5_forget_19 : decode cX5_forget 19 = .ok (.invokespecial 59, 3) := by decide +kernel
theorem dX5_forget_22 : decode cX5_forget 22 = .ok (.athrow, 1) := by decide +kernel
theorem dX5_forget_23 : decode cX5_forget 23 = .ok (.aload_n 0, 1) := by decide +kernel
theorem dX5_forget_24 : decode cX5_forget 24 = .ok (.getfield 34, 3) := by decide +kernel
theorem dX5_forget_27 : decode cX5_forget 27 = .ok (.aload_n 0, 1) := by decide +kernel
theorem dX5_forget_28 : decode cX5_forget 28 = .ok (.getfield 21, 3) := by decide +kernel
theorem dX5_forget_31 : decode cX5_forget 31 = .ok (.getfield 74, 3) := by decide +kernel
theorem dX5_forget_34 : decode cX5_forget 34 = .ok (.invokevirtual 202, 3) := by decide +kernel
theorem dX5_forget_37 : decode cX5_forget 37 = .ok (.aload_n 0, 1) := by decide +kernel
theorem dX5_forget_38 : decode cX5_forget 38 = .ok (.getfield 21, 3) := by decide +kernel
theorem dX5_forget_41 : decode cX5_forget 41 = .ok (.invokevirtual 220, 3) := by decide +kernel
theorem dX5_forget_44 : decode cX5_forget 44 = .ok (.ireturn, 1) := by decide +kernel
set_option maxRecDepth 20000 in
theorem ggX5_setSingers_X1_remember : GoodIn wsX5_setSingers wsX1_remember := goodIn_r _ [10, 11, 12, 13, 14, 15, 16, 17, 18, 19, 20, 21, 22, 23, 24, 25, 26, 27, 28, 29, 30, 31, 32, 33, 34, 35, 36, 37, 38, 39, 40, 41, 42, 43, 44, 45, 93, 94, 95, 96, 97, 98, 99, 100, 101, 102, 103] (by decide +kernel) (by decide +kernel)
set_option maxRecDepth 20000 in
theorem gX5_setSingers_X1_remember : GoodIn wsX5_setSingers (wsV RX5 202 RX1 yX1_remember wsX1_remember) := goodIn_app (goodIn_of _ (by decide +kernel)) ggX5_setSingers_X1_remember
set_option maxRecDepth 20000 in
theorem ggX5_setSingers_X0_changeSingers : GoodIn wsX5_setSingers wsX0_changeSingers := goodIn_r _ [50, 51, 52, 53, 54, 55, 56, 49, 57, 58, 59, 60, 35, 36, 37, 38, 39, 40, 41, 42, 43, 44, 45, 61, 62, 63, 64, 65, 66, 67, 68, 16, 69, 27, 25, 70, 71, 72, 73, 74, 75, 76, 77, 78, 79, 80, 81, 82, 89, 90, 91, 92, 96, 97, 98, 99, 100, 101, 102, 103, 104, 105, 106, 107, 108, 109] (by decide +kernel) (by decide +kernel)
set_option maxRecDepth 20000 in
theorem gX5_setSingers_X0_changeSingers : GoodIn wsX5_setSingers (wsV RX5 225 RX0 yX0_changeSingers wsX0_changeSingers) := goodIn_app (goodIn_of _ (by decide +kernel)) ggX5_setSingers_X0_changeSingers
theorem dX5_setSingers_0 : decode cX5_setSingers 0 = .ok (.iload_n 1, 1) := by decide +kernel
theorem dX5_setSingers_1 : decode cX5_setSingers 1 = .ok (.iconst 1, 1) := by decide +kernel
theorem dX5_setSingers_2 : decode cX5_setSingers 2 = .ok (.if_icmp .lt 9, 3) := by decide +kernel
theorem dX5_setSingers_5 : decode cX5_setSingers 5 = .ok (.iload_n 1, 1) := by decide +kernel
theorem dX5_setSingers_6 : decode cX5_setSingers 6 = .ok (.bipush 8, 2) := by decide +kernel
theorem dX5_setSingers_8 : decode cX5_setSingers 8 = .ok (.if_icmp .le 13, 3) := by decide +kernel
theorem dX5_setSingers_11 : decode cX5_setSingers 11 = .ok (.new 44, 3) := by decide +kernel
theorem dX5_setSingers_14 : decode cX5_setSingers 14 = .ok (.dup, 1) := by decide +kernel
theorem dX5_setSingers_15 : decode cX5_setSingers 15 = .ok (.ldc 223, 2) := by decide +kernel
theorem dX5_setSingers_17 : decode cX5_setSingers 17 = .ok (.invokespecial 48, 3) := by decide +kernel
theorem dX5_setSingers_20 : decode cX5_setSingers 20 = .ok (.athrow, 1) := by decide +kernel
theorem dX5_setSingers_21 : decode cX5_setSingers 21 = .ok (.aload_n 0, 1) := by decide +kernel
theorem dX5_setSingers_22 : decode cX5_setSingers 22 = .ok (.getfield 34, 3) := by decide +kernel
theorem dX5_setSingers_25 : decode cX5_setSingers 25 = .ok (.aload_n 0, 1) := by decide +kernel
theorem dX5_setSingers_26 : decode cX5_setSingers 26 = .ok (.getfield 21, 3) := by decide +kernel
theorem dX5_setSingers_29 : decode cX5_setSingers 29 = .ok (.getfield 74, 3) := by decide +kernel
theorem dX5_setSingers_32 : decode cX5_setSingers 32 = .ok (.invokevirtual 202, 3) := by decide +kernel
theorem dX5_setSingers_35 : decode cX5_setSingers 35 = .ok (.aload_n 0, 1) := by decide +kernel
theorem dX5_setSingers_36 : decode cX5_setSingers 36 = .ok (.getfield 21, 3) := by decide +kernel
theorem dX5_setSingers_39 : decode cX5_setSingers 39 = .ok (.iload_n 1, 1) := by decide +kernel
theorem dX5_setSingers_40 : decode cX5_setSingers 40 = .ok (.invokevirtual 225, 3) := by decide +kernel
theorem dX5_setSingers_43 : decode cX5_setSingers 43 = .ok (.ireturn, 1) := by decide +kernel
set_option maxRecDepth 20000 in
theorem ggX5_undo_X1_takeLast : GoodIn wsX5_undo wsX1_takeLast := goodIn_r _ [10, 11, 12, 13, 85, 86, 87] (by decide +kernel) (by decide +kernel)
set_option maxRecDepth 20000 in
theorem gX5_undo_X1_takeLast : GoodIn wsX5_undo (wsV RX5 228 RX1 yX1_takeLast wsX1_takeLast) := goodIn_app (goodIn_of _ (by decide +kernel)) ggX5_undo_X1_takeLast
set_option maxRecDepth 20000 in
theorem ggX5_undo_X0_becomeSong : GoodIn wsX5_undo wsX0_becomeSong := goodIn_r _ [18, 19, 20, 21, 22, 23, 24, 25, 26, 27, 28, 29, 30, 31, 32, 33, 34, 35, 36, 37, 38, 39, 40, 41, 42, 43, 44, 45, 46, 47, 48, 49, 50, 51, 52, 53, 54, 55, 56, 57, 58, 59, 60, 61, 62, 63, 64, 65, 66, 67, 17, 68, 69, 70, 71, 72, 73, 74, 75, 76, 77, 78, 88, 89, 90, 91, 92, 93, 94, 95, 96, 97, 98, 99, 100, 101, 102, 103, 104, 105] (by decide +kernel) (by decide +kernel)
set_option maxRecDepth 20000 in
theorem gX5_undo_X0_becomeSong : GoodIn wsX5_undo (wsV RX5 234 RX0 yX0_becomeSong wsX0_becomeSong) := goodIn_app (goodIn_of _ (by decide +kernel)) ggX5_undo_X0_becomeSong
theorem dX5_undo_0 : decode cX5_undo 0 = .ok (.aload_n 0, 1) := by decide +kernel
theorem dX5_undo_1 : decode cX5_undo 1 = .ok (.getfield 34, 3) := by decide +kernel
theorem dX5_undo_4 : decode cX5_undo 4 = .ok (.invokevirtual 228, 3) := by decide +kernel
theorem dX5_undo_7 : decode cX5_undo 7 = .ok (.astore_n 1, 1) := by decide +kernel
theorem dX5_undo_8 : decode cX5_undo 8 = .ok (.aload_n 1, 1) := by decide +kernel
theorem dX5_undo_9 : decode cX5_undo 9 = .ok (.ifnonnull 13, 3) := by decide +kernel
theorem dX5_undo_12 : decode cX5_undo 12 = .ok (.new 55, 3) := by decide +kernel
theorem dX5_undo_15 : decode cX5_undo 15 = .ok (.dup, 1) := by decide +kernel
theorem dX5_undo_16 : decode cX5_undo 16 = .ok (.ldc 232, 2) := by decide +kernel
theorem dX5_undo_18 : decode cX5_undo 18 = .ok (.invokespecial 59, 3) := by decide +kernel
theorem dX5_undo_21 : decode cX5_undo 21 = .ok (.athrow, 1) := by decide +kernel
theorem dX5_undo_22 : decode cX5_undo 22 = .ok (.aload_n 0, 1) := by decide +kernel
theorem dX5_undo_23 : decode cX5_undo 23 = .ok (.getfield 21, 3) := by decide +kernel
theorem dX5_undo_26 : decode cX5_undo 26 = .ok (.aload_n 1, 1) := by decide +kernel
theorem dX5_undo_27 : decode cX5_undo 27 = .ok (.invokevirtual 234, 3) := by decide +kernel
theorem dX5_undo_30 : decode cX5_undo 30 = .ok (.aload_n 0, 1) := by decide +kernel
theorem dX5_undo_31 : decode cX5_undo 31 = .ok (.getfield 34, 3) := by decide +kernel
theorem dX5_undo_34 : decode cX5_undo 34 = .ok (.getfield 237, 3) := by decide +kernel
theorem dX5_undo_37 : decode cX5_undo 37 = .ok (.ireturn, 1) := by decide +kernel
set_option maxRecDepth 20000 in
theorem ggX5_wouldRepeat_X2_fitsVerse : GoodIn wsX5_wouldRepeat wsX2_fitsVerse := goodIn_r _ [10, 11, 12, 13, 14, 9, 15, 16, 17, 18, 19, 20, 21, 22, 23, 24, 25, 26, 27, 28, 29, 159, 160] (by decide +kernel) (by decide +kernel)
set_option maxRecDepth 20000 in
theorem gX5_wouldRepeat_X2_fitsVerse : GoodIn wsX5_wouldRepeat (wsV RX5 197 RX2 yX2_fitsVerse wsX2_fitsVerse) := goodIn_app (goodIn_of _ (by decide +kernel)) ggX5_wouldRepeat_X2_fitsVerse
set_option maxRecDepth 20000 in
theorem ggX5_wouldRepeat_X2_takeLine : GoodIn wsX5_wouldRepeat wsX2_takeLine := goodIn_r _ [33, 11, 34, 35, 36, 9, 37, 20, 21, 22, 23, 24, 25, 26, 27, 38, 39, 40, 41, 159, 160] (by decide +kernel) (by decide +kernel)
set_option maxRecDepth 20000 in
theorem gX5_wouldRepeat_X2_takeLine : GoodIn wsX5_wouldRepeat (wsV RX5 206 RX2 yX2_takeLine wsX2_takeLine) := goodIn_app (goodIn_of _ (by decide +kernel)) ggX5_wouldRepeat_X2_takeLine
set_option maxRecDepth 20000 in
theorem ggX5_wouldRepeat_X0_becomeChoir : GoodIn wsX5_wouldRepeat wsX0_becomeChoir := goodIn_r _ [46, 47, 48, 49, 50, 51, 52, 53, 54, 55, 56, 57, 58, 59, 60, 61, 62, 63, 26, 64, 65, 66, 67, 68, 69, 70, 71, 72, 73, 74, 75, 76, 77, 78, 79, 80, 81, 82, 155, 156, 157, 158, 161, 162, 163, 164, 165, 166, 167, 168, 169, 170, 171, 172, 173, 174] (by decide +kernel) (by decide +kernel)
set_option maxRecDepth 20000 in
theorem gX5_wouldRepeat_X0_becomeChoir : GoodIn wsX5_wouldRepeat (wsV RX5 240 RX0 yX0_becomeChoir wsX0_becomeChoir) := goodIn_app (goodIn_of _ (by decide +kernel)) ggX5_wouldRepeat_X0_becomeChoir
set_option maxRecDepth 20000 in
theorem ggX5_wouldRepeat_X0_addVerse : GoodIn wsX5_wouldRepeat wsX0_addVerse := goodIn_r _ [86, 47, 87, 88, 89, 48, 90, 91, 92, 53, 93, 58, 57, 94, 95, 96, 97, 56, 55, 60, 25, 26, 27, 98, 99, 100, 101, 102, 62, 103, 21, 22, 9, 23, 24, 104, 105, 106, 76, 107, 108, 109, 66, 67, 68, 110, 111, 112, 78, 79, 81, 82, 113, 80, 114, 115, 116, 117, 118, 119, 120, 45, 121, 49, 122, 123, 63, 64, 65, 69, 70, 71, 72, 124, 125, 126, 127, 128, 129, 130, 131, 132, 59, 133, 134, 135, 136, 137, 138, 139, 140, 155, 156, 157, 158, 161, 162, 163, 164, 165, 166, 167, 168, 159, 160, 169, 170, 171, 172, 173, 174] (by decide +kernel) (by decide +kernel)
set_option maxRecDepth 20000 in
theorem gX5_wouldRepeat_X0_addVerse : GoodIn wsX5_wouldRepeat (wsV RX5 210 RX0 yX0_addVerse wsX0_addVerse) := goodIn_app (goodIn_of _ (by decide +kernel)) ggX5_wouldRepeat_X0_addVerse
set_option maxRecDepth 20000 in
theorem ggX5_wouldRepeat_X3_longestRepeat : GoodIn wsX5_wouldRepeat wsX3_longestRepeat := goodIn_r _ [144, 78, 110, 111, 67, 112, 145, 146, 147, 76, 148, 82, 25, 26, 27, 169, 170, 171, 172, 173, 174] (by decide +kernel) (by decide +kernel)
set_option maxRecDepth 20000 in
theorem gX5_wouldRepeat_X3_longestRepeat : GoodIn wsX5_wouldRepeat (wsV RX5 99 RX3 yX3_longestRepeat wsX3_longestRepeat) := goodIn_app (goodIn_of _ (by decide +kernel)) ggX5_wouldRepeat_X3_longestRepeat
theorem dX5_wouldRepeat_0 : decode cX5_wouldRepeat 0 = .ok (.aload_n 0, 1) := by decide +kernel
theorem dX5_wouldRepeat_1 : decode cX5_wouldRepeat 1 = .ok (.getfield 14, 3) := by decide +kernel
theorem dX5_wouldRepeat_4 : decode cX5_wouldRepeat 4 = .ok (.invokevirtual 197, 3) := by decide +kernel
theorem dX5_wouldRepeat_7 : decode cX5_wouldRepeat 7 = .ok (.ifCond .ne 5, 3) := by decide +kernel
theorem dX5_wouldRepeat_10 : decode cX5_wouldRepeat 10 = .ok (.iconst (-1), 1) := by decide +kernel
theorem dX5_wouldRepeat_11 : decode cX5_wouldRepeat 11 = .ok (.ireturn, 1) := by decide +kernel
theorem dX5_wouldRepeat_12 : decode cX5_wouldRepeat 12 = .ok (.aload_n 0, 1) := by decide +kernel
theorem dX5_wouldRepeat_13 : decode cX5_wouldRepeat 13 = .ok (.getfield 28, 3) := by decide +kernel
theorem dX5_wouldRepeat_16 : decode cX5_wouldRepeat 16 = .ok (.aload_n 0, 1) := by decide +kernel
theorem dX5_wouldRepeat_17 : decode cX5_wouldRepeat 17 = .ok (.getfield 14, 3) := by decide +kernel
theorem dX5_wouldRepeat_20 : decode cX5_wouldRepeat 20 = .ok (.invokevirtual 206, 3) := by decide +kernel
theorem dX5_wouldRepeat_23 : decode cX5_wouldRepeat 23 = .ok (.aload_n 0, 1) := by decide +kernel
theorem dX5_wouldRepeat_24 : decode cX5_wouldRepeat 24 = .ok (.getfield 25, 3) := by decide +kernel
theorem dX5_wouldRepeat_27 : decode cX5_wouldRepeat 27 = .ok (.aload_n 0, 1) := by decide +kernel
theorem dX5_wouldRepeat_28 : decode cX5_wouldRepeat 28 = .ok (.getfield 21, 3) := by decide +kernel
theorem dX5_wouldRepeat_31 : decode cX5_wouldRepeat 31 = .ok (.invokevirtual 240, 3) := by decide +kernel
theorem dX5_wouldRepeat_34 : decode cX5_wouldRepeat 34 = .ok (.aload_n 0, 1) := by decide +kernel
theorem dX5_wouldRepeat_35 : decode cX5_wouldRepeat 35 = .ok (.getfield 25, 3) := by decide +kernel
theorem dX5_wouldRepeat_38 : decode cX5_wouldRepeat 38 = .ok (.aload_n 0, 1) := by decide +kernel
theorem dX5_wouldRepeat_39 : decode cX5_wouldRepeat 39 = .ok (.getfield 28, 3) := by decide +kernel
theorem dX5_wouldRepeat_42 : decode cX5_wouldRepeat 42 = .ok (.invokevirtual 210, 3) := by decide +kernel
theorem dX5_wouldRepeat_45 : decode cX5_wouldRepeat 45 = .ok (.pop, 1) := by decide +kernel
theorem dX5_wouldRepeat_46 : decode cX5_wouldRepeat 46 = .ok (.aload_n 0, 1) := by decide +kernel
theorem dX5_wouldRepeat_47 : decode cX5_wouldRepeat 47 = .ok (.getfield 25, 3) := by decide +kernel
theorem dX5_wouldRepeat_50 : decode cX5_wouldRepeat 50 = .ok (.getfield 90, 3) := by decide +kernel
theorem dX5_wouldRepeat_53 : decode cX5_wouldRepeat 53 = .ok (.invokevirtual 99, 3) := by decide +kernel
theorem dX5_wouldRepeat_56 : decode cX5_wouldRepeat 56 = .ok (.ireturn, 1) := by decide +kernel
set_option maxRecDepth 20000 in
theorem ggX5_bestSingers_X2_fitsVerse : GoodIn wsX5_bestSingers wsX2_fitsVerse := goodIn_r _ [9, 10, 11, 12, 13, 8, 14, 15, 16, 17, 18, 19, 20, 21, 22, 23, 24, 25, 26, 27, 28, 150, 151] (by decide +kernel) (by decide +kernel)
set_option maxRecDepth 20000 in
theorem gX5_bestSingers_X2_fitsVerse : GoodIn wsX5_bestSingers (wsV RX5 197 RX2 yX2_fitsVerse wsX2_fitsVerse) := goodIn_app (goodIn_of _ (by decide +kernel)) ggX5_bestSingers_X2_fitsVerse
set_option maxRecDepth 20000 in
theorem ggX5_bestSingers_X2_takeLine : GoodIn wsX5_bestSingers wsX2_takeLine := goodIn_r _ [32, 10, 33, 34, 35, 8, 36, 19, 20, 21, 22, 23, 24, 25, 26, 37, 38, 39, 40, 150, 151] (by decide +kernel) (by decide +kernel)
set_option maxRecDepth 20000 in
theorem gX5_bestSingers_X2_takeLine : GoodIn wsX5_bestSingers (wsV RX5 206 RX2 yX2_takeLine wsX2_takeLine) := goodIn_app (goodIn_of _ (by decide +kernel)) ggX5_bestSingers_X2_takeLine
set_option maxRecDepth 20000 in
theorem ggX5_bestSingers_X0_becomeChoir : GoodIn wsX5_bestSingers wsX0_becomeChoir := goodIn_r _ [45, 46, 47, 48, 49, 50, 51, 52, 53, 54, 55, 56, 57, 58, 59, 60, 61, 62, 25, 63, 64, 65, 66, 67, 68, 69, 70, 71, 72, 73, 74, 75, 76, 77, 78, 79, 80, 81, 152, 153, 154, 155, 156, 157, 158, 159, 160, 161, 162, 163, 164, 165, 166, 167, 168, 169] (by decide +kernel) (by decide +kernel)
set_option maxRecDepth 20000 in
theorem gX5_bestSingers_X0_becomeChoir : GoodIn wsX5_bestSingers (wsV RX5 240 RX0 yX0_becomeChoir wsX0_becomeChoir) := goodIn_app (goodIn_of _ (by decide +kernel)) ggX5_bestSingers_X0_becomeChoir
set_option maxRecDepth 20000 in
theorem ggX5_bestSingers_X0_changeSingers : GoodIn wsX5_bestSingers wsX0_changeSingers := goodIn_r _ [85, 46, 86, 87, 88, 89, 90, 44, 91, 48, 92, 93, 62, 25, 63, 64, 65, 66, 67, 68, 69, 70, 71, 94, 95, 96, 97, 47, 98, 99, 100, 52, 101, 58, 56, 102, 103, 104, 75, 105, 77, 79, 24, 26, 106, 107, 108, 109, 152, 153, 154, 155, 156, 157, 158, 159, 160, 161, 162, 163, 164, 165, 166, 167, 168, 169] (by decide +kernel) (by decide +kernel)
set_option maxRecDepth 20000 in
theorem gX5_bestSingers_X0_changeSingers : GoodIn wsX5_bestSingers (wsV RX5 225 RX0 yX0_changeSingers wsX0_changeSingers) := goodIn_app (goodIn_of _ (by decide +kernel)) ggX5_bestSingers_X0_changeSingers
set_option maxRecDepth 20000 in
theorem ggX5_bestSingers_X0_addVerse : GoodIn wsX5_bestSingers wsX0_addVerse := goodIn_r _ [113, 46, 87, 114, 115, 47, 116, 117, 118, 52, 119, 57, 56, 120, 121, 122, 123, 55, 54, 59, 24, 25, 26, 124, 125, 126, 127, 128, 61, 129, 20, 21, 8, 22, 23, 130, 131, 132, 75, 133, 134, 135, 65, 66, 67, 136, 137, 138, 77, 78, 80, 81, 139, 79, 140, 141, 142, 143, 88, 89, 90, 44, 91, 48, 92, 93, 62, 63, 64, 68, 69, 70, 71, 94, 95, 96, 97, 86, 98, 99, 100, 101, 58, 102, 103, 104, 105, 106, 107, 108, 109, 152, 153, 154, 155, 156, 157, 158, 159, 160, 161, 162, 163, 150, 151, 164, 165, 166, 167, 168, 169] (by decide +kernel) (by decide +kernel)
set_option maxRecDepth 20000 in
theorem gX5_bestSingers_X0_addVerse : GoodIn wsX5_bestSingers (wsV RX5 210 RX0 yX0_addVerse wsX0_addVerse) := goodIn_app (goodIn_of _ (by decide +kernel)) ggX5_bestSingers_X0_addVerse
theorem dX5_bestSingers_0 : decode cX5_bestSingers 0 = .ok (.aload_n 0, 1) := by decide +kernel
theorem dX5_bestSingers_1 : decode cX5_bestSingers 1 = .ok (.getfield 14, 3) := by decide +kernel
theorem dX5_bestSingers_4 : decode cX5_bestSingers 4 = .ok (.invokevirtual 197, 3) := by decide +kernel
theorem dX5_bestSingers_7 : decode cX5_bestSingers 7 = .ok (.ifCond .ne 5, 3) := by decide +kernel
theorem dX5_bestSingers_10 : decode cX5_bestSingers 10 = .ok (.iconst (-1), 1) := by decide +kernel
theorem dX5_bestSingers_11 : decode cX5_bestSingers 11 = .ok (.ireturn, 1) := by decide +kernel
theorem dX5_bestSingers_12 : decode cX5_bestSingers 12 = .ok (.aload_n 0, 1) := by decide +kernel
theorem dX5_bestSingers_13 : decode cX5_bestSingers 13 = .ok (.getfield 28, 3) := by decide +kernel
theorem dX5_bestSingers_16 : decode cX5_bestSingers 16 = .ok (.aload_n 0, 1) := by decide +kernel
theorem dX5_bestSingers_17 : decode cX5_bestSingers 17 = .ok (.getfield 14, 3) := by decide +kernel
theorem dX5_bestSingers_20 : decode cX5_bestSingers 20 = .ok (.invokevirtual 206, 3) := by decide +kernel
theorem dX5_bestSingers_23 : decode cX5_bestSingers 23 = .ok (.iconst (-1), 1) := by decide +kernel
theorem dX5_bestSingers_24 : decode cX5_bestSingers 24 = .ok (.istore_n 1, 1) := by decide +kernel
theorem dX5_bestSingers_25 : decode cX5_bestSingers 25 = .ok (.bipush 48, 2) := by decide +kernel
theorem dX5_bestSingers_27 : decode cX5_bestSingers 27 = .ok (.istore_n 2, 1) := by decide +kernel
theorem dX5_bestSingers_28 : decode cX5_bestSingers 28 = .ok (.iconst 1, 1) := by decide +kernel
theorem dX5_bestSingers_29 : decode cX5_bestSingers 29 = .ok (.istore_n 3, 1) := by decide +kernel
theorem dX5_bestSingers_30 : decode cX5_bestSingers 30 = .ok (.iload_n 3, 1) := by decide +kernel
theorem dX5_bestSingers_31 : decode cX5_bestSingers 31 = .ok (.bipush 8, 2) := by decide +kernel
theorem dX5_bestSingers_33 : decode cX5_bestSingers 33 = .ok (.if_icmp .gt 53, 3) := by decide +kernel
theorem dX5_bestSingers_36 : decode cX5_bestSingers 36 = .ok (.aload_n 0, 1) := by decide +kernel
theorem dX5_bestSingers_37 : decode cX5_bestSingers 37 = .ok (.getfield 25, 3) := by decide +kernel
theorem dX5_bestSingers_40 : decode cX5_bestSingers 40 = .ok (.aload_n 0, 1) := by decide +kernel
theorem dX5_bestSingers_41 : decode cX5_bestSingers 41 = .ok (.getfield 21, 3) := by decide +kernel
theorem dX5_bestSingers_44 : decode cX5_bestSingers 44 = .ok (.invokevirtual 240, 3) := by decide +kernel
theorem dX5_bestSingers_47 : decode cX5_bestSingers 47 = .ok (.aload_n 0, 1) := by decide +kernel
theorem dX5_bestSingers_48 : decode cX5_bestSingers 48 = .ok (.getfield 25, 3) := by decide +kernel
theorem dX5_bestSingers_51 : decode cX5_bestSingers 51 = .ok (.iload_n 3, 1) := by decide +kernel
theorem dX5_bestSingers_52 : decode cX5_bestSingers 52 = .ok (.invokevirtual 225, 3) := by decide +kernel
theorem dX5_bestSingers_55 : decode cX5_bestSingers 55 = .ok (.pop, 1) := by decide +kernel
theorem dX5_bestSingers_56 : decode cX5_bestSingers 56 = .ok (.aload_n 0, 1) := by decide +kernel
theorem dX5_bestSingers_57 : decode cX5_bestSingers 57 = .ok (.getfield 25, 3) := by decide +kernel
theorem dX5_bestSingers_60 : decode cX5_bestSingers 60 = .ok (.aload_n 0, 1) := by decide +kernel
theorem dX5_bestSingers_61 : decode cX5_bestSingers 61 = .ok (.getfield 28, 3) := by decide +kernel
theorem dX5_bestSingers_64 : decode cX5_bestSingers 64 = .ok (.invokevirtual 210, 3) := by decide +kernel
theorem dX5_bestSingers_67 : decode cX5_bestSingers 67 = .ok (.istore 4, 2) := by decide +kernel
theorem dX5_bestSingers_69 : decode cX5_bestSingers 69 = .ok (.iload 4, 2) := by decide +kernel
theorem dX5_bestSingers_71 : decode cX5_bestSingers 71 = .ok (.iload_n 2, 1) := by decide +kernel
theorem dX5_bestSingers_72 : decode cX5_bestSingers 72 = .ok (.if_icmp .gt 8, 3) := by decide +kernel
theorem dX5_bestSingers_75 : decode cX5_bestSingers 75 = .ok (.iload 4, 2) := by decide +kernel
theorem dX5_bestSingers_77 : decode cX5_bestSingers 77 = .ok (.istore_n 2, 1) := by decide +kernel
theorem dX5_bestSingers_78 : decode cX5_bestSingers 78 = .ok (.iload_n 3, 1) := by decide +kernel
theorem dX5_bestSingers_79 : decode cX5_bestSingers 79 = .ok (.istore_n 1, 1) := by decide +kernel
theorem dX5_bestSingers_80 : decode cX5_bestSingers 80 = .ok (.iinc 3 1, 3) := by decide +kernel
theorem dX5_bestSingers_83 : decode cX5_bestSingers 83 = .ok (.goto (-53), 3) := by decide +kernel
theorem dX5_bestSingers_86 : decode cX5_bestSingers 86 = .ok (.iload_n 1, 1) := by decide +kernel
theorem dX5_bestSingers_87 : decode cX5_bestSingers 87 = .ok (.ireturn, 1) := by decide +kernel
set_option maxRecDepth 20000 in
theorem ggX5_bestAgain_X2_takeVerse : GoodIn wsX5_bestAgain wsX2_takeVerse := goodIn_r _ [11, 12, 13, 14, 10, 15, 16, 17, 18, 19, 20, 21, 22, 23, 24, 25, 26, 27, 28, 29, 30, 31, 32, 33, 34, 35, 36, 37, 38, 39, 40, 41, 42, 43, 44, 169, 170, 161, 162, 163, 164, 165, 166, 167, 168] (by decide +kernel) (by decide +kernel)
set_option maxRecDepth 20000 in
theorem gX5_bestAgain_X2_takeVerse : GoodIn wsX5_bestAgain (wsV RX5 214 RX2 yX2_takeVerse wsX2_takeVerse) := goodIn_app (goodIn_of _ (by decide +kernel)) ggX5_bestAgain_X2_takeVerse
set_option maxRecDepth 20000 in
theorem ggX5_bestAgain_X0_becomeChoir : GoodIn wsX5_bestAgain wsX0_becomeChoir := goodIn_r _ [49, 50, 51, 52, 53, 54, 55, 20, 56, 39, 23, 57, 22, 58, 59, 60, 61, 62, 25, 63, 64, 65, 66, 67, 68, 69, 70, 71, 72, 73, 74, 75, 76, 77, 78, 79, 80, 81, 157, 158, 159, 160, 161, 162, 163, 164, 165, 166, 167, 168, 171, 172, 173, 174, 175, 176] (by decide +kernel) (by decide +kernel)
set_option maxRecDepth 20000 in
theorem gX5_bestAgain_X0_becomeChoir : GoodIn wsX5_bestAgain (wsV RX5 240 RX0 yX0_becomeChoir wsX0_becomeChoir) := goodIn_app (goodIn_of _ (by decide +kernel)) ggX5_bestAgain_X0_becomeChoir
set_option maxRecDepth 20000 in
theorem ggX5_bestAgain_X0_addVerse : GoodIn wsX5_bestAgain wsX0_addVerse := goodIn_r _ [85, 50, 86, 87, 88, 51, 89, 90, 91, 20, 92, 22, 57, 93, 94, 95, 96, 23, 39, 59, 24, 25, 26, 97, 98, 99, 100, 101, 61, 102, 103, 104, 10, 105, 44, 106, 107, 108, 75, 109, 110, 111, 65, 66, 67, 112, 113, 114, 77, 78, 80, 81, 115, 79, 116, 117, 118, 119, 120, 121, 122, 48, 123, 52, 124, 125, 62, 63, 64, 68, 69, 70, 71, 126, 127, 128, 129, 130, 131, 132, 133, 134, 58, 135, 136, 137, 138, 139, 140, 141, 142, 157, 158, 159, 160, 161, 162, 163, 164, 165, 166, 167, 168, 169, 170, 171, 172, 173, 174, 175, 176] (by decide +kernel) (by decide +kernel)
set_option maxRecDepth 20000 in
theorem gX5_bestAgain_X0_addVerse : GoodIn wsX5_bestAgain (wsV RX5 210 RX0 yX0_addVerse wsX0_addVerse) := goodIn_app (goodIn_of _ (by decide +kernel)) ggX5_bestAgain_X0_addVerse
set_option maxRecDepth 20000 in
theorem ggX5_bestAgain_X3_pieces : GoodIn wsX5_bestAgain wsX3_pieces := goodIn_r _ [146, 77, 147, 148, 149, 75, 150, 80, 24, 25, 26, 171, 172, 173, 174, 175, 176] (by decide +kernel) (by decide +kernel)
set_option maxRecDepth 20000 in
theorem gX5_bestAgain_X3_pieces : GoodIn wsX5_bestAgain (wsV RX5 94 RX3 yX3_pieces wsX3_pieces) := goodIn_app (goodIn_of _ (by decide +kernel)) ggX5_bestAgain_X3_pieces
theorem dX5_bestAgain_0 : decode cX5_bestAgain 0 = .ok (.iconst (-1), 1) := by decide +kernel
theorem dX5_bestAgain_1 : decode cX5_bestAgain 1 = .ok (.istore_n 1, 1) := by decide +kernel
theorem dX5_bestAgain_2 : decode cX5_bestAgain 2 = .ok (.iconst 0, 1) := by decide +kernel
theorem dX5_bestAgain_3 : decode cX5_bestAgain 3 = .ok (.istore_n 2, 1) := by decide +kernel
theorem dX5_bestAgain_4 : decode cX5_bestAgain 4 = .ok (.iconst 0, 1) := by decide +kernel
theorem dX5_bestAgain_5 : decode cX5_bestAgain 5 = .ok (.istore_n 3, 1) := by decide +kernel
theorem dX5_bestAgain_6 : decode cX5_bestAgain 6 = .ok (.iload_n 3, 1) := by decide +kernel
theorem dX5_bestAgain_7 : decode cX5_bestAgain 7 = .ok (.aload_n 0, 1) := by decide +kernel
theorem dX5_bestAgain_8 : decode cX5_bestAgain 8 = .ok (.getfield 21, 3) := by decide +kernel
theorem dX5_bestAgain_11 : decode cX5_bestAgain 11 = .ok (.getfield 74, 3) := by decide +kernel
theorem dX5_bestAgain_14 : decode cX5_bestAgain 14 = .ok (.getfield 81, 3) := by decide +kernel
theorem dX5_bestAgain_17 : decode cX5_bestAgain 17 = .ok (.if_icmp .ge 70, 3) := by decide +kernel
theorem dX5_bestAgain_20 : decode cX5_bestAgain 20 = .ok (.aload_n 0, 1) := by decide +kernel
theorem dX5_bestAgain_21 : decode cX5_bestAgain 21 = .ok (.getfield 28, 3) := by decide +kernel
theorem dX5_bestAgain_24 : decode cX5_bestAgain 24 = .ok (.aload_n 0, 1) := by decide +kernel
theorem dX5_bestAgain_25 : decode cX5_bestAgain 25 = .ok (.getfield 21, 3) := by decide +kernel
theorem dX5_bestAgain_28 : decode cX5_bestAgain 28 = .ok (.getfield 74, 3) := by decide +kernel
theorem dX5_bestAgain_31 : decode cX5_bestAgain 31 = .ok (.iload_n 3, 1) := by decide +kernel
theorem dX5_bestAgain_32 : decode cX5_bestAgain 32 = .ok (.invokevirtual 214, 3) := by decide +kernel
theorem dX5_bestAgain_35 : decode cX5_bestAgain 35 = .ok (.aload_n 0, 1) := by decide +kernel
theorem dX5_bestAgain_36 : decode cX5_bestAgain 36 = .ok (.getfield 25, 3) := by decide +kernel
theorem dX5_bestAgain_39 : decode cX5_bestAgain 39 = .ok (.aload_n 0, 1) := by decide +kernel
theorem dX5_bestAgain_40 : decode cX5_bestAgain 40 = .ok (.getfield 21, 3) := by decide +kernel
theorem dX5_bestAgain_43 : decode cX5_bestAgain 43 = .ok (.invokevirtual 240, 3) := by decide +kernel
theorem dX5_bestAgain_46 : decode cX5_bestAgain 46 = .ok (.aload_n 0, 1) := by decide +kernel
theorem dX5_bestAgain_47 : decode cX5_bestAgain 47 = .ok (.getfield 25, 3) := by decide +kernel
theorem dX5_bestAgain_50 : decode cX5_bestAgain 50 = .ok (.aload_n 0, 1) := by decide +kernel
theorem dX5_bestAgain_51 : decode cX5_bestAgain 51 = .ok (.getfield 28, 3) := by decide +kernel
theorem dX5_bestAgain_54 : decode cX5_bestAgain 54 = .ok (.invokevirtual 210, 3) := by decide +kernel
theorem dX5_bestAgain_57 : decode cX5_bestAgain 57 = .ok (.pop, 1) := by decide +kernel
theorem dX5_bestAgain_58 : decode cX5_bestAgain 58 = .ok (.aload_n 0, 1) := by decide +kernel
theorem dX5_bestAgain_59 : decode cX5_bestAgain 59 = .ok (.getfield 25, 3) := by decide +kernel
theorem dX5_bestAgain_62 : decode cX5_bestAgain 62 = .ok (.getfield 90, 3) := by decide +kernel
theorem dX5_bestAgain_65 : decode cX5_bestAgain 65 = .ok (.invokevirtual 94, 3) := by decide +kernel
theorem dX5_bestAgain_68 : decode cX5_bestAgain 68 = .ok (.istore 4, 2) := by decide +kernel
theorem dX5_bestAgain_70 : decode cX5_bestAgain 70 = .ok (.iload 4, 2) := by decide +kernel
theorem dX5_bestAgain_72 : decode cX5_bestAgain 72 = .ok (.iload_n 2, 1) := by decide +kernel
theorem dX5_bestAgain_73 : decode cX5_bestAgain 73 = .ok (.if_icmp .le 8, 3) := by decide +kernel
theorem dX5_bestAgain_76 : decode cX5_bestAgain 76 = .ok (.iload 4, 2) := by decide +kernel
theorem dX5_bestAgain_78 : decode cX5_bestAgain 78 = .ok (.istore_n 2, 1) := by decide +kernel
theorem dX5_bestAgain_79 : decode cX5_bestAgain 79 = .ok (.iload_n 3, 1) := by decide +kernel
theorem dX5_bestAgain_80 : decode cX5_bestAgain 80 = .ok (.istore_n 1, 1) := by decide +kernel
theorem dX5_bestAgain_81 : decode cX5_bestAgain 81 = .ok (.iinc 3 1, 3) := by decide +kernel
theorem dX5_bestAgain_84 : decode cX5_bestAgain 84 = .ok (.goto (-78), 3) := by decide +kernel
theorem dX5_bestAgain_87 : decode cX5_bestAgain 87 = .ok (.iload_n 1, 1) := by decide +kernel
theorem dX5_bestAgain_88 : decode cX5_bestAgain 88 = .ok (.ireturn, 1) := by decide +kernel
set_option maxRecDepth 20000 in
theorem ggX5_runScript_X5_groupsFrom : GoodIn wsX5_runScript wsX5_groupsFrom := goodIn_r _ [9, 5] (by decide +kernel) (by decide +kernel)
set_option maxRecDepth 20000 in
theorem gX5_runScript_X5_groupsFrom : GoodIn wsX5_runScript (va_wsS RX5 246 yX5_groupsFrom wsX5_groupsFrom) := goodIn_app (goodIn_of _ (by decide +kernel)) ggX5_runScript_X5_groupsFrom
set_option maxRecDepth 20000 in
theorem ggX5_runScript_X0_becomeChoir : GoodIn wsX5_runScript wsX0_becomeChoir := goodIn_r _ [14, 15, 16, 17, 18, 19, 20, 21, 22, 23, 24, 25, 26, 27, 28, 29, 30, 31, 8, 32, 33, 34, 35, 36, 37, 38, 39, 40, 41, 42, 43, 44, 45, 46, 47, 48, 49, 50, 216, 217, 218, 219, 220, 221, 222, 223, 224, 225, 226, 227, 228, 229, 230, 231, 232, 233] (by decide +kernel) (by decide +kernel)
set_option maxRecDepth 20000 in
theorem gX5_runScript_X0_becomeChoir : GoodIn wsX5_runScript (wsV RX5 240 RX0 yX0_becomeChoir wsX0_becomeChoir) := goodIn_app (goodIn_of _ (by decide +kernel)) ggX5_runScript_X0_becomeChoir
set_option maxRecDepth 20000 in
theorem ggX5_runScript_X5_runCommand : GoodIn wsX5_runScript wsX5_runCommand := goodIn_r _ [54, 3, 55, 56, 57, 58, 59, 60, 61, 8, 62, 63, 64, 65, 66, 21, 67, 26, 68, 69, 70, 71, 72, 73, 74, 75, 76, 77, 78, 79, 80, 81, 24, 82, 83, 84, 85, 86, 87, 88, 89, 90, 91, 92, 23, 93, 94, 95, 96, 97, 98, 99, 100, 13, 101, 15, 102, 103, 104, 16, 105, 106, 107, 108, 25, 109, 110, 111, 112, 28, 113, 114, 115, 116, 117, 30, 118, 119, 120, 121, 122, 123, 124, 44, 125, 126, 127, 34, 35, 36, 128, 129, 130, 46, 47, 49, 50, 131, 48, 132, 133, 134, 135, 136, 137, 138, 139, 17, 140, 141, 31, 32, 33, 37, 38, 39, 40, 142, 143, 144, 145, 146, 147, 148, 149, 150, 27, 151, 152, 153, 154, 155, 156, 157, 158, 159, 160, 161, 162, 163, 164, 165, 166, 167, 168, 169, 170, 171, 172, 173, 174, 175, 176, 177, 178, 179, 180, 181, 182, 183, 184, 185, 186, 187, 188, 189, 190, 191, 192, 193, 194, 195, 196, 197, 198, 199, 200, 201, 202, 203, 204, 205, 206, 207, 208, 209, 210, 211, 212, 213, 214, 215, 216, 217, 218, 219, 220, 221, 222, 223, 224, 225, 226, 227, 234, 235, 228, 229, 230, 231, 232, 233] (by decide +kernel) (by decide +kernel)
set_option maxRecDepth 20000 in
theorem gX5_runScript_X5_runCommand : GoodIn wsX5_runScript (wsV RX5 254 RX5 yX5_runCommand wsX5_runCommand) := goodIn_app (goodIn_of _ (by decide +kernel)) ggX5_runScript_X5_runCommand
theorem dX5_runScript_0 : decode cX5_runScript 0 = .ok (.iload_n 1, 1) := by decide +kernel
theorem dX5_runScript_1 : decode cX5_runScript 1 = .ok (.iconst 1, 1) := by decide +kernel
theorem dX5_runScript_2 : decode cX5_runScript 2 = .ok (.if_icmp .lt 14, 3) := by decide +kernel
theorem dX5_runScript_5 : decode cX5_runScript 5 = .ok (.iload_n 1, 1) := by decide +kernel
theorem dX5_runScript_6 : decode cX5_runScript 6 = .ok (.iconst 3, 1) := by decide +kernel
theorem dX5_runScript_7 : decode cX5_runScript 7 = .ok (.if_icmp .gt 9, 3) := by decide +kernel
theorem dX5_runScript_10 : decode cX5_runScript 10 = .ok (.lload_n 2, 1) := by decide +kernel
theorem dX5_runScript_11 : decode cX5_runScript 11 = .ok (.lconst 0, 1) := by decide +kernel
theorem dX5_runScript_12 : decode cX5_runScript 12 = .ok (.lcmp, 1) := by decide +kernel
theorem dX5_runScript_13 : decode cX5_runScript 13 = .ok (.ifCond .ge 13, 3) := by decide +kernel
theorem dX5_runScript_16 : decode cX5_runScript 16 = .ok (.new 44, 3) := by decide +kernel
theorem dX5_runScript_19 : decode cX5_runScript 19 = .ok (.dup, 1) := by decide +kernel
theorem dX5_runScript_20 : decode cX5_runScript 20 = .ok (.ldc 244, 2) := by decide +kernel
theorem dX5_runScript_22 : decode cX5_runScript 22 = .ok (.invokespecial 48, 3) := by decide +kernel
theorem dX5_runScript_25 : decode cX5_runScript 25 = .ok (.athrow, 1) := by decide +kernel
theorem dX5_runScript_26 : decode cX5_runScript 26 = .ok (.lload_n 2, 1) := by decide +kernel
theorem dX5_runScript_27 : decode cX5_runScript 27 = .ok (.iload_n 1, 1) := by decide +kernel
theorem dX5_runScript_28 : decode cX5_runScript 28 = .ok (.invokestatic 246, 3) := by decide +kernel
theorem dX5_runScript_31 : decode cX5_runScript 31 = .ok (.lconst 0, 1) := by decide +kernel
theorem dX5_runScript_32 : decode cX5_runScript 32 = .ok (.lcmp, 1) := by decide +kernel
theorem dX5_runScript_33 : decode cX5_runScript 33 = .ok (.ifCond .le 13, 3) := by decide +kernel
theorem dX5_runScript_36 : decode cX5_runScript 36 = .ok (.new 44, 3) := by decide +kernel
theorem dX5_runScript_39 : decode cX5_runScript 39 = .ok (.dup, 1) := by decide +kernel
theorem dX5_runScript_40 : decode cX5_runScript 40 = .ok (.ldc 250, 2) := by decide +kernel
theorem dX5_runScript_42 : decode cX5_runScript 42 = .ok (.invokespecial 48, 3) := by decide +kernel
theorem dX5_runScript_45 : decode cX5_runScript 45 = .ok (.athrow, 1) := by decide +kernel
theorem dX5_runScript_46 : decode cX5_runScript 46 = .ok (.aload_n 0, 1) := by decide +kernel
theorem dX5_runScript_47 : decode cX5_runScript 47 = .ok (.getfield 25, 3) := by decide +kernel
theorem dX5_runScript_50 : decode cX5_runScript 50 = .ok (.aload_n 0, 1) := by decide +kernel
theorem dX5_runScript_51 : decode cX5_runScript 51 = .ok (.getfield 21, 3) := by decide +kernel
theorem dX5_runScript_54 : decode cX5_runScript 54 = .ok (.invokevirtual 240, 3) := by decide +kernel
theorem dX5_runScript_57 : decode cX5_runScript 57 = .ok (.iconst 0, 1) := by decide +kernel
theorem dX5_runScript_58 : decode cX5_runScript 58 = .ok (.istore 4, 2) := by decide +kernel
theorem dX5_runScript_60 : decode cX5_runScript 60 = .ok (.iload 4, 2) := by decide +kernel
theorem dX5_runScript_62 : decode cX5_runScript 62 = .ok (.iload_n 1, 1) := by decide +kernel
theorem dX5_runScript_63 : decode cX5_runScript 63 = .ok (.if_icmp .ge 48, 3) := by decide +kernel
theorem dX5_runScript_66 : decode cX5_runScript 66 = .ok (.lload_n 2, 1) := by decide +kernel
theorem dX5_runScript_67 : decode cX5_runScript 67 = .ok (.iload_n 1, 1) := by decide +kernel
theorem dX5_runScript_68 : decode cX5_runScript 68 = .ok (.iconst 1, 1) := by decide +kernel
theorem dX5_runScript_69 : decode cX5_runScript 69 = .ok (.isub, 1) := by decide +kernel
theorem dX5_runScript_70 : decode cX5_runScript 70 = .ok (.iload 4, 2) := by decide +kernel
theorem dX5_runScript_72 : decode cX5_runScript 72 = .ok (.isub, 1) := by decide +kernel
theorem dX5_runScript_73 : decode cX5_runScript 73 = .ok (.invokestatic 246, 3) := by decide +kernel
theorem dX5_runScript_76 : decode cX5_runScript 76 = .ok (.ldc2_w 252, 3) := by decide +kernel
theorem dX5_runScript_79 : decode cX5_runScript 79 = .ok (.lrem, 1) := by decide +kernel
theorem dX5_runScript_80 : decode cX5_runScript 80 = .ok (.l2i, 1) := by decide +kernel
theorem dX5_runScript_81 : decode cX5_runScript 81 = .ok (.istore 5, 2) := by decide +kernel
theorem dX5_runScript_83 : decode cX5_runScript 83 = .ok (.aload_n 0, 1) := by decide +kernel
theorem dX5_runScript_84 : decode cX5_runScript 84 = .ok (.iload 5, 2) := by decide +kernel
theorem dX5_runScript_86 : decode cX5_runScript 86 = .ok (.sipush 10000, 3) := by decide +kernel
theorem dX5_runScript_89 : decode cX5_runScript 89 = .ok (.idiv, 1) := by decide +kernel
theorem dX5_runScript_90 : decode cX5_runScript 90 = .ok (.iload 5, 2) := by decide +kernel
theorem dX5_runScript_92 : decode cX5_runScript 92 = .ok (.sipush 10000, 3) := by decide +kernel
theorem dX5_runScript_95 : decode cX5_runScript 95 = .ok (.irem, 1) := by decide +kernel
theorem dX5_runScript_96 : decode cX5_runScript 96 = .ok (.invokevirtual 254, 3) := by decide +kernel
theorem dX5_runScript_99 : decode cX5_runScript 99 = .ok (.ifCond .ne 6, 3) := by decide +kernel
theorem dX5_runScript_102 : decode cX5_runScript 102 = .ok (.iload 4, 2) := by decide +kernel
theorem dX5_runScript_104 : decode cX5_runScript 104 = .ok (.ireturn, 1) := by decide +kernel
theorem dX5_runScript_105 : decode cX5_runScript 105 = .ok (.iinc 4 1, 3) := by decide +kernel
theorem dX5_runScript_108 : decode cX5_runScript 108 = .ok (.goto (-48), 3) := by decide +kernel
theorem dX5_runScript_111 : decode cX5_runScript 111 = .ok (.iconst (-1), 1) := by decide +kernel
theorem dX5_runScript_112 : decode cX5_runScript 112 = .ok (.ireturn, 1) := by decide +kernel
theorem dX5_groupsFrom_0 : decode cX5_groupsFrom 0 = .ok (.lload_n 0, 1) := by decide +kernel
theorem dX5_groupsFrom_1 : decode cX5_groupsFrom 1 = .ok (.lstore_n 3, 1) := by decide +kernel
theorem dX5_groupsFrom_2 : decode cX5_groupsFrom 2 = .ok (.iconst 0, 1) := by decide +kernel
theorem dX5_groupsFrom_3 : decode cX5_groupsFrom 3 = .ok (.istore 5, 2) := by decide +kernel
theorem dX5_groupsFrom_5 : decode cX5_groupsFrom 5 = .ok (.iload 5, 2) := by decide +kernel
theorem dX5_groupsFrom_7 : decode cX5_groupsFrom 7 = .ok (.iload_n 2, 1) := by decide +kernel
theorem dX5_groupsFrom_8 : decode cX5_groupsFrom 8 = .ok (.if_icmp .ge 15, 3) := by decide +kernel
theorem dX5_groupsFrom_11 : decode cX5_groupsFrom 11 = .ok (.lload_n 3, 1) := by decide +kernel
theorem dX5_groupsFrom_12 : decode cX5_groupsFrom 12 = .ok (.ldc2_w 252, 3) := by decide +kernel
theorem dX5_groupsFrom_15 : decode cX5_groupsFrom 15 = .ok (.ldiv, 1) := by decide +kernel
theorem dX5_groupsFrom_16 : decode cX5_groupsFrom 16 = .ok (.lstore_n 3, 1) := by decide +kernel
theorem dX5_groupsFrom_17 : decode cX5_groupsFrom 17 = .ok (.iinc 5 1, 3) := by decide +kernel
theorem dX5_groupsFrom_20 : decode cX5_groupsFrom 20 = .ok (.goto (-15), 3) := by decide +kernel
theorem dX5_groupsFrom_23 : decode cX5_groupsFrom 23 = .ok (.lload_n 3, 1) := by decide +kernel
theorem dX5_groupsFrom_24 : decode cX5_groupsFrom 24 = .ok (.lreturn, 1) := by decide +kernel
set_option maxRecDepth 20000 in
theorem ggX5_runCommand_X5_tryVerse : GoodIn wsX5_runCommand wsX5_tryVerse := goodIn_r _ [10, 1, 3, 11, 12, 13, 14, 15, 16, 17, 18, 19, 20, 21, 22, 23, 24, 25, 26, 27, 28, 29, 30, 31, 32, 33, 9, 34, 35, 36, 37, 38, 39, 40, 41, 42, 43, 44, 45, 46, 47, 48, 49, 50, 51, 52, 53, 54, 55, 56, 57, 58, 59, 60, 61, 62, 63, 64, 65, 66, 67, 68, 69, 70, 71, 72, 73, 74, 75, 76, 77, 78, 79, 80, 81, 82, 83, 84, 85, 86, 87, 88, 89, 90, 91, 92, 93, 94, 95, 96, 97, 98, 99, 100, 101, 102, 103, 104, 105, 106, 107, 108, 109, 110, 111, 112, 113, 114, 115, 116, 117, 118, 119, 120, 121, 122, 123, 124, 125, 126, 127, 128, 129, 130, 131, 132, 133, 134, 186, 187, 188, 189, 190, 191, 192, 193, 194, 195, 196, 197, 198, 199, 200, 201, 202, 203, 204, 205, 206, 207, 208, 209, 210, 211] (by decide +kernel) (by decide +kernel)
set_option maxRecDepth 20000 in
theorem gX5_runCommand_X5_tryVerse : GoodIn wsX5_runCommand (wsV RX5 258 RX5 yX5_tryVerse wsX5_tryVerse) := goodIn_app (goodIn_of _ (by decide +kernel)) ggX5_runCommand_X5_tryVerse
set_option maxRecDepth 20000 in
theorem ggX5_runCommand_X5_tryForgetting : GoodIn wsX5_runCommand wsX5_tryForgetting := goodIn_r _ [138, 1, 3, 139, 140, 141, 142, 53, 143, 55, 56, 57, 59, 144, 66, 67, 15, 68, 32, 64, 44, 17, 69, 33, 9, 34, 80, 81, 82, 83, 84, 85, 86, 87, 88, 89, 90, 91, 92, 93, 94, 95, 96, 97, 98, 99, 100, 101, 102, 103, 104, 105, 106, 107, 108, 109, 110, 111, 112, 113, 114, 115, 116, 117, 118, 119, 120, 121, 122, 123, 124, 125, 126, 127, 128, 129, 130, 131, 132, 133, 134, 186, 187, 188, 189, 190, 191, 192, 193, 194, 195, 196, 197, 198, 199, 200, 201, 202, 203, 206, 207, 208, 209, 210, 211] (by decide +kernel) (by decide +kernel)
set_option maxRecDepth 20000 in
theorem gX5_runCommand_X5_tryForgetting : GoodIn wsX5_runCommand (wsV RX5 261 RX5 yX5_tryForgetting wsX5_tryForgetting) := goodIn_app (goodIn_of _ (by decide +kernel)) ggX5_runCommand_X5_tryForgetting
set_option maxRecDepth 20000 in
theorem ggX5_runCommand_X5_trySingers : GoodIn wsX5_runCommand wsX5_trySingers := goodIn_r _ [148, 1, 149, 150, 151, 53, 152, 55, 121, 56, 103, 104, 105, 106, 107, 108, 109, 110, 9, 111, 112, 87, 88, 89, 113, 114, 115, 116, 117, 118, 119, 120, 59, 122, 123, 124, 15, 125, 126, 64, 127, 128, 129, 83, 130, 93, 98, 33, 34, 131, 132, 133, 134, 186, 187, 188, 189, 190, 191, 192, 193, 194, 195, 196, 197, 198, 199, 200, 201, 202, 203, 206, 207, 208, 209, 210, 211] (by decide +kernel) (by decide +kernel)
set_option maxRecDepth 20000 in
theorem gX5_runCommand_X5_trySingers : GoodIn wsX5_runCommand (wsV RX5 264 RX5 yX5_trySingers wsX5_trySingers) := goodIn_app (goodIn_of _ (by decide +kernel)) ggX5_runCommand_X5_trySingers
set_option maxRecDepth 20000 in
theorem ggX5_runCommand_X5_tryLetters : GoodIn wsX5_runCommand wsX5_tryLetters := goodIn_r _ [156, 11, 1, 157, 158, 159, 21, 160, 27, 23, 24, 25, 26, 45, 46, 47, 48, 49, 50, 51, 52, 53, 54, 55, 56, 57, 58, 59, 60, 61, 62, 15, 63, 17, 64, 65, 66, 67, 68, 32, 44, 69, 33, 9, 34, 70, 71, 72, 73, 74, 75, 76, 77, 78, 79, 80, 81, 82, 83, 84, 85, 86, 87, 88, 89, 90, 91, 92, 93, 94, 95, 96, 97, 98, 99, 100, 101, 102, 103, 104, 105, 106, 107, 108, 109, 110, 111, 112, 113, 114, 115, 116, 117, 118, 119, 120, 121, 122, 123, 124, 125, 126, 127, 128, 129, 130, 131, 132, 133, 134, 186, 187, 188, 189, 190, 191, 204, 205, 192, 193, 194, 195, 196, 197, 198, 199, 200, 201, 202, 203, 206, 207, 208, 209, 210, 211] (by decide +kernel) (by decide +kernel)
set_option maxRecDepth 20000 in
theorem gX5_runCommand_X5_tryLetters : GoodIn wsX5_runCommand (wsV RX5 267 RX5 yX5_tryLetters wsX5_tryLetters) := goodIn_app (goodIn_of _ (by decide +kernel)) ggX5_runCommand_X5_tryLetters
set_option maxRecDepth 20000 in
theorem ggX5_runCommand_X3_longestRepeat : GoodIn wsX5_runCommand wsX3_longestRepeat := goodIn_r _ [164, 93, 90, 91, 88, 92, 165, 166, 167, 83, 168, 96, 33, 9, 34, 206, 207, 208, 209, 210, 211] (by decide +kernel) (by decide +kernel)
set_option maxRecDepth 20000 in
theorem gX5_runCommand_X3_longestRepeat : GoodIn wsX5_runCommand (wsV RX5 99 RX3 yX3_longestRepeat wsX3_longestRepeat) := goodIn_app (goodIn_of _ (by decide +kernel)) ggX5_runCommand_X3_longestRepeat
set_option maxRecDepth 20000 in
theorem ggX5_runCommand_X3_pieces : GoodIn wsX5_runCommand wsX3_pieces := goodIn_r _ [172, 93, 173, 174, 175, 83, 176, 95, 33, 9, 34, 206, 207, 208, 209, 210, 211] (by decide +kernel) (by decide +kernel)
set_option maxRecDepth 20000 in
theorem gX5_runCommand_X3_pieces : GoodIn wsX5_runCommand (wsV RX5 94 RX3 yX3_pieces wsX3_pieces) := goodIn_app (goodIn_of _ (by decide +kernel)) ggX5_runCommand_X3_pieces
set_option maxRecDepth 20000 in
theorem ggX5_runCommand_X5_isSungOften : GoodIn wsX5_runCommand wsX5_isSungOften := goodIn_r _ [180, 1, 2, 181, 182, 183, 83, 184, 93, 86, 87, 88, 89, 185, 128, 129, 130, 98, 173, 174, 175, 176, 95, 33, 9, 34, 186, 187, 188, 189, 190, 191, 192, 193, 194, 195, 206, 207, 208, 209, 210, 211] (by decide +kernel) (by decide +kernel)
set_option maxRecDepth 20000 in
theorem gX5_runCommand_X5_isSungOften : GoodIn wsX5_runCommand (wsV RX5 270 RX5 yX5_isSungOften wsX5_isSungOften) := goodIn_app (goodIn_of _ (by decide +kernel)) ggX5_runCommand_X5_isSungOften
theorem dX5_runCommand_0 : decode cX5_runCommand 0 = .ok (.iload_n 1, 1) := by decide +kernel
theorem dX5_runCommand_1 : decode cX5_runCommand 1 = .ok (.tableswitch 243 1 9 #[51, 75, 92, 118, 124, 150, 177, 203, 216], 51) := by decide +kernel
theorem dX5_runCommand_52 : decode cX5_runCommand 52 = .ok (.iload_n 2, 1) := by decide +kernel
theorem dX5_runCommand_53 : decode cX5_runCommand 53 = .ok (.bipush 100, 2) := by decide +kernel
theorem dX5_runCommand_55 : decode cX5_runCommand 55 = .ok (.irem, 1) := by decide +kernel
theorem dX5_runCommand_56 : decode cX5_runCommand 56 = .ok (.ifCond .ne 18, 3) := by decide +kernel
theorem dX5_runCommand_59 : decode cX5_runCommand 59 = .ok (.aload_n 0, 1) := by decide +kernel
theorem dX5_runCommand_60 : decode cX5_runCommand 60 = .ok (.iload_n 2, 1) := by decide +kernel
theorem dX5_runCommand_61 : decode cX5_runCommand 61 = .ok (.bipush 100, 2) := by decide +kernel
theorem dX5_runCommand_63 : decode cX5_runCommand 63 = .ok (.idiv, 1) := by decide +kernel
theorem dX5_runCommand_64 : decode cX5_runCommand 64 = .ok (.invokevirtual 258, 3) := by decide +kernel
theorem dX5_runCommand_67 : decode cX5_runCommand 67 = .ok (.ifCond .eq 7, 3) := by decide +kernel
theorem dX5_runCommand_70 : decode cX5_runCommand 70 = .ok (.iconst 1, 1) := by decide +kernel
theorem dX5_runCommand_71 : decode cX5_runCommand 71 = .ok (.goto 4, 3) := by decide +kernel
theorem dX5_runCommand_74 : decode cX5_runCommand 74 = .ok (.iconst 0, 1) := by decide +kernel
theorem dX5_runCommand_75 : decode cX5_runCommand 75 = .ok (.ireturn, 1) := by decide +kernel
theorem dX5_runCommand_76 : decode cX5_runCommand 76 = .ok (.iload_n 2, 1) := by decide +kernel
theorem dX5_runCommand_77 : decode cX5_runCommand 77 = .ok (.ifCond .ne 14, 3) := by decide +kernel
theorem dX5_runCommand_80 : decode cX5_runCommand 80 = .ok (.aload_n 0, 1) := by decide +kernel
theorem dX5_runCommand_81 : decode cX5_runCommand 81 = .ok (.invokevirtual 261, 3) := by decide +kernel
theorem dX5_runCommand_84 : decode cX5_runCommand 84 = .ok (.ifCond .eq 7, 3) := by decide +kernel
theorem dX5_runCommand_87 : decode cX5_runCommand 87 = .ok (.iconst 1, 1) := by decide +kernel
theorem dX5_runCommand_88 : decode cX5_runCommand 88 = .ok (.goto 4, 3) := by decide +kernel
theorem dX5_runCommand_91 : decode cX5_runCommand 91 = .ok (.iconst 0, 1) := by decide +kernel
theorem dX5_runCommand_92 : decode cX5_runCommand 92 = .ok (.ireturn, 1) := by decide +kernel
theorem dX5_runCommand_93 : decode cX5_runCommand 93 = .ok (.iload_n 2, 1) := by decide +kernel
theorem dX5_runCommand_94 : decode cX5_runCommand 94 = .ok (.sipush 1000, 3) := by decide +kernel
theorem dX5_runCommand_97 : decode cX5_runCommand 97 = .ok (.irem, 1) := by decide +kernel
theorem dX5_runCommand_98 : decode cX5_runCommand 98 = .ok (.ifCond .ne 19, 3) := by decide +kernel
theorem dX5_runCommand_101 : decode cX5_runCommand 101 = .ok (.aload_n 0, 1) := by decide +kernel
theorem dX5_runCommand_102 : decode cX5_runCommand 102 = .ok (.iload_n 2, 1) := by decide +kernel
theorem dX5_runCommand_103 : decode cX5_runCommand 103 = .ok (.sipush 1000, 3) := by decide +kernel
theorem dX5_runCommand_106 : decode cX5_runCommand 106 = .ok (.idiv, 1) := by decide +kernel
theorem dX5_runCommand_107 : decode cX5_runCommand 107 = .ok (.invokevirtual 264, 3) := by decide +kernel
theorem dX5_runCommand_110 : decode cX5_runCommand 110 = .ok (.ifCond .eq 7, 3) := by decide +kernel
theorem dX5_runCommand_113 : decode cX5_runCommand 113 = .ok (.iconst 1, 1) := by decide +kernel
theorem dX5_runCommand_114 : decode cX5_runCommand 114 = .ok (.goto 4, 3) := by decide +kernel
theorem dX5_runCommand_117 : decode cX5_runCommand 117 = .ok (.iconst 0, 1) := by decide +kernel
theorem dX5_runCommand_118 : decode cX5_runCommand 118 = .ok (.ireturn, 1) := by decide +kernel
theorem dX5_runCommand_119 : decode cX5_runCommand 119 = .ok (.aload_n 0, 1) := by decide +kernel
theorem dX5_runCommand_120 : decode cX5_runCommand 120 = .ok (.iload_n 2, 1) := by decide +kernel
theorem dX5_runCommand_121 : decode cX5_runCommand 121 = .ok (.invokevirtual 267, 3) := by decide +kernel
theorem dX5_runCommand_124 : decode cX5_runCommand 124 = .ok (.ireturn, 1) := by decide +kernel
theorem dX5_runCommand_125 : decode cX5_runCommand 125 = .ok (.iload_n 2, 1) := by decide +kernel
theorem dX5_runCommand_126 : decode cX5_runCommand 126 = .ok (.bipush 100, 2) := by decide +kernel
theorem dX5_runCommand_128 : decode cX5_runCommand 128 = .ok (.if_icmp .ge 21, 3) := by decide +kernel
theorem dX5_runCommand_131 : decode cX5_runCommand 131 = .ok (.aload_n 0, 1) := by decide +kernel
theorem dX5_runCommand_132 : decode cX5_runCommand 132 = .ok (.getfield 25, 3) := by decide +kernel
theorem dX5_runCommand_135 : decode cX5_runCommand 135 = .ok (.getfield 90, 3) := by decide +kernel
theorem dX5_runCommand_138 : decode cX5_runCommand 138 = .ok (.invokevirtual 99, 3) := by decide +kernel
theorem dX5_runCommand_141 : decode cX5_runCommand 141 = .ok (.iload_n 2, 1) := by decide +kernel
theorem dX5_runCommand_142 : decode cX5_runCommand 142 = .ok (.if_icmp .lt 7, 3) := by decide +kernel
theorem dX5_runCommand_145 : decode cX5_runCommand 145 = .ok (.iconst 1, 1) := by decide +kernel
theorem dX5_runCommand_146 : decode cX5_runCommand 146 = .ok (.goto 4, 3) := by decide +kernel
theorem dX5_runCommand_149 : decode cX5_runCommand 149 = .ok (.iconst 0, 1) := by decide +kernel
theorem dX5_runCommand_150 : decode cX5_runCommand 150 = .ok (.ireturn, 1) := by decide +kernel
theorem dX5_runCommand_151 : decode cX5_runCommand 151 = .ok (.iload_n 2, 1) := by decide +kernel
theorem dX5_runCommand_152 : decode cX5_runCommand 152 = .ok (.sipush 1000, 3) := by decide +kernel
theorem dX5_runCommand_155 : decode cX5_runCommand 155 = .ok (.if_icmp .ge 21, 3) := by decide +kernel
theorem dX5_runCommand_158 : decode cX5_runCommand 158 = .ok (.aload_n 0, 1) := by decide +kernel
theorem dX5_runCommand_159 : decode cX5_runCommand 159 = .ok (.getfield 25, 3) := by decide +kernel
theorem dX5_runCommand_162 : decode cX5_runCommand 162 = .ok (.getfield 90, 3) := by decide +kernel
theorem dX5_runCommand_165 : decode cX5_runCommand 165 = .ok (.invokevirtual 94, 3) := by decide +kernel
theorem dX5_runCommand_168 : decode cX5_runCommand 168 = .ok (.iload_n 2, 1) := by decide +kernel
theorem dX5_runCommand_169 : decode cX5_runCommand 169 = .ok (.if_icmp .lt 7, 3) := by decide +kernel
theorem dX5_runCommand_172 : decode cX5_runCommand 172 = .ok (.iconst 1, 1) := by decide +kernel
theorem dX5_runCommand_173 : decode cX5_runCommand 173 = .ok (.goto 4, 3) := by decide +kernel
theorem dX5_runCommand_176 : decode cX5_runCommand 176 = .ok (.iconst 0, 1) := by decide +kernel
theorem dX5_runCommand_177 : decode cX5_runCommand 177 = .ok (.ireturn, 1) := by decide +kernel
theorem dX5_runCommand_178 : decode cX5_runCommand 178 = .ok (.iload_n 2, 1) := by decide +kernel
theorem dX5_runCommand_179 : decode cX5_runCommand 179 = .ok (.bipush 100, 2) := by decide +kernel
theorem dX5_runCommand_181 : decode cX5_runCommand 181 = .ok (.if_icmp .ge 21, 3) := by decide +kernel
theorem dX5_runCommand_184 : decode cX5_runCommand 184 = .ok (.aload_n 0, 1) := by decide +kernel
theorem dX5_runCommand_185 : decode cX5_runCommand 185 = .ok (.getfield 25, 3) := by decide +kernel
theorem dX5_runCommand_188 : decode cX5_runCommand 188 = .ok (.getfield 74, 3) := by decide +kernel
theorem dX5_runCommand_191 : decode cX5_runCommand 191 = .ok (.getfield 78, 3) := by decide +kernel
theorem dX5_runCommand_194 : decode cX5_runCommand 194 = .ok (.iload_n 2, 1) := by decide +kernel
theorem dX5_runCommand_195 : decode cX5_runCommand 195 = .ok (.if_icmp .lt 7, 3) := by decide +kernel
theorem dX5_runCommand_198 : decode cX5_runCommand 198 = .ok (.iconst 1, 1) := by decide +kernel
theorem dX5_runCommand_199 : decode cX5_runCommand 199 = .ok (.goto 4, 3) := by decide +kernel
theorem dX5_runCommand_202 : decode cX5_runCommand 202 = .ok (.iconst 0, 1) := by decide +kernel
theorem dX5_runCommand_203 : decode cX5_runCommand 203 = .ok (.ireturn, 1) := by decide +kernel
theorem dX5_runCommand_204 : decode cX5_runCommand 204 = .ok (.aload_n 0, 1) := by decide +kernel
theorem dX5_runCommand_205 : decode cX5_runCommand 205 = .ok (.iload_n 2, 1) := by decide +kernel
theorem dX5_runCommand_206 : decode cX5_runCommand 206 = .ok (.bipush 100, 2) := by decide +kernel
theorem dX5_runCommand_208 : decode cX5_runCommand 208 = .ok (.idiv, 1) := by decide +kernel
theorem dX5_runCommand_209 : decode cX5_runCommand 209 = .ok (.iload_n 2, 1) := by decide +kernel
theorem dX5_runCommand_210 : decode cX5_runCommand 210 = .ok (.bipush 100, 2) := by decide +kernel
theorem dX5_runCommand_212 : decode cX5_runCommand 212 = .ok (.irem, 1) := by decide +kernel
theorem dX5_runCommand_213 : decode cX5_runCommand 213 = .ok (.invokevirtual 270, 3) := by decide +kernel
theorem dX5_runCommand_216 : decode cX5_runCommand 216 = .ok (.ireturn, 1) := by decide +kernel
theorem dX5_runCommand_217 : decode cX5_runCommand 217 = .ok (.iload_n 2, 1) := by decide +kernel
theorem dX5_runCommand_218 : decode cX5_runCommand 218 = .ok (.sipush 1000, 3) := by decide +kernel
theorem dX5_runCommand_221 : decode cX5_runCommand 221 = .ok (.if_icmp .ge 21, 3) := by decide +kernel
theorem dX5_runCommand_224 : decode cX5_runCommand 224 = .ok (.aload_n 0, 1) := by decide +kernel
theorem dX5_runCommand_225 : decode cX5_runCommand 225 = .ok (.getfield 25, 3) := by decide +kernel
theorem dX5_runCommand_228 : decode cX5_runCommand 228 = .ok (.getfield 74, 3) := by decide +kernel
theorem dX5_runCommand_231 : decode cX5_runCommand 231 = .ok (.getfield 105, 3) := by decide +kernel
theorem dX5_runCommand_234 : decode cX5_runCommand 234 = .ok (.iload_n 2, 1) := by decide +kernel
theorem dX5_runCommand_235 : decode cX5_runCommand 235 = .ok (.if_icmp .gt 7, 3) := by decide +kernel
theorem dX5_runCommand_238 : decode cX5_runCommand 238 = .ok (.iconst 1, 1) := by decide +kernel
theorem dX5_runCommand_239 : decode cX5_runCommand 239 = .ok (.goto 4, 3) := by decide +kernel
theorem dX5_runCommand_242 : decode cX5_runCommand 242 = .ok (.iconst 0, 1) := by decide +kernel
theorem dX5_runCommand_243 : decode cX5_runCommand 243 = .ok (.ireturn, 1) := by decide +kernel
theorem dX5_runCommand_244 : decode cX5_runCommand 244 = .ok (.iconst 0, 1) := by decide +kernel
theorem dX5_runCommand_245 : decode cX5_runCommand 245 = .ok (.ireturn, 1) := by decide +kernel
set_option maxRecDepth 20000 in
theorem ggX5_tryVerse_X4_hasVerse : GoodIn wsX5_tryVerse wsX4_hasVerse := goodIn_r _ [8, 9, 138, 139, 140, 141, 142, 143, 144, 145] (by decide +kernel) (by decide +kernel)
set_option maxRecDepth 20000 in
theorem gX5_tryVerse_X4_hasVerse : GoodIn wsX5_tryVerse (wsV RX5 141 RX4 yX4_hasVerse wsX4_hasVerse) := goodIn_app (goodIn_of _ (by decide +kernel)) ggX5_tryVerse_X4_hasVerse
set_option maxRecDepth 20000 in
theorem ggX5_tryVerse_X2_takeVerse : GoodIn wsX5_tryVerse wsX2_takeVerse := goodIn_r _ [14, 15, 16, 17, 13, 18, 19, 20, 21, 22, 7, 23, 9, 24, 25, 26, 27, 28, 29, 30, 31, 32, 5, 6, 8, 33, 34, 35, 36, 37, 38, 39, 40, 41, 42, 146, 147, 138, 139, 140, 141, 142, 143, 144, 145] (by decide +kernel) (by decide +kernel)
set_option maxRecDepth 20000 in
theorem gX5_tryVerse_X2_takeVerse : GoodIn wsX5_tryVerse (wsV RX5 214 RX2 yX2_takeVerse wsX2_takeVerse) := goodIn_app (goodIn_of _ (by decide +kernel)) ggX5_tryVerse_X2_takeVerse
set_option maxRecDepth 20000 in
theorem ggX5_tryVerse_X0_addVerse : GoodIn wsX5_tryVerse wsX0_addVerse := goodIn_r _ [47, 48, 49, 50, 51, 52, 53, 54, 55, 7, 56, 9, 57, 58, 59, 60, 61, 24, 37, 62, 25, 26, 27, 63, 64, 65, 66, 67, 68, 69, 70, 71, 13, 72, 42, 73, 74, 75, 76, 77, 78, 79, 80, 81, 82, 83, 84, 85, 86, 87, 88, 89, 90, 91, 92, 93, 94, 95, 96, 97, 98, 46, 99, 100, 101, 102, 103, 104, 105, 106, 107, 108, 109, 110, 111, 112, 113, 114, 115, 116, 117, 118, 119, 120, 121, 122, 123, 124, 125, 126, 127, 134, 135, 136, 137, 138, 139, 140, 141, 142, 143, 144, 145, 146, 147, 148, 149, 150, 151, 152, 153] (by decide +kernel) (by decide +kernel)
set_option maxRecDepth 20000 in
theorem gX5_tryVerse_X0_addVerse : GoodIn wsX5_tryVerse (wsV RX5 210 RX0 yX0_addVerse wsX0_addVerse) := goodIn_app (goodIn_of _ (by decide +kernel)) ggX5_tryVerse_X0_addVerse
theorem dX5_tryVerse_0 : decode cX5_tryVerse 0 = .ok (.aload_n 0, 1) := by decide +kernel
theorem dX5_tryVerse_1 : decode cX5_tryVerse 1 = .ok (.getfield 25, 3) := by decide +kernel
theorem dX5_tryVerse_4 : decode cX5_tryVerse 4 = .ok (.getfield 74, 3) := by decide +kernel
theorem dX5_tryVerse_7 : decode cX5_tryVerse 7 = .ok (.iload_n 1, 1) := by decide +kernel
theorem dX5_tryVerse_8 : decode cX5_tryVerse 8 = .ok (.invokevirtual 141, 3) := by decide +kernel
theorem dX5_tryVerse_11 : decode cX5_tryVerse 11 = .ok (.ifCond .ne 5, 3) := by decide +kernel
theorem dX5_tryVerse_14 : decode cX5_tryVerse 14 = .ok (.iconst 0, 1) := by decide +kernel
theorem dX5_tryVerse_15 : decode cX5_tryVerse 15 = .ok (.ireturn, 1) := by decide +kernel
theorem dX5_tryVerse_16 : decode cX5_tryVerse 16 = .ok (.aload_n 0, 1) := by decide +kernel
theorem dX5_tryVerse_17 : decode cX5_tryVerse 17 = .ok (.getfield 28, 3) := by decide +kernel
theorem dX5_tryVerse_20 : decode cX5_tryVerse 20 = .ok (.aload_n 0, 1) := by decide +kernel
theorem dX5_tryVerse_21 : decode cX5_tryVerse 21 = .ok (.getfield 25, 3) := by decide +kernel
theorem dX5_tryVerse_24 : decode cX5_tryVerse 24 = .ok (.getfield 74, 3) := by decide +kernel
theorem dX5_tryVerse_27 : decode cX5_tryVerse 27 = .ok (.iload_n 1, 1) := by decide +kernel
theorem dX5_tryVerse_28 : decode cX5_tryVerse 28 = .ok (.invokevirtual 214, 3) := by decide +kernel
theorem dX5_tryVerse_31 : decode cX5_tryVerse 31 = .ok (.aload_n 0, 1) := by decide +kernel
theorem dX5_tryVerse_32 : decode cX5_tryVerse 32 = .ok (.getfield 25, 3) := by decide +kernel
theorem dX5_tryVerse_35 : decode cX5_tryVerse 35 = .ok (.aload_n 0, 1) := by decide +kernel
theorem dX5_tryVerse_36 : decode cX5_tryVerse 36 = .ok (.getfield 28, 3) := by decide +kernel
theorem dX5_tryVerse_39 : decode cX5_tryVerse 39 = .ok (.invokevirtual 210, 3) := by decide +kernel
theorem dX5_tryVerse_42 : decode cX5_tryVerse 42 = .ok (.pop, 1) := by decide +kernel
theorem dX5_tryVerse_43 : decode cX5_tryVerse 43 = .ok (.iconst 1, 1) := by decide +kernel
theorem dX5_tryVerse_44 : decode cX5_tryVerse 44 = .ok (.ireturn, 1) := by decide +kernel
set_option maxRecDepth 20000 in
theorem ggX5_tryForgetting_X0_dropOldest : GoodIn wsX5_tryForgetting wsX0_dropOldest := goodIn_r _ [8, 9, 10, 11, 12, 13, 14, 15, 16, 17, 18, 19, 20, 21, 22, 23, 24, 25, 26, 27, 28, 29, 30, 31, 32, 33, 34, 35, 36, 37, 38, 39, 40, 41, 42, 43, 44, 45, 46, 47, 48, 49, 50, 51, 7, 52, 53, 54, 55, 56, 57, 58, 59, 60, 61, 62, 63, 64, 65, 66, 67, 68, 69, 70, 71, 72, 73, 74, 75, 76, 77, 78, 79, 80, 87, 88, 89, 90, 91, 92, 93, 94, 95, 96, 97, 98, 99, 100, 101, 102, 103, 104] (by decide +kernel) (by decide +kernel)
set_option maxRecDepth 20000 in
theorem gX5_tryForgetting_X0_dropOldest : GoodIn wsX5_tryForgetting (wsV RX5 220 RX0 yX0_dropOldest wsX0_dropOldest) := goodIn_app (goodIn_of _ (by decide +kernel)) ggX5_tryForgetting_X0_dropOldest
theorem dX5_tryForgetting_0 : decode cX5_tryForgetting 0 = .ok (.aload_n 0, 1) := by decide +kernel
theorem dX5_tryForgetting_1 : decode cX5_tryForgetting 1 = .ok (.getfield 25, 3) := by decide +kernel
theorem dX5_tryForgetting_4 : decode cX5_tryForgetting 4 = .ok (.getfield 74, 3) := by decide +kernel
theorem dX5_tryForgetting_7 : decode cX5_tryForgetting 7 = .ok (.getfield 81, 3) := by decide +kernel
theorem dX5_tryForgetting_10 : decode cX5_tryForgetting 10 = .ok (.ifCond .ne 5, 3) := by decide +kernel
theorem dX5_tryForgetting_13 : decode cX5_tryForgetting 13 = .ok (.iconst 0, 1) := by decide +kernel
theorem dX5_tryForgetting_14 : decode cX5_tryForgetting 14 = .ok (.ireturn, 1) := by decide +kernel
theorem dX5_tryForgetting_15 : decode cX5_tryForgetting 15 = .ok (.aload_n 0, 1) := by decide +kernel
theorem dX5_tryForgetting_16 : decode cX5_tryForgetting 16 = .ok (.getfield 25, 3) := by decide +kernel
theorem dX5_tryForgetting_19 : decode cX5_tryForgetting 19 = .ok (.invokevirtual 220, 3) := by decide +kernel
theorem dX5_tryForgetting_22 : decode cX5_tryForgetting 22 = .ok (.pop, 1) := by decide +kernel
theorem dX5_tryForgetting_23 : decode cX5_tryForgetting 23 = .ok (.iconst 1, 1) := by decide +kernel
theorem dX5_tryForgetting_24 : decode cX5_tryForgetting 24 = .ok (.ireturn, 1) := by decide +kernel
set_option maxRecDepth 20000 in
theorem ggX5_trySingers_X0_changeSingers : GoodIn wsX5_trySingers wsX0_changeSingers := goodIn_r _ [6, 7, 8, 9, 10, 11, 12, 5, 13, 14, 15, 16, 17, 18, 19, 20, 21, 22, 23, 24, 25, 26, 27, 28, 29, 30, 31, 32, 33, 34, 35, 36, 37, 38, 39, 40, 41, 42, 43, 44, 45, 46, 47, 48, 49, 50, 51, 52, 59, 60, 61, 62, 63, 64, 65, 66, 67, 68, 69, 70, 71, 72, 73, 74, 75, 76] (by decide +kernel) (by decide +kernel)
set_option maxRecDepth 20000 in
theorem gX5_trySingers_X0_changeSingers : GoodIn wsX5_trySingers (wsV RX5 225 RX0 yX0_changeSingers wsX0_changeSingers) := goodIn_app (goodIn_of _ (by decide +kernel)) ggX5_trySingers_X0_changeSingers
theorem dX5_trySingers_0 : decode cX5_trySingers 0 = .ok (.iload_n 1, 1) := by decide +kernel
theorem dX5_trySingers_1 : decode cX5_trySingers 1 = .ok (.iconst 1, 1) := by decide +kernel
theorem dX5_trySingers_2 : decode cX5_trySingers 2 = .ok (.if_icmp .lt 9, 3) := by decide +kernel
theorem dX5_trySingers_5 : decode cX5_trySingers 5 = .ok (.iload_n 1, 1) := by decide +kernel
theorem dX5_trySingers_6 : decode cX5_trySingers 6 = .ok (.bipush 8, 2) := by decide +kernel
theorem dX5_trySingers_8 : decode cX5_trySingers 8 = .ok (.if_icmp .le 5, 3) := by decide +kernel
theorem dX5_trySingers_11 : decode cX5_trySingers 11 = .ok (.iconst 0, 1) := by decide +kernel
theorem dX5_trySingers_12 : decode cX5_trySingers 12 = .ok (.ireturn, 1) := by decide +kernel
theorem dX5_trySingers_13 : decode cX5_trySingers 13 = .ok (.aload_n 0, 1) := by decide +kernel
theorem dX5_trySingers_14 : decode cX5_trySingers 14 = .ok (.getfield 25, 3) := by decide +kernel
theorem dX5_trySingers_17 : decode cX5_trySingers 17 = .ok (.iload_n 1, 1) := by decide +kernel
theorem dX5_trySingers_18 : decode cX5_trySingers 18 = .ok (.invokevirtual 225, 3) := by decide +kernel
theorem dX5_trySingers_21 : decode cX5_trySingers 21 = .ok (.pop, 1) := by decide +kernel
theorem dX5_trySingers_22 : decode cX5_trySingers 22 = .ok (.iconst 1, 1) := by decide +kernel
theorem dX5_trySingers_23 : decode cX5_trySingers 23 = .ok (.ireturn, 1) := by decide +kernel
set_option maxRecDepth 20000 in
theorem ggX5_tryLetters_X2_takeDigits : GoodIn wsX5_tryLetters wsX2_takeDigits := goodIn_r _ [7, 8, 9, 10, 11, 6, 12, 13, 14, 15, 16, 17, 116, 117] (by decide +kernel) (by decide +kernel)
set_option maxRecDepth 20000 in
theorem gX5_tryLetters_X2_takeDigits : GoodIn wsX5_tryLetters (wsV RX5 273 RX2 yX2_takeDigits wsX2_takeDigits) := goodIn_app (goodIn_of _ (by decide +kernel)) ggX5_tryLetters_X2_takeDigits
set_option maxRecDepth 20000 in
theorem ggX5_tryLetters_X0_addVerse : GoodIn wsX5_tryLetters wsX0_addVerse := goodIn_r _ [22, 23, 24, 25, 26, 27, 28, 29, 30, 31, 32, 33, 34, 35, 36, 37, 38, 39, 40, 41, 42, 43, 44, 45, 46, 47, 48, 49, 50, 51, 52, 53, 6, 54, 17, 55, 56, 57, 58, 59, 60, 61, 62, 63, 64, 65, 66, 67, 68, 69, 70, 71, 72, 73, 74, 75, 76, 77, 78, 79, 80, 21, 81, 82, 83, 84, 85, 86, 87, 88, 89, 90, 91, 92, 93, 94, 95, 96, 97, 98, 99, 100, 101, 102, 103, 104, 105, 106, 107, 108, 109, 118, 119, 120, 121, 122, 123, 124, 125, 126, 127, 128, 129, 116, 117, 130, 131, 132, 133, 134, 135] (by decide +kernel) (by decide +kernel)
set_option maxRecDepth 20000 in
theorem gX5_tryLetters_X0_addVerse : GoodIn wsX5_tryLetters (wsV RX5 210 RX0 yX0_addVerse wsX0_addVerse) := goodIn_app (goodIn_of _ (by decide +kernel)) ggX5_tryLetters_X0_addVerse
theorem dX5_tryLetters_0 : decode cX5_tryLetters 0 = .ok (.aload_n 0, 1) := by decide +kernel
theorem dX5_tryLetters_1 : decode cX5_tryLetters 1 = .ok (.getfield 28, 3) := by decide +kernel
theorem dX5_tryLetters_4 : decode cX5_tryLetters 4 = .ok (.iload_n 1, 1) := by decide +kernel
theorem dX5_tryLetters_5 : decode cX5_tryLetters 5 = .ok (.invokevirtual 273, 3) := by decide +kernel
theorem dX5_tryLetters_8 : decode cX5_tryLetters 8 = .ok (.ifCond .ne 5, 3) := by decide +kernel
theorem dX5_tryLetters_11 : decode cX5_tryLetters 11 = .ok (.iconst 0, 1) := by decide +kernel
theorem dX5_tryLetters_12 : decode cX5_tryLetters 12 = .ok (.ireturn, 1) := by decide +kernel
theorem dX5_tryLetters_13 : decode cX5_tryLetters 13 = .ok (.aload_n 0, 1) := by decide +kernel
theorem dX5_tryLetters_14 : decode cX5_tryLetters 14 = .ok (.getfield 25, 3) := by decide +kernel
theorem dX5_tryLetters_17 : decode cX5_tryLetters 17 = .ok (.aload_n 0, 1) := by decide +kernel
theorem dX5_tryLetters_18 : decode cX5_tryLetters 18 = .ok (.getfield 28, 3) := by decide +kernel
theorem dX5_tryLetters_21 : decode cX5_tryLetters 21 = .ok (.invokevirtual 210, 3) := by decide +kernel
theorem dX5_tryLetters_24 : decode cX5_tryLetters 24 = .ok (.pop, 1) := by decide +kernel
theorem dX5_tryLetters_25 : decode cX5_tryLetters 25 = .ok (.iconst 1, 1) := by decide +kernel
theorem dX5_tryLetters_26 : decode cX5_tryLetters 26 = .ok (.ireturn, 1) := by decide +kernel
set_option maxRecDepth 20000 in
theorem ggX5_isSungOften_X3_mostSung : GoodIn wsX5_isSungOften wsX3_mostSung := goodIn_r _ [7, 8, 9, 10, 11, 12, 13, 14, 15, 6, 16, 17, 18, 19, 20, 21, 22, 23, 24, 25, 36, 37, 38, 39, 40, 41] (by decide +kernel) (by decide +kernel)
set_option maxRecDepth 20000 in
theorem gX5_isSungOften_X3_mostSung : GoodIn wsX5_isSungOften (wsV RX5 193 RX3 yX3_mostSung wsX3_mostSung) := goodIn_app (goodIn_of _ (by decide +kernel)) ggX5_isSungOften_X3_mostSung
theorem dX5_isSungOften_0 : decode cX5_isSungOften 0 = .ok (.iload_n 1, 1) := by decide +kernel
theorem dX5_isSungOften_1 : decode cX5_isSungOften 1 = .ok (.iconst 1, 1) := by decide +kernel
theorem dX5_isSungOften_2 : decode cX5_isSungOften 2 = .ok (.if_icmp .lt 29, 3) := by decide +kernel
theorem dX5_isSungOften_5 : decode cX5_isSungOften 5 = .ok (.iload_n 1, 1) := by decide +kernel
theorem dX5_isSungOften_6 : decode cX5_isSungOften 6 = .ok (.bipush 12, 2) := by decide +kernel
theorem dX5_isSungOften_8 : decode cX5_isSungOften 8 = .ok (.if_icmp .gt 23, 3) := by decide +kernel
theorem dX5_isSungOften_11 : decode cX5_isSungOften 11 = .ok (.aload_n 0, 1) := by decide +kernel
theorem dX5_isSungOften_12 : decode cX5_isSungOften 12 = .ok (.getfield 25, 3) := by decide +kernel
theorem dX5_isSungOften_15 : decode cX5_isSungOften 15 = .ok (.getfield 90, 3) := by decide +kernel
theorem dX5_isSungOften_18 : decode cX5_isSungOften 18 = .ok (.iload_n 1, 1) := by decide +kernel
theorem dX5_isSungOften_19 : decode cX5_isSungOften 19 = .ok (.iconst 1, 1) := by decide +kernel
theorem dX5_isSungOften_20 : decode cX5_isSungOften 20 = .ok (.invokevirtual 193, 3) := by decide +kernel
theorem dX5_isSungOften_23 : decode cX5_isSungOften 23 = .ok (.iload_n 2, 1) := by decide +kernel
theorem dX5_isSungOften_24 : decode cX5_isSungOften 24 = .ok (.if_icmp .lt 7, 3) := by decide +kernel
theorem dX5_isSungOften_27 : decode cX5_isSungOften 27 = .ok (.iconst 1, 1) := by decide +kernel
theorem dX5_isSungOften_28 : decode cX5_isSungOften 28 = .ok (.goto 4, 3) := by decide +kernel
theorem dX5_isSungOften_31 : decode cX5_isSungOften 31 = .ok (.iconst 0, 1) := by decide +kernel
theorem dX5_isSungOften_32 : decode cX5_isSungOften 32 = .ok (.ireturn, 1) := by decide +kernel
set_option maxRecDepth 20000 in
theorem ggX5_simulate_X0_becomeChoir : GoodIn wsX5_simulate wsX0_becomeChoir := goodIn_r _ [17, 18, 19, 20, 21, 22, 23, 24, 25, 26, 27, 28, 29, 30, 31, 32, 33, 34, 35, 36, 9, 10, 11, 12, 37, 38, 39, 40, 41, 42, 43, 44, 45, 46, 47, 48, 49, 50, 167, 168, 169, 170, 171, 172, 173, 174, 175, 176, 177, 178, 179, 180, 181, 182, 183, 184] (by decide +kernel) (by decide +kernel)
set_option maxRecDepth 20000 in
theorem gX5_simulate_X0_becomeChoir : GoodIn wsX5_simulate (wsV RX5 240 RX0 yX0_becomeChoir wsX0_becomeChoir) := goodIn_app (goodIn_of _ (by decide +kernel)) ggX5_simulate_X0_becomeChoir
set_option maxRecDepth 20000 in
theorem ggX5_simulate_X5_takeSimulated : GoodIn wsX5_simulate wsX5_takeSimulated := goodIn_r _ [54, 3, 55, 56, 7, 57, 58, 59, 60, 61, 62, 63, 64, 65, 66, 67, 68, 69, 24, 70, 29, 27, 71, 35, 72, 73, 74, 75, 76, 77, 78, 79, 80, 81, 82, 83, 84, 26, 85, 86, 87, 88, 89, 90, 91, 161, 162, 163, 164, 165, 166, 167, 168, 169, 170, 171, 172, 173, 174, 175, 176, 177, 178, 185, 186] (by decide +kernel) (by decide +kernel)
set_option maxRecDepth 20000 in
theorem gX5_simulate_X5_takeSimulated : GoodIn wsX5_simulate (wsV RX5 282 RX5 yX5_takeSimulated wsX5_takeSimulated) := goodIn_app (goodIn_of _ (by decide +kernel)) ggX5_simulate_X5_takeSimulated
set_option maxRecDepth 20000 in
theorem ggX5_simulate_X0_addVerse : GoodIn wsX5_simulate wsX0_addVerse := goodIn_r _ [95, 18, 96, 97, 98, 19, 99, 100, 101, 24, 102, 29, 28, 103, 104, 105, 106, 27, 26, 31, 71, 35, 72, 107, 108, 109, 110, 111, 33, 112, 113, 114, 60, 115, 89, 116, 117, 118, 44, 119, 120, 121, 10, 11, 12, 122, 123, 124, 46, 47, 49, 50, 125, 48, 126, 127, 128, 129, 130, 131, 132, 16, 133, 20, 134, 135, 34, 36, 9, 37, 38, 39, 40, 136, 137, 138, 139, 140, 141, 142, 143, 144, 30, 145, 146, 147, 148, 149, 150, 151, 152, 167, 168, 169, 170, 171, 172, 173, 174, 175, 176, 177, 178, 185, 186, 179, 180, 181, 182, 183, 184] (by decide +kernel) (by decide +kernel)
set_option maxRecDepth 20000 in
theorem gX5_simulate_X0_addVerse : GoodIn wsX5_simulate (wsV RX5 210 RX0 yX0_addVerse wsX0_addVerse) := goodIn_app (goodIn_of _ (by decide +kernel)) ggX5_simulate_X0_addVerse
set_option maxRecDepth 20000 in
theorem ggX5_simulate_X3_longestRepeat : GoodIn wsX5_simulate wsX3_longestRepeat := goodIn_r _ [156, 46, 122, 123, 11, 124, 157, 158, 159, 44, 160, 50, 71, 35, 72, 179, 180, 181, 182, 183, 184] (by decide +kernel) (by decide +kernel)
set_option maxRecDepth 20000 in
theorem gX5_simulate_X3_longestRepeat : GoodIn wsX5_simulate (wsV RX5 99 RX3 yX3_longestRepeat wsX3_longestRepeat) := goodIn_app (goodIn_of _ (by decide +kernel)) ggX5_simulate_X3_longestRepeat
theorem dX5_simulate_0 : decode cX5_simulate 0 = .ok (.iload_n 3, 1) := by decide +kernel
theorem dX5_simulate_1 : decode cX5_simulate 1 = .ok (.iconst 1, 1) := by decide +kernel
theorem dX5_simulate_2 : decode cX5_simulate 2 = .ok (.if_icmp .lt 9, 3) := by decide +kernel
theorem dX5_simulate_5 : decode cX5_simulate 5 = .ok (.iload_n 3, 1) := by decide +kernel
theorem dX5_simulate_6 : decode cX5_simulate 6 = .ok (.bipush 20, 2) := by decide +kernel
theorem dX5_simulate_8 : decode cX5_simulate 8 = .ok (.if_icmp .le 14, 3) := by decide +kernel
theorem dX5_simulate_11 : decode cX5_simulate 11 = .ok (.new 44, 3) := by decide +kernel
theorem dX5_simulate_14 : decode cX5_simulate 14 = .ok (.dup, 1) := by decide +kernel
theorem dX5_simulate_15 : decode cX5_simulate 15 = .ok (.ldc_w 276, 3) := by decide +kernel
theorem dX5_simulate_18 : decode cX5_simulate 18 = .ok (.invokespecial 48, 3) := by decide +kernel
theorem dX5_simulate_21 : decode cX5_simulate 21 = .ok (.athrow, 1) := by decide +kernel
theorem dX5_simulate_22 : decode cX5_simulate 22 = .ok (.aload_n 0, 1) := by decide +kernel
theorem dX5_simulate_23 : decode cX5_simulate 23 = .ok (.getfield 25, 3) := by decide +kernel
theorem dX5_simulate_26 : decode cX5_simulate 26 = .ok (.aload_n 0, 1) := by decide +kernel
theorem dX5_simulate_27 : decode cX5_simulate 27 = .ok (.getfield 21, 3) := by decide +kernel
theorem dX5_simulate_30 : decode cX5_simulate 30 = .ok (.invokevirtual 240, 3) := by decide +kernel
theorem dX5_simulate_33 : decode cX5_simulate 33 = .ok (.lload_n 1, 1) := by decide +kernel
theorem dX5_simulate_34 : decode cX5_simulate 34 = .ok (.lstore 4, 2) := by decide +kernel
theorem dX5_simulate_36 : decode cX5_simulate 36 = .ok (.iconst 0, 1) := by decide +kernel
theorem dX5_simulate_37 : decode cX5_simulate 37 = .ok (.istore 6, 2) := by decide +kernel
theorem dX5_simulate_39 : decode cX5_simulate 39 = .ok (.iconst 0, 1) := by decide +kernel
theorem dX5_simulate_40 : decode cX5_simulate 40 = .ok (.istore 7, 2) := by decide +kernel
theorem dX5_simulate_42 : decode cX5_simulate 42 = .ok (.iload 7, 2) := by decide +kernel
theorem dX5_simulate_44 : decode cX5_simulate 44 = .ok (.iload_n 3, 1) := by decide +kernel
theorem dX5_simulate_45 : decode cX5_simulate 45 = .ok (.if_icmp .ge 47, 3) := by decide +kernel
theorem dX5_simulate_48 : decode cX5_simulate 48 = .ok (.lload 4, 2) := by decide +kernel
theorem dX5_simulate_50 : decode cX5_simulate 50 = .ok (.ldc2_w 278, 3) := by decide +kernel
theorem dX5_simulate_53 : decode cX5_simulate 53 = .ok (.lmul, 1) := by decide +kernel
theorem dX5_simulate_54 : decode cX5_simulate 54 = .ok (.ldc2_w 280, 3) := by decide +kernel
theorem dX5_simulate_57 : decode cX5_simulate 57 = .ok (.ladd, 1) := by decide +kernel
theorem dX5_simulate_58 : decode cX5_simulate 58 = .ok (.lstore 4, 2) := by decide +kernel
theorem dX5_simulate_60 : decode cX5_simulate 60 = .ok (.aload_n 0, 1) := by decide +kernel
theorem dX5_simulate_61 : decode cX5_simulate 61 = .ok (.lload 4, 2) := by decide +kernel
theorem dX5_simulate_63 : decode cX5_simulate 63 = .ok (.bipush 33, 2) := by decide +kernel
theorem dX5_simulate_65 : decode cX5_simulate 65 = .ok (.lushr, 1) := by decide +kernel
theorem dX5_simulate_66 : decode cX5_simulate 66 = .ok (.l2i, 1) := by decide +kernel
theorem dX5_simulate_67 : decode cX5_simulate 67 = .ok (.invokevirtual 282, 3) := by decide +kernel
theorem dX5_simulate_70 : decode cX5_simulate 70 = .ok (.iload 6, 2) := by decide +kernel
theorem dX5_simulate_72 : decode cX5_simulate 72 = .ok (.aload_n 0, 1) := by decide +kernel
theorem dX5_simulate_73 : decode cX5_simulate 73 = .ok (.getfield 25, 3) := by decide +kernel
theorem dX5_simulate_76 : decode cX5_simulate 76 = .ok (.aload_n 0, 1) := by decide +kernel
theorem dX5_simulate_77 : decode cX5_simulate 77 = .ok (.getfield 28, 3) := by decide +kernel
theorem dX5_simulate_80 : decode cX5_simulate 80 = .ok (.invokevirtual 210, 3) := by decide +kernel
theorem dX5_simulate_83 : decode cX5_simulate 83 = .ok (.iadd, 1) := by decide +kernel
theorem dX5_simulate_84 : decode cX5_simulate 84 = .ok (.istore 6, 2) := by decide +kernel
theorem dX5_simulate_86 : decode cX5_simulate 86 = .ok (.iinc 7 1, 3) := by decide +kernel
theorem dX5_simulate_89 : decode cX5_simulate 89 = .ok (.goto (-47), 3) := by decide +kernel
theorem dX5_simulate_92 : decode cX5_simulate 92 = .ok (.sipush 1000, 3) := by decide +kernel
theorem dX5_simulate_95 : decode cX5_simulate 95 = .ok (.aload_n 0, 1) := by decide +kernel
theorem dX5_simulate_96 : decode cX5_simulate 96 = .ok (.getfield 25, 3) := by decide +kernel
theorem dX5_simulate_99 : decode cX5_simulate 99 = .ok (.getfield 90, 3) := by decide +kernel
theorem dX5_simulate_102 : decode cX5_simulate 102 = .ok (.invokevirtual 99, 3) := by decide +kernel
theorem dX5_simulate_105 : decode cX5_simulate 105 = .ok (.imul, 1) := by decide +kernel
theorem dX5_simulate_106 : decode cX5_simulate 106 = .ok (.iload 6, 2) := by decide +kernel
theorem dX5_simulate_108 : decode cX5_simulate 108 = .ok (.sipush 999, 3) := by decide +kernel
theorem dX5_simulate_111 : decode cX5_simulate 111 = .ok (.invokestatic 285, 3) := by decide +kernel
theorem dX5_simulate_114 : decode cX5_simulate 114 = .ok (.iadd, 1) := by decide +kernel
theorem dX5_simulate_115 : decode cX5_simulate 115 = .ok (.ireturn, 1) := by decide +kernel
set_option maxRecDepth 20000 in
theorem ggX5_takeSimulated_X2_takeVerse : GoodIn wsX5_takeSimulated wsX2_takeVerse := goodIn_r _ [9, 10, 11, 12, 8, 13, 14, 15, 16, 17, 18, 19, 20, 21, 22, 23, 24, 25, 26, 27, 28, 29, 30, 31, 32, 33, 34, 35, 36, 37, 38, 39, 40, 41, 42, 63, 64, 55, 56, 57, 58, 59, 60, 61, 62] (by decide +kernel) (by decide +kernel)
set_option maxRecDepth 20000 in
theorem gX5_takeSimulated_X2_takeVerse : GoodIn wsX5_takeSimulated (wsV RX5 214 RX2 yX2_takeVerse wsX2_takeVerse) := goodIn_app (goodIn_of _ (by decide +kernel)) ggX5_takeSimulated_X2_takeVerse
set_option maxRecDepth 20000 in
theorem ggX5_takeSimulated_X2_empty : GoodIn wsX5_takeSimulated wsX2_empty := goodIn_r _ [13, 14, 63, 64] (by decide +kernel) (by decide +kernel)
set_option maxRecDepth 20000 in
theorem gX5_takeSimulated_X2_empty : GoodIn wsX5_takeSimulated (wsV RX5 67 RX2 yX2_empty wsX2_empty) := goodIn_app (goodIn_of _ (by decide +kernel)) ggX5_takeSimulated_X2_empty
set_option maxRecDepth 20000 in
theorem ggX5_takeSimulated_X2_add : GoodIn wsX5_takeSimulated wsX2_add := goodIn_r _ [41, 14, 42, 63, 64] (by decide +kernel) (by decide +kernel)
set_option maxRecDepth 20000 in
theorem gX5_takeSimulated_X2_add : GoodIn wsX5_takeSimulated (wsV RX5 60 RX2 yX2_add wsX2_add) := goodIn_app (goodIn_of _ (by decide +kernel)) ggX5_takeSimulated_X2_add
theorem dX5_takeSimulated_0 : decode cX5_takeSimulated 0 = .ok (.aload_n 0, 1) := by decide +kernel
theorem dX5_takeSimulated_1 : decode cX5_takeSimulated 1 = .ok (.getfield 25, 3) := by decide +kernel
theorem dX5_takeSimulated_4 : decode cX5_takeSimulated 4 = .ok (.getfield 74, 3) := by decide +kernel
theorem dX5_takeSimulated_7 : decode cX5_takeSimulated 7 = .ok (.getfield 81, 3) := by decide +kernel
theorem dX5_takeSimulated_10 : decode cX5_takeSimulated 10 = .ok (.istore_n 2, 1) := by decide +kernel
theorem dX5_takeSimulated_11 : decode cX5_takeSimulated 11 = .ok (.iload_n 1, 1) := by decide +kernel
theorem dX5_takeSimulated_12 : decode cX5_takeSimulated 12 = .ok (.iconst 4, 1) := by decide +kernel
theorem dX5_takeSimulated_13 : decode cX5_takeSimulated 13 = .ok (.irem, 1) := by decide +kernel
theorem dX5_takeSimulated_14 : decode cX5_takeSimulated 14 = .ok (.ifCond .ne 28, 3) := by decide +kernel
theorem dX5_takeSimulated_17 : decode cX5_takeSimulated 17 = .ok (.iload_n 2, 1) := by decide +kernel
theorem dX5_takeSimulated_18 : decode cX5_takeSimulated 18 = .ok (.ifCond .le 24, 3) := by decide +kernel
theorem dX5_takeSimulated_21 : decode cX5_takeSimulated 21 = .ok (.aload_n 0, 1) := by decide +kernel
theorem dX5_takeSimulated_22 : decode cX5_takeSimulated 22 = .ok (.getfield 28, 3) := by decide +kernel
theorem dX5_takeSimulated_25 : decode cX5_takeSimulated 25 = .ok (.aload_n 0, 1) := by decide +kernel
theorem dX5_takeSimulated_26 : decode cX5_takeSimulated 26 = .ok (.getfield 25, 3) := by decide +kernel
theorem dX5_takeSimulated_29 : decode cX5_takeSimulated 29 = .ok (.getfield 74, 3) := by decide +kernel
theorem dX5_takeSimulated_32 : decode cX5_takeSimulated 32 = .ok (.iload_n 1, 1) := by decide +kernel
theorem dX5_takeSimulated_33 : decode cX5_takeSimulated 33 = .ok (.bipush 8, 2) := by decide +kernel
theorem dX5_takeSimulated_35 : decode cX5_takeSimulated 35 = .ok (.idiv, 1) := by decide +kernel
theorem dX5_takeSimulated_36 : decode cX5_takeSimulated 36 = .ok (.iload_n 2, 1) := by decide +kernel
theorem dX5_takeSimulated_37 : decode cX5_takeSimulated 37 = .ok (.irem, 1) := by decide +kernel
theorem dX5_takeSimulated_38 : decode cX5_takeSimulated 38 = .ok (.invokevirtual 214, 3) := by decide +kernel
theorem dX5_takeSimulated_41 : decode cX5_takeSimulated 41 = .ok (.return_, 1) := by decide +kernel
theorem dX5_takeSimulated_42 : decode cX5_takeSimulated 42 = .ok (.aload_n 0, 1) := by decide +kernel
theorem dX5_takeSimulated_43 : decode cX5_takeSimulated 43 = .ok (.getfield 28, 3) := by decide +kernel
theorem dX5_takeSimulated_46 : decode cX5_takeSimulated 46 = .ok (.invokevirtual 67, 3) := by decide +kernel
theorem dX5_takeSimulated_49 : decode cX5_takeSimulated 49 = .ok (.iconst 1, 1) := by decide +kernel
theorem dX5_takeSimulated_50 : decode cX5_takeSimulated 50 = .ok (.iload_n 1, 1) := by decide +kernel
theorem dX5_takeSimulated_51 : decode cX5_takeSimulated 51 = .ok (.bipush 8, 2) := by decide +kernel
theorem dX5_takeSimulated_53 : decode cX5_takeSimulated 53 = .ok (.idiv, 1) := by decide +kernel
theorem dX5_takeSimulated_54 : decode cX5_takeSimulated 54 = .ok (.iconst 4, 1) := by decide +kernel
theorem dX5_takeSimulated_55 : decode cX5_takeSimulated 55 = .ok (.irem, 1) := by decide +kernel
theorem dX5_takeSimulated_56 : decode cX5_takeSimulated 56 = .ok (.iadd, 1) := by decide +kernel
theorem dX5_takeSimulated_57 : decode cX5_takeSimulated 57 = .ok (.istore_n 3, 1) := by decide +kernel
theorem dX5_takeSimulated_58 : decode cX5_takeSimulated 58 = .ok (.iload_n 1, 1) := by decide +kernel
theorem dX5_takeSimulated_59 : decode cX5_takeSimulated 59 = .ok (.bipush 64, 2) := by decide +kernel
theorem dX5_takeSimulated_61 : decode cX5_takeSimulated 61 = .ok (.idiv, 1) := by decide +kernel
theorem dX5_takeSimulated_62 : decode cX5_takeSimulated 62 = .ok (.istore 4, 2) := by decide +kernel
theorem dX5_takeSimulated_64 : decode cX5_takeSimulated 64 = .ok (.iconst 0, 1) := by decide +kernel
theorem dX5_takeSimulated_65 : decode cX5_takeSimulated 65 = .ok (.istore 5, 2) := by decide +kernel
theorem dX5_takeSimulated_67 : decode cX5_takeSimulated 67 = .ok (.iload 5, 2) := by decide +kernel
theorem dX5_takeSimulated_69 : decode cX5_takeSimulated 69 = .ok (.iload_n 3, 1) := by decide +kernel
theorem dX5_takeSimulated_70 : decode cX5_takeSimulated 70 = .ok (.if_icmp .ge 29, 3) := by decide +kernel
theorem dX5_takeSimulated_73 : decode cX5_takeSimulated 73 = .ok (.aload_n 0, 1) := by decide +kernel
theorem dX5_takeSimulated_74 : decode cX5_takeSimulated 74 = .ok (.getfield 28, 3) := by decide +kernel
theorem dX5_takeSimulated_77 : decode cX5_takeSimulated 77 = .ok (.bipush 97, 2) := by decide +kernel
theorem dX5_takeSimulated_79 : decode cX5_takeSimulated 79 = .ok (.iload 4, 2) := by decide +kernel
theorem dX5_takeSimulated_81 : decode cX5_takeSimulated 81 = .ok (.iconst 3, 1) := by decide +kernel
theorem dX5_takeSimulated_82 : decode cX5_takeSimulated 82 = .ok (.irem, 1) := by decide +kernel
theorem dX5_takeSimulated_83 : decode cX5_takeSimulated 83 = .ok (.iadd, 1) := by decide +kernel
theorem dX5_takeSimulated_84 : decode cX5_takeSimulated 84 = .ok (.invokevirtual 60, 3) := by decide +kernel
theorem dX5_takeSimulated_87 : decode cX5_takeSimulated 87 = .ok (.iload 4, 2) := by decide +kernel
theorem dX5_takeSimulated_89 : decode cX5_takeSimulated 89 = .ok (.iconst 4, 1) := by decide +kernel
theorem dX5_takeSimulated_90 : decode cX5_takeSimulated 90 = .ok (.idiv, 1) := by decide +kernel
theorem dX5_takeSimulated_91 : decode cX5_takeSimulated 91 = .ok (.istore 4, 2) := by decide +kernel
theorem dX5_takeSimulated_93 : decode cX5_takeSimulated 93 = .ok (.iinc 5 1, 3) := by decide +kernel
theorem dX5_takeSimulated_96 : decode cX5_takeSimulated 96 = .ok (.goto (-29), 3) := by decide +kernel
theorem dX5_takeSimulated_99 : decode cX5_takeSimulated 99 = .ok (.return_, 1) := by decide +kernel
set_option maxRecDepth 20000 in
theorem ggX5_save_X4_init : GoodIn wsX5_save wsX4_init := goodIn_r _ [11, 12, 13, 14, 15, 16, 17, 18, 19, 20, 21, 22, 23, 45, 46, 47, 48, 49, 50, 51, 52] (by decide +kernel) (by decide +kernel)
set_option maxRecDepth 20000 in
theorem gX5_save_X4_init_n290 : GoodIn wsX5_save (wsX4_init) := ggX5_save_X4_init
set_option maxRecDepth 20000 in
theorem ggX5_save_X4_copyFrom : GoodIn wsX5_save wsX4_copyFrom := goodIn_r _ [27, 16, 17, 18, 19, 20, 21, 22, 23, 28, 29, 30, 31, 32, 33, 34, 35, 36, 37, 38, 45, 46, 47, 48, 49, 50, 51, 52] (by decide +kernel) (by decide +kernel)
set_option maxRecDepth 20000 in
theorem gX5_save_X4_copyFrom : GoodIn wsX5_save (wsV RX5 291 RX4 yX4_copyFrom wsX4_copyFrom) := goodIn_app (goodIn_of _ (by decide +kernel)) ggX5_save_X4_copyFrom
theorem dX5_save_0 : decode cX5_save 0 = .ok (.iload_n 1, 1) := by decide +kernel
theorem dX5_save_1 : decode cX5_save 1 = .ok (.ifCond .lt 12, 3) := by decide +kernel
theorem dX5_save_4 : decode cX5_save 4 = .ok (.iload_n 1, 1) := by decide +kernel
theorem dX5_save_5 : decode cX5_save 5 = .ok (.aload_n 0, 1) := by decide +kernel
theorem dX5_save_6 : decode cX5_save 6 = .ok (.getfield 40, 3) := by decide +kernel
theorem dX5_save_9 : decode cX5_save 9 = .ok (.arraylength, 1) := by decide +kernel
theorem dX5_save_10 : decode cX5_save 10 = .ok (.if_icmp .lt 14, 3) := by decide +kernel
theorem dX5_save_13 : decode cX5_save 13 = .ok (.new 113, 3) := by decide +kernel
theorem dX5_save_16 : decode cX5_save 16 = .ok (.dup, 1) := by decide +kernel
theorem dX5_save_17 : decode cX5_save 17 = .ok (.ldc_w 288, 3) := by decide +kernel
theorem dX5_save_20 : decode cX5_save 20 = .ok (.invokespecial 117, 3) := by decide +kernel
theorem dX5_save_23 : decode cX5_save 23 = .ok (.athrow, 1) := by decide +kernel
theorem dX5_save_24 : decode cX5_save 24 = .ok (.aload_n 0, 1) := by decide +kernel
theorem dX5_save_25 : decode cX5_save 25 = .ok (.getfield 40, 3) := by decide +kernel
theorem dX5_save_28 : decode cX5_save 28 = .ok (.iload_n 1, 1) := by decide +kernel
theorem dX5_save_29 : decode cX5_save 29 = .ok (.aaload, 1) := by decide +kernel
theorem dX5_save_30 : decode cX5_save 30 = .ok (.ifnonnull 16, 3) := by decide +kernel
theorem dX5_save_33 : decode cX5_save 33 = .ok (.aload_n 0, 1) := by decide +kernel
theorem dX5_save_34 : decode cX5_save 34 = .ok (.getfield 40, 3) := by decide +kernel
theorem dX5_save_37 : decode cX5_save 37 = .ok (.iload_n 1, 1) := by decide +kernel
theorem dX5_save_38 : decode cX5_save 38 = .ok (.new 38, 3) := by decide +kernel
theorem dX5_save_41 : decode cX5_save 41 = .ok (.dup, 1) := by decide +kernel
theorem dX5_save_42 : decode cX5_save 42 = .ok (.invokespecial 290, 3) := by decide +kernel
theorem dX5_save_45 : decode cX5_save 45 = .ok (.aastore, 1) := by decide +kernel
theorem dX5_save_46 : decode cX5_save 46 = .ok (.aload_n 0, 1) := by decide +kernel
theorem dX5_save_47 : decode cX5_save 47 = .ok (.getfield 40, 3) := by decide +kernel
theorem dX5_save_50 : decode cX5_save 50 = .ok (.iload_n 1, 1) := by decide +kernel
theorem dX5_save_51 : decode cX5_save 51 = .ok (.aaload, 1) := by decide +kernel
theorem dX5_save_52 : decode cX5_save 52 = .ok (.aload_n 0, 1) := by decide +kernel
theorem dX5_save_53 : decode cX5_save 53 = .ok (.getfield 21, 3) := by decide +kernel
theorem dX5_save_56 : decode cX5_save 56 = .ok (.getfield 74, 3) := by decide +kernel
theorem dX5_save_59 : decode cX5_save 59 = .ok (.invokevirtual 291, 3) := by decide +kernel
theorem dX5_save_62 : decode cX5_save 62 = .ok (.aload_n 0, 1) := by decide +kernel
theorem dX5_save_63 : decode cX5_save 63 = .ok (.getfield 21, 3) := by decide +kernel
theorem dX5_save_66 : decode cX5_save 66 = .ok (.getfield 74, 3) := by decide +kernel
theorem dX5_save_69 : decode cX5_save 69 = .ok (.getfield 78, 3) := by decide +kernel
theorem dX5_save_72 : decode cX5_save 72 = .ok (.ireturn, 1) := by decide +kernel
set_option maxRecDepth 20000 in
theorem ggX5_restore_X0_becomeSong : GoodIn wsX5_restore wsX0_becomeSong := goodIn_r _ [14, 15, 16, 17, 18, 19, 20, 21, 22, 23, 24, 25, 26, 27, 28, 29, 30, 31, 32, 33, 34, 35, 36, 37, 38, 39, 40, 41, 42, 43, 44, 45, 46, 47, 48, 49, 50, 51, 52, 53, 54, 55, 56, 57, 58, 59, 60, 61, 62, 63, 13, 64, 65, 66, 67, 68, 69, 70, 71, 72, 73, 74, 87, 88, 89, 90, 91, 92, 93, 94, 95, 96, 97, 98, 99, 100, 101, 102, 103, 104] (by decide +kernel) (by decide +kernel)
set_option maxRecDepth 20000 in
theorem gX5_restore_X0_becomeSong : GoodIn wsX5_restore (wsV RX5 234 RX0 yX0_becomeSong wsX0_becomeSong) := goodIn_app (goodIn_of _ (by decide +kernel)) ggX5_restore_X0_becomeSong
set_option maxRecDepth 20000 in
theorem ggX5_restore_X1_empty : GoodIn wsX5_restore wsX1_empty := goodIn_r _ [79, 80, 105, 106, 107] (by decide +kernel) (by decide +kernel)
set_option maxRecDepth 20000 in
theorem gX5_restore_X1_empty : GoodIn wsX5_restore (wsV RX5 296 RX1 yX1_empty wsX1_empty) := goodIn_app (goodIn_of _ (by decide +kernel)) ggX5_restore_X1_empty
theorem dX5_restore_0 : decode cX5_restore 0 = .ok (.iload_n 1, 1) := by decide +kernel
theorem dX5_restore_1 : decode cX5_restore 1 = .ok (.ifCond .lt 12, 3) := by decide +kernel
theorem dX5_restore_4 : decode cX5_restore 4 = .ok (.iload_n 1, 1) := by decide +kernel
theorem dX5_restore_5 : decode cX5_restore 5 = .ok (.aload_n 0, 1) := by decide +kernel
theorem dX5_restore_6 : decode cX5_restore 6 = .ok (.getfield 40, 3) := by decide +kernel
theorem dX5_restore_9 : decode cX5_restore 9 = .ok (.arraylength, 1) := by decide +kernel
theorem dX5_restore_10 : decode cX5_restore 10 = .ok (.if_icmp .lt 14, 3) := by decide +kernel
theorem dX5_restore_13 : decode cX5_restore 13 = .ok (.new 113, 3) := by decide +kernel
theorem dX5_restore_16 : decode cX5_restore 16 = .ok (.dup, 1) := by decide +kernel
theorem dX5_restore_17 : decode cX5_restore 17 = .ok (.ldc_w 288, 3) := by decide +kernel
theorem dX5_restore_20 : decode cX5_restore 20 = .ok (.invokespecial 117, 3) := by decide +kernel
theorem dX5_restore_23 : decode cX5_restore 23 = .ok (.athrow, 1) := by decide +kernel
theorem dX5_restore_24 : decode cX5_restore 24 = .ok (.aload_n 0, 1) := by decide +kernel
theorem dX5_restore_25 : decode cX5_restore 25 = .ok (.getfield 40, 3) := by decide +kernel
theorem dX5_restore_28 : decode cX5_restore 28 = .ok (.iload_n 1, 1) := by decide +kernel
theorem dX5_restore_29 : decode cX5_restore 29 = .ok (.aaload, 1) := by decide +kernel
theorem dX5_restore_30 : decode cX5_restore 30 = .ok (.ifnonnull 14, 3) := by decide +kernel
theorem dX5_restore_33 : decode cX5_restore 33 = .ok (.new 55, 3) := by decide +kernel
theorem dX5_restore_36 : decode cX5_restore 36 = .ok (.dup, 1) := by decide +kernel
theorem dX5_restore_37 : decode cX5_restore 37 = .ok (.ldc_w 294, 3) := by decide +kernel
theorem dX5_restore_40 : decode cX5_restore 40 = .ok (.invokespecial 59, 3) := by decide +kernel
theorem dX5_restore_43 : decode cX5_restore 43 = .ok (.athrow, 1) := by decide +kernel
theorem dX5_restore_44 : decode cX5_restore 44 = .ok (.aload_n 0, 1) := by decide +kernel
theorem dX5_restore_45 : decode cX5_restore 45 = .ok (.getfield 21, 3) := by decide +kernel
theorem dX5_restore_48 : decode cX5_restore 48 = .ok (.aload_n 0, 1) := by decide +kernel
theorem dX5_restore_49 : decode cX5_restore 49 = .ok (.getfield 40, 3) := by decide +kernel
theorem dX5_restore_52 : decode cX5_restore 52 = .ok (.iload_n 1, 1) := by decide +kernel
theorem dX5_restore_53 : decode cX5_restore 53 = .ok (.aaload, 1) := by decide +kernel
theorem dX5_restore_54 : decode cX5_restore 54 = .ok (.invokevirtual 234, 3) := by decide +kernel
theorem dX5_restore_57 : decode cX5_restore 57 = .ok (.aload_n 0, 1) := by decide +kernel
theorem dX5_restore_58 : decode cX5_restore 58 = .ok (.getfield 34, 3) := by decide +kernel
theorem dX5_restore_61 : decode cX5_restore 61 = .ok (.invokevirtual 296, 3) := by decide +kernel
theorem dX5_restore_64 : decode cX5_restore 64 = .ok (.aload_n 0, 1) := by decide +kernel
theorem dX5_restore_65 : decode cX5_restore 65 = .ok (.getfield 21, 3) := by decide +kernel
theorem dX5_restore_68 : decode cX5_restore 68 = .ok (.getfield 74, 3) := by decide +kernel
theorem dX5_restore_71 : decode cX5_restore 71 = .ok (.getfield 78, 3) := by decide +kernel
theorem dX5_restore_74 : decode cX5_restore 74 = .ok (.ireturn, 1) := by decide +kernel
theorem dX5_isLetter_0 : decode cX5_isLetter 0 = .ok (.iload_n 0, 1) := by decide +kernel
theorem dX5_isLetter_1 : decode cX5_isLetter 1 = .ok (.bipush 97, 2) := by decide +kernel
theorem dX5_isLetter_3 : decode cX5_isLetter 3 = .ok (.if_icmp .lt 13, 3) := by decide +kernel
theorem dX5_isLetter_6 : decode cX5_isLetter 6 = .ok (.iload_n 0, 1) := by decide +kernel
theorem dX5_isLetter_7 : decode cX5_isLetter 7 = .ok (.bipush 105, 2) := by decide +kernel
theorem dX5_isLetter_9 : decode cX5_isLetter 9 = .ok (.if_icmp .ge 7, 3) := by decide +kernel
theorem dX5_isLetter_12 : decode cX5_isLetter 12 = .ok (.iconst 1, 1) := by decide +kernel
theorem dX5_isLetter_13 : decode cX5_isLetter 13 = .ok (.goto 4, 3) := by decide +kernel
theorem dX5_isLetter_16 : decode cX5_isLetter 16 = .ok (.iconst 0, 1) := by decide +kernel
theorem dX5_isLetter_17 : decode cX5_isLetter 17 = .ok (.ireturn, 1) := by decide +kernel
theorem dX5_copyRow_0 : decode cX5_copyRow 0 = .ok (.aload_n 0, 1) := by decide +kernel
theorem dX5_copyRow_1 : decode cX5_copyRow 1 = .ok (.iconst 0, 1) := by decide +kernel
theorem dX5_copyRow_2 : decode cX5_copyRow 2 = .ok (.aload_n 1, 1) := by decide +kernel
theorem dX5_copyRow_3 : decode cX5_copyRow 3 = .ok (.iconst 0, 1) := by decide +kernel
theorem dX5_copyRow_4 : decode cX5_copyRow 4 = .ok (.aload_n 0, 1) := by decide +kernel
theorem dX5_copyRow_5 : decode cX5_copyRow 5 = .ok (.arraylength, 1) := by decide +kernel
theorem dX5_copyRow_6 : decode cX5_copyRow 6 = .ok (.aload_n 1, 1) := by decide +kernel
theorem dX5_copyRow_7 : decode cX5_copyRow 7 = .ok (.arraylength, 1) := by decide +kernel
theorem dX5_copyRow_8 : decode cX5_copyRow 8 = .ok (.invokestatic 285, 3) := by decide +kernel
theorem dX5_copyRow_11 : decode cX5_copyRow 11 = .ok (.invokestatic 297, 3) := by decide +kernel
theorem dX5_copyRow_14 : decode cX5_copyRow 14 = .ok (.return_, 1) := by decide +kernel
theorem dX5_cellOf_0 : decode cX5_cellOf 0 = .ok (.iload_n 1, 1) := by decide +kernel
theorem dX5_cellOf_1 : decode cX5_cellOf 1 = .ok (.ifCond .lt 15, 3) := by decide +kernel
theorem dX5_cellOf_4 : decode cX5_cellOf 4 = .ok (.iload_n 1, 1) := by decide +kernel
theorem dX5_cellOf_5 : decode cX5_cellOf 5 = .ok (.aload_n 0, 1) := by decide +kernel
theorem dX5_cellOf_6 : decode cX5_cellOf 6 = .ok (.arraylength, 1) := by decide +kernel
theorem dX5_cellOf_7 : decode cX5_cellOf 7 = .ok (.if_icmp .ge 9, 3) := by decide +kernel
theorem dX5_cellOf_10 : decode cX5_cellOf 10 = .ok (.aload_n 0, 1) := by decide +kernel
theorem dX5_cellOf_11 : decode cX5_cellOf 11 = .ok (.iload_n 1, 1) := by decide +kernel
theorem dX5_cellOf_12 : decode cX5_cellOf 12 = .ok (.iaload, 1) := by decide +kernel
theorem dX5_cellOf_13 : decode cX5_cellOf 13 = .ok (.goto 4, 3) := by decide +kernel
theorem dX5_cellOf_16 : decode cX5_cellOf 16 = .ok (.iconst 0, 1) := by decide +kernel
theorem dX5_cellOf_17 : decode cX5_cellOf 17 = .ok (.ireturn, 1) := by decide +kernel
