/-! THE LAW'S WORDS ARE THE TABLES' OWN, by their places -/
theorem fl_in_pos {big ws : List Cond} (ps : List Nat) (hp : ws = ps.filterMap (fun i => big[i]?)) : ∀ w ∈ ws, w ∈ big := by
  intro w hw
  rw [hp] at hw
  obtain ⟨i, -, hi⟩ := List.mem_filterMap.mp hw
  exact List.mem_of_getElem? hi
theorem fl_in_app {big a b : List Cond} (ha : ∀ w ∈ a, w ∈ big) (hb : ∀ w ∈ b, w ∈ big) : ∀ w ∈ a ++ b, w ∈ big := fun w h => (List.mem_append.mp h).elim (ha w) (hb w)
set_option maxRecDepth 20000 in
theorem wsL_law_r1_in : ∀ w ∈ wsL_law0_r1, w ∈ lw_tbl := fl_in_pos [52, 53, 37, 770, 771, 44, 1069, 1068, 54, 55, 56, 57, 58, 59, 60, 61, 38, 190, 80, 81, 40, 191, 192, 193] (by decide +kernel)
set_option maxRecDepth 20000 in
theorem wsL_law_r2_in : ∀ w ∈ wsL_law0_r2, w ∈ lw_tbl := fl_in_pos [170, 171, 43, 194, 189, 195, 62, 63, 64, 65, 70, 66, 67, 39, 68, 79, 69, 83, 84, 85, 86, 87, 41, 155] (by decide +kernel)
set_option maxRecDepth 20000 in
theorem wsL_law_r3_in : ∀ w ∈ wsL_law0_r3, w ∈ lw_tbl := fl_in_pos [130, 131, 42, 157, 159, 160, 89, 90, 91, 92, 94, 95, 100, 102, 105, 108, 111, 133, 134, 135, 136, 137, 138, 139] (by decide +kernel)
set_option maxRecDepth 20000 in
theorem wsL_law_r4_in : ∀ w ∈ wsL_law0_r4, w ∈ lw_tbl := fl_in_pos [140, 141, 173, 174, 175, 176, 178, 179, 180, 772, 773, 774, 775, 777, 779, 780, 781, 783, 819, 784, 785, 786, 787, 788] (by decide +kernel)
set_option maxRecDepth 20000 in
theorem wsL_law_r5_in : ∀ w ∈ wsL_law0_r5, w ∈ lw_tbl := fl_in_pos [378, 379, 36, 380, 381, 382, 383, 384, 385, 386, 387, 48, 459, 49, 71, 455, 456, 457, 458, 475, 254, 255, 256, 824] (by decide +kernel)
set_option maxRecDepth 20000 in
theorem wsL_law_r6_in : ∀ w ∈ wsL_law0_r6, w ∈ lw_tbl := fl_in_pos [825, 826, 827, 828, 778, 829, 830, 831, 832, 834, 13, 835, 776, 820, 821, 822, 823, 209, 210, 211, 212, 213, 214, 215] (by decide +kernel)
set_option maxRecDepth 20000 in
theorem wsL_law_r7_in : ∀ w ∈ wsL_law0_r7, w ∈ lw_tbl := fl_in_pos [216, 836, 837, 838, 839, 217, 218, 219, 220, 221, 222, 223, 224, 225, 226, 227, 228, 230, 231, 233, 234, 840, 841, 842] (by decide +kernel)
set_option maxRecDepth 20000 in
theorem wsL_law_r8_in : ∀ w ∈ wsL_law0_r8, w ∈ lw_tbl := fl_in_pos [843, 844, 846, 14, 847, 848, 849, 476, 477, 478, 479, 480, 481, 482, 156, 97, 101, 103, 106, 158, 109, 112, 370, 371] (by decide +kernel)
set_option maxRecDepth 20000 in
theorem wsL_law_r9_in : ∀ w ∈ wsL_law0_r9, w ∈ lw_tbl := fl_in_pos [372, 373, 374, 375, 376, 377, 329, 330, 331, 332, 303, 333, 334, 335, 336, 483, 484, 485, 486, 487, 850, 851, 852, 853] (by decide +kernel)
set_option maxRecDepth 20000 in
theorem wsL_law_r10_in : ∀ w ∈ wsL_law0_r10, w ∈ lw_tbl := fl_in_pos [854, 855, 857, 15, 858, 859, 861, 16, 862, 863, 864, 865, 866, 867, 868, 869, 871, 17, 872, 873, 875, 18, 876, 877] (by decide +kernel)
set_option maxRecDepth 20000 in
theorem wsL_law_r11_in : ∀ w ∈ wsL_law0_r11, w ∈ lw_tbl := fl_in_pos [878, 879, 489, 490, 491, 492, 493, 494, 495, 496, 497, 50, 513, 367, 368, 369, 514, 515, 516, 517, 518, 519, 520, 521] (by decide +kernel)
set_option maxRecDepth 20000 in
theorem wsL_law_r12_in : ∀ w ∈ wsL_law0_r12, w ∈ lw_tbl := fl_in_pos [522, 326, 327, 328, 523, 880, 881, 882, 883, 884, 885, 887, 19, 888, 889, 890, 891, 892, 893, 894, 895, 896, 897, 525] (by decide +kernel)
set_option maxRecDepth 20000 in
theorem wsL_law_r13_in : ∀ w ∈ wsL_law0_r13, w ∈ lw_tbl := fl_in_pos [526, 527, 528, 529, 530, 531, 533, 321, 322, 323, 898, 899, 900, 901, 534, 535, 536, 537, 538, 539, 540, 541, 363, 364] (by decide +kernel)
set_option maxRecDepth 20000 in
theorem wsL_law_r14_in : ∀ w ∈ wsL_law0_r14, w ∈ lw_tbl := fl_in_pos [365, 543, 355, 356, 357, 544, 359, 360, 361, 362, 545, 546, 547, 548, 552, 269, 270, 553, 549, 550, 551, 902, 903, 904] (by decide +kernel)
set_option maxRecDepth 20000 in
theorem wsL_law_r15_in : ∀ w ∈ wsL_law0_r15, w ∈ lw_tbl := fl_in_pos [905, 910, 906, 908, 20, 909, 911, 913, 21, 914, 555, 556, 557, 558, 559, 560, 561, 563, 317, 318, 319, 564, 565, 566] (by decide +kernel)
set_option maxRecDepth 20000 in
theorem wsL_law_r16_in : ∀ w ∈ wsL_law0_r16, w ∈ lw_tbl := fl_in_pos [567, 302, 568, 915, 916, 917, 918, 570, 571, 572, 573, 574, 575, 576, 577, 244, 245, 246, 247, 579, 581, 4, 582, 583] (by decide +kernel)
set_option maxRecDepth 20000 in
theorem wsL_law_r17_in : ∀ w ∈ wsL_law0_r17, w ∈ lw_tbl := fl_in_pos [584, 585, 586, 99, 366, 919, 920, 921, 922, 923, 925, 22, 926, 587, 588, 589, 590, 591, 592, 593, 927, 928, 929, 930] (by decide +kernel)
set_option maxRecDepth 20000 in
theorem wsL_law_r18_in : ∀ w ∈ wsL_law0_r18, w ∈ lw_tbl := fl_in_pos [595, 596, 597, 598, 599, 600, 601, 602, 931, 932, 933, 934, 603, 604, 605, 606, 607, 608, 609, 610, 611, 612, 613, 615] (by decide +kernel)
set_option maxRecDepth 20000 in
theorem wsL_law_r19_in : ∀ w ∈ wsL_law0_r19, w ∈ lw_tbl := fl_in_pos [622, 614, 616, 617, 619, 5, 620, 621, 935, 936, 937, 938, 623, 624, 625, 626, 627, 628, 629, 631, 632, 633, 634, 939] (by decide +kernel)
set_option maxRecDepth 20000 in
theorem wsL_law_r20_in : ∀ w ∈ wsL_law0_r20, w ∈ lw_tbl := fl_in_pos [940, 941, 942, 943, 944, 945, 946, 947, 948, 949, 635, 636, 637, 638, 639, 640, 641, 239, 240, 241, 242, 243, 643, 644] (by decide +kernel)
set_option maxRecDepth 20000 in
theorem wsL_law_r21_in : ∀ w ∈ wsL_law0_r21, w ∈ lw_tbl := fl_in_pos [645, 646, 648, 262, 263, 264, 266, 267, 268, 271, 273, 272, 51, 248, 249, 250, 251, 252, 253, 280, 281, 282, 283, 98] (by decide +kernel)
set_option maxRecDepth 20000 in
theorem wsL_law_r22_in : ∀ w ∈ wsL_law0_r22, w ∈ lw_tbl := fl_in_pos [107, 72, 284, 285, 286, 287, 288, 289, 290, 291, 293, 294, 295, 296, 73, 297, 298, 299, 300, 301, 96, 304, 306, 0] (by decide +kernel)
set_option maxRecDepth 20000 in
theorem wsL_law_r23_in : ∀ w ∈ wsL_law0_r23, w ∈ lw_tbl := fl_in_pos [307, 308, 310, 1, 311, 110, 312, 314, 2, 315, 104, 316, 320, 325, 950, 951, 952, 953, 954, 956, 23, 957, 958, 960] (by decide +kernel)
set_option maxRecDepth 20000 in
theorem wsL_law_r24_in : ∀ w ∈ wsL_law0_r24, w ∈ lw_tbl := fl_in_pos [24, 961, 782, 962, 963, 964, 965, 967, 25, 968, 789, 969, 971, 26, 972, 973, 975, 27, 976, 977, 978, 979, 980, 982] (by decide +kernel)
set_option maxRecDepth 20000 in
theorem wsL_law_r25_in : ∀ w ∈ wsL_law0_r25, w ∈ lw_tbl := fl_in_pos [28, 983, 649, 650, 651, 652, 653, 654, 655, 350, 351, 352, 353, 354, 358, 984, 985, 986, 987, 988, 990, 29, 991, 656] (by decide +kernel)
set_option maxRecDepth 20000 in
theorem wsL_law_r26_in : ∀ w ∈ wsL_law0_r26, w ∈ lw_tbl := fl_in_pos [657, 658, 659, 660, 661, 662, 664, 665, 666, 667, 668, 992, 993, 994, 995, 996, 998, 30, 999, 669, 670, 671, 672, 673] (by decide +kernel)
set_option maxRecDepth 20000 in
theorem wsL_law_r27_in : ∀ w ∈ wsL_law0_r27, w ∈ lw_tbl := fl_in_pos [674, 675, 342, 343, 344, 345, 1000, 1001, 1002, 1003, 1004, 1005, 1006, 1007, 1009, 31, 1010, 677, 678, 679, 680, 681, 682, 683] (by decide +kernel)
set_option maxRecDepth 20000 in
theorem wsL_law_r28_in : ∀ w ∈ wsL_law0_r28, w ∈ lw_tbl := fl_in_pos [181, 684, 685, 686, 687, 689, 690, 691, 692, 261, 1011, 1012, 1013, 1014, 235, 236, 237, 238, 257, 258, 259, 260, 274, 275] (by decide +kernel)
set_option maxRecDepth 20000 in
theorem wsL_law_r29_in : ∀ w ∈ wsL_law0_r29, w ∈ lw_tbl := fl_in_pos [276, 277, 1015, 1016, 1017, 1018, 1019, 1021, 32, 1022, 338, 339, 340, 341, 1023, 1024, 1025, 1026, 346, 347, 348, 349, 1027, 1028] (by decide +kernel)
set_option maxRecDepth 20000 in
theorem wsL_law_r30_in : ∀ w ∈ wsL_law0_r30, w ∈ lw_tbl := fl_in_pos [1029, 1030, 693, 694, 695, 696, 697, 698, 699, 704, 701, 702, 703, 706, 708, 6, 709, 710, 712, 7, 713, 714, 716, 8] (by decide +kernel)
set_option maxRecDepth 20000 in
theorem wsL_law_r31_in : ∀ w ∈ wsL_law0_r31, w ∈ lw_tbl := fl_in_pos [717, 718, 720, 9, 721, 722, 724, 10, 725, 726, 727, 728, 729, 730, 732, 11, 733, 1031, 1032, 1033, 1034, 1035, 1040, 1036] (by decide +kernel)
set_option maxRecDepth 20000 in
theorem wsL_law_r32_in : ∀ w ∈ wsL_law0_r32, w ∈ lw_tbl := fl_in_pos [1037, 1038, 1039, 1041, 1043, 33, 1044, 1045, 1047, 34, 1048, 734, 735, 736, 737, 738, 739, 740, 742, 743, 744, 746, 12, 747] (by decide +kernel)
set_option maxRecDepth 20000 in
theorem wsL_law_r33_in : ∀ w ∈ wsL_law0_r33, w ∈ lw_tbl := fl_in_pos [1049, 1050, 1051, 1052, 1053, 1054, 1055, 1056, 1058, 35, 1059, 748, 749, 750, 751, 752, 753, 754, 757, 1060, 1061, 1062, 1063, 758] (by decide +kernel)
set_option maxRecDepth 20000 in
theorem wsL_law_r34_in : ∀ w ∈ wsL_law0_r34, w ∈ lw_tbl := fl_in_pos [759, 760, 761, 762, 763, 764, 766, 767, 768, 769, 1064, 1065, 1066, 1067] (by decide +kernel)
theorem fl_lays_X5 : ∀ w ∈ wsX50, w ∈ lw_tbl := fl_in_pos [196, 198, 200, 202, 204, 206] (by decide +kernel)
theorem fl_lays_X6 : ∀ w ∈ wsX60, w ∈ lw_tbl := fl_in_pos [790, 792, 794, 796, 798, 800, 802, 804, 806, 808, 810, 812, 814, 816] (by decide +kernel)
theorem fl_lays_X2 : ∀ w ∈ wsX20, w ∈ lw_tbl := fl_in_pos [74, 76] (by decide +kernel)
theorem fl_lays_X0 : ∀ w ∈ wsX00, w ∈ lw_tbl := fl_in_pos [161, 163, 165, 167] (by decide +kernel)
theorem fl_lays_X1 : ∀ w ∈ wsX10, w ∈ lw_tbl := fl_in_pos [182, 184, 186] (by decide +kernel)
theorem fl_lays_X4 : ∀ w ∈ wsX40, w ∈ lw_tbl := fl_in_pos [113, 115, 117, 119, 121, 123, 125, 127] (by decide +kernel)
theorem fl_lays_X3 : ∀ w ∈ wsX30, w ∈ lw_tbl := fl_in_pos [142, 144, 146, 148, 150, 152] (by decide +kernel)
theorem wsL_law_in0 : ∀ w ∈ wsL_law0, w ∈ lw_tbl := (fl_in_app (fl_in_app (fl_in_app (fl_in_app (fl_in_app (fl_in_app (fl_in_app (fl_in_app (fl_in_app wsL_law_r1_in (fl_in_app wsL_law_r2_in (fl_in_app wsL_law_r3_in (fl_in_app wsL_law_r4_in (fl_in_app wsL_law_r5_in (fl_in_app wsL_law_r6_in (fl_in_app wsL_law_r7_in (fl_in_app wsL_law_r8_in (fl_in_app wsL_law_r9_in (fl_in_app wsL_law_r10_in (fl_in_app wsL_law_r11_in (fl_in_app wsL_law_r12_in (fl_in_app wsL_law_r13_in (fl_in_app wsL_law_r14_in (fl_in_app wsL_law_r15_in (fl_in_app wsL_law_r16_in (fl_in_app wsL_law_r17_in (fl_in_app wsL_law_r18_in (fl_in_app wsL_law_r19_in (fl_in_app wsL_law_r20_in (fl_in_app wsL_law_r21_in (fl_in_app wsL_law_r22_in (fl_in_app wsL_law_r23_in (fl_in_app wsL_law_r24_in (fl_in_app wsL_law_r25_in (fl_in_app wsL_law_r26_in (fl_in_app wsL_law_r27_in (fl_in_app wsL_law_r28_in (fl_in_app wsL_law_r29_in (fl_in_app wsL_law_r30_in (fl_in_app wsL_law_r31_in (fl_in_app wsL_law_r32_in (fl_in_app wsL_law_r33_in wsL_law_r34_in))))))))))))))))))))))))))))))))) fl_lays_X5) fl_lays_X6) fl_lays_X2) fl_lays_X0) fl_lays_X1) fl_lays_X4) fl_lays_X3) (fun w h => absurd h List.not_mem_nil))
theorem wsL_law_x0 : ∀ w ∈ (vx_atS RX5 48 "java/lang/IllegalArgumentException" ["java/lang/RuntimeException", "java/lang/Exception"]).filter goodWord, w ∈ lw_tbl := by decide +kernel
theorem wsL_law_x1 : ∀ w ∈ (vx_atS RX5 59 "java/lang/IllegalStateException" ["java/lang/RuntimeException", "java/lang/Exception"]).filter goodWord, w ∈ lw_tbl := by decide +kernel
theorem wsL_law_x2 : ∀ w ∈ (vx_atS RX5 117 "java/lang/IndexOutOfBoundsException" ["java/lang/RuntimeException", "java/lang/Exception"]).filter goodWord, w ∈ lw_tbl := by decide +kernel
theorem wsL_law_in : ∀ w ∈ wsL_law, w ∈ lw_tbl := fun w h => (List.mem_append.mp h).elim (fun h => (List.mem_append.mp h).elim (fun h => (List.mem_append.mp h).elim (fun h => wsL_law_in0 w h) (fun h => wsL_law_x0 w h)) (fun h => wsL_law_x1 w h)) (fun h => wsL_law_x2 w h)
theorem inlX0 : ∀ w ∈ wsX00, w ∈ wsL_law := fun _ h => List.mem_append_left _ (List.mem_append_left _ (List.mem_append_left _ (List.mem_append_left _ (List.mem_append_left _ (List.mem_append_left _ (List.mem_append_left _ (List.mem_append_right _ h)))))))
theorem inX0 : ∀ w ∈ wsX00, w ∈ lw_tbl := fun w h => wsL_law_in w (inlX0 w h)
theorem inlX1 : ∀ w ∈ wsX10, w ∈ wsL_law := fun _ h => List.mem_append_left _ (List.mem_append_left _ (List.mem_append_left _ (List.mem_append_left _ (List.mem_append_left _ (List.mem_append_left _ (List.mem_append_right _ h))))))
theorem inX1 : ∀ w ∈ wsX10, w ∈ lw_tbl := fun w h => wsL_law_in w (inlX1 w h)
theorem inlX2 : ∀ w ∈ wsX20, w ∈ wsL_law := fun _ h => List.mem_append_left _ (List.mem_append_left _ (List.mem_append_left _ (List.mem_append_left _ (List.mem_append_left _ (List.mem_append_left _ (List.mem_append_left _ (List.mem_append_left _ (List.mem_append_right _ h))))))))
theorem inX2 : ∀ w ∈ wsX20, w ∈ lw_tbl := fun w h => wsL_law_in w (inlX2 w h)
theorem inlX3 : ∀ w ∈ wsX30, w ∈ wsL_law := fun _ h => List.mem_append_left _ (List.mem_append_left _ (List.mem_append_left _ (List.mem_append_left _ (List.mem_append_right _ h))))
theorem inX3 : ∀ w ∈ wsX30, w ∈ lw_tbl := fun w h => wsL_law_in w (inlX3 w h)
theorem inlX4 : ∀ w ∈ wsX40, w ∈ wsL_law := fun _ h => List.mem_append_left _ (List.mem_append_left _ (List.mem_append_left _ (List.mem_append_left _ (List.mem_append_left _ (List.mem_append_right _ h)))))
theorem inX4 : ∀ w ∈ wsX40, w ∈ lw_tbl := fun w h => wsL_law_in w (inlX4 w h)
theorem inlX5 : ∀ w ∈ wsX50, w ∈ wsL_law := fun _ h => List.mem_append_left _ (List.mem_append_left _ (List.mem_append_left _ (List.mem_append_left _ (List.mem_append_left _ (List.mem_append_left _ (List.mem_append_left _ (List.mem_append_left _ (List.mem_append_left _ (List.mem_append_left _ (List.mem_append_right _ h))))))))))
theorem inX5 : ∀ w ∈ wsX50, w ∈ lw_tbl := fun w h => wsL_law_in w (inlX5 w h)
theorem inlX6 : ∀ w ∈ wsX60, w ∈ wsL_law := fun _ h => List.mem_append_left _ (List.mem_append_left _ (List.mem_append_left _ (List.mem_append_left _ (List.mem_append_left _ (List.mem_append_left _ (List.mem_append_left _ (List.mem_append_left _ (List.mem_append_left _ (List.mem_append_right _ h)))))))))
theorem inX6 : ∀ w ∈ wsX60, w ∈ lw_tbl := fun w h => wsL_law_in w (inlX6 w h)
theorem inJ9 : ∀ w ∈ wsJ90, w ∈ lw_tbl := by decide +kernel
theorem inJ0 : ∀ w ∈ wsJ00, w ∈ lw_tbl := by decide +kernel
theorem inJ10 : ∀ w ∈ wsJ100, w ∈ lw_tbl := by decide +kernel
