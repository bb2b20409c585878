theorem dX6_count_113 : decode cX6_count 113 = .ok (.if_icmp .ge 21, 3) := by decide +kernel
theorem dX6_count_116 : decode cX6_count 116 = .ok (.iload_n 2, 1) := by decide +kernel
theorem dX6_count_117 : decode cX6_count 117 = .ok (.aload_n 0, 1) := by decide +kernel
theorem dX6_count_118 : decode cX6_count 118 = .ok (.getfield 13, 3) := by decide +kernel
theorem dX6_count_121 : decode cX6_count 121 = .ok (.iload_n 3, 1) := by decide +kernel
theorem dX6_count_122 : decode cX6_count 122 = .ok (.iaload, 1) := by decide +kernel
theorem dX6_count_123 : decode cX6_count 123 = .ok (.invokestatic 176, 3) := by decide +kernel
theorem dX6_count_126 : decode cX6_count 126 = .ok (.iadd, 1) := by decide +kernel
theorem dX6_count_127 : decode cX6_count 127 = .ok (.istore_n 2, 1) := by decide +kernel
theorem dX6_count_128 : decode cX6_count 128 = .ok (.iinc 3 1, 3) := by decide +kernel
theorem dX6_count_131 : decode cX6_count 131 = .ok (.goto (-23), 3) := by decide +kernel
theorem dX6_count_134 : decode cX6_count 134 = .ok (.iload_n 2, 1) := by decide +kernel
theorem dX6_count_135 : decode cX6_count 135 = .ok (.ireturn, 1) := by decide +kernel
theorem dX6_count_136 : decode cX6_count 136 = .ok (.aload_n 0, 1) := by decide +kernel
theorem dX6_count_137 : decode cX6_count 137 = .ok (.getfield 125, 3) := by decide +kernel
theorem dX6_count_140 : decode cX6_count 140 = .ok (.ireturn, 1) := by decide +kernel
theorem dX6_count_141 : decode cX6_count 141 = .ok (.aload_n 0, 1) := by decide +kernel
theorem dX6_count_142 : decode cX6_count 142 = .ok (.getfield 221, 3) := by decide +kernel
theorem dX6_count_145 : decode cX6_count 145 = .ok (.ireturn, 1) := by decide +kernel
theorem dX6_count_146 : decode cX6_count 146 = .ok (.bipush (-9), 2) := by decide +kernel
theorem dX6_count_148 : decode cX6_count 148 = .ok (.ireturn, 1) := by decide +kernel
theorem dJ6_bitCount_0f7a4_0 : decode cJ6_bitCount_0f7a4 0 = .ok (.iload_n 0, 1) := by decide +kernel
theorem dJ6_bitCount_0f7a4_1 : decode cJ6_bitCount_0f7a4 1 = .ok (.iload_n 0, 1) := by decide +kernel
theorem dJ6_bitCount_0f7a4_2 : decode cJ6_bitCount_0f7a4 2 = .ok (.iconst 1, 1) := by decide +kernel
theorem dJ6_bitCount_0f7a4_3 : decode cJ6_bitCount_0f7a4 3 = .ok (.iushr, 1) := by decide +kernel
theorem dJ6_bitCount_0f7a4_4 : decode cJ6_bitCount_0f7a4 4 = .ok (.ldc_w 265, 3) := by decide +kernel
theorem dJ6_bitCount_0f7a4_7 : decode cJ6_bitCount_0f7a4 7 = .ok (.iand, 1) := by decide +kernel
theorem dJ6_bitCount_0f7a4_8 : decode cJ6_bitCount_0f7a4 8 = .ok (.isub, 1) := by decide +kernel
theorem dJ6_bitCount_0f7a4_9 : decode cJ6_bitCount_0f7a4 9 = .ok (.istore_n 0, 1) := by decide +kernel
theorem dJ6_bitCount_0f7a4_10 : decode cJ6_bitCount_0f7a4 10 = .ok (.iload_n 0, 1) := by decide +kernel
theorem dJ6_bitCount_0f7a4_11 : decode cJ6_bitCount_0f7a4 11 = .ok (.ldc_w 266, 3) := by decide +kernel
theorem dJ6_bitCount_0f7a4_14 : decode cJ6_bitCount_0f7a4 14 = .ok (.iand, 1) := by decide +kernel
theorem dJ6_bitCount_0f7a4_15 : decode cJ6_bitCount_0f7a4 15 = .ok (.iload_n 0, 1) := by decide +kernel
theorem dJ6_bitCount_0f7a4_16 : decode cJ6_bitCount_0f7a4 16 = .ok (.iconst 2, 1) := by decide +kernel
theorem dJ6_bitCount_0f7a4_17 : decode cJ6_bitCount_0f7a4 17 = .ok (.iushr, 1) := by decide +kernel
theorem dJ6_bitCount_0f7a4_18 : decode cJ6_bitCount_0f7a4 18 = .ok (.ldc_w 266, 3) := by decide +kernel
theorem dJ6_bitCount_0f7a4_21 : decode cJ6_bitCount_0f7a4 21 = .ok (.iand, 1) := by decide +kernel
theorem dJ6_bitCount_0f7a4_22 : decode cJ6_bitCount_0f7a4 22 = .ok (.iadd, 1) := by decide +kernel
theorem dJ6_bitCount_0f7a4_23 : decode cJ6_bitCount_0f7a4 23 = .ok (.istore_n 0, 1) := by decide +kernel
theorem dJ6_bitCount_0f7a4_24 : decode cJ6_bitCount_0f7a4 24 = .ok (.iload_n 0, 1) := by decide +kernel
theorem dJ6_bitCount_0f7a4_25 : decode cJ6_bitCount_0f7a4 25 = .ok (.iload_n 0, 1) := by decide +kernel
theorem dJ6_bitCount_0f7a4_26 : decode cJ6_bitCount_0f7a4 26 = .ok (.iconst 4, 1) := by decide +kernel
theorem dJ6_bitCount_0f7a4_27 : decode cJ6_bitCount_0f7a4 27 = .ok (.iushr, 1) := by decide +kernel
theorem dJ6_bitCount_0f7a4_28 : decode cJ6_bitCount_0f7a4 28 = .ok (.iadd, 1) := by decide +kernel
theorem dJ6_bitCount_0f7a4_29 : decode cJ6_bitCount_0f7a4 29 = .ok (.ldc_w 267, 3) := by decide +kernel
theorem dJ6_bitCount_0f7a4_32 : decode cJ6_bitCount_0f7a4 32 = .ok (.iand, 1) := by decide +kernel
theorem dJ6_bitCount_0f7a4_33 : decode cJ6_bitCount_0f7a4 33 = .ok (.istore_n 0, 1) := by decide +kernel
theorem dJ6_bitCount_0f7a4_34 : decode cJ6_bitCount_0f7a4 34 = .ok (.iload_n 0, 1) := by decide +kernel
theorem dJ6_bitCount_0f7a4_35 : decode cJ6_bitCount_0f7a4 35 = .ok (.iload_n 0, 1) := by decide +kernel
theorem dJ6_bitCount_0f7a4_36 : decode cJ6_bitCount_0f7a4 36 = .ok (.bipush 8, 2) := by decide +kernel
theorem dJ6_bitCount_0f7a4_38 : decode cJ6_bitCount_0f7a4 38 = .ok (.iushr, 1) := by decide +kernel
theorem dJ6_bitCount_0f7a4_39 : decode cJ6_bitCount_0f7a4 39 = .ok (.iadd, 1) := by decide +kernel
theorem dJ6_bitCount_0f7a4_40 : decode cJ6_bitCount_0f7a4 40 = .ok (.istore_n 0, 1) := by decide +kernel
theorem dJ6_bitCount_0f7a4_41 : decode cJ6_bitCount_0f7a4 41 = .ok (.iload_n 0, 1) := by decide +kernel
theorem dJ6_bitCount_0f7a4_42 : decode cJ6_bitCount_0f7a4 42 = .ok (.iload_n 0, 1) := by decide +kernel
theorem dJ6_bitCount_0f7a4_43 : decode cJ6_bitCount_0f7a4 43 = .ok (.bipush 16, 2) := by decide +kernel
theorem dJ6_bitCount_0f7a4_45 : decode cJ6_bitCount_0f7a4 45 = .ok (.iushr, 1) := by decide +kernel
theorem dJ6_bitCount_0f7a4_46 : decode cJ6_bitCount_0f7a4 46 = .ok (.iadd, 1) := by decide +kernel
theorem dJ6_bitCount_0f7a4_47 : decode cJ6_bitCount_0f7a4 47 = .ok (.istore_n 0, 1) := by decide +kernel
theorem dJ6_bitCount_0f7a4_48 : decode cJ6_bitCount_0f7a4 48 = .ok (.iload_n 0, 1) := by decide +kernel
theorem dJ6_bitCount_0f7a4_49 : decode cJ6_bitCount_0f7a4 49 = .ok (.bipush 63, 2) := by decide +kernel
theorem dJ6_bitCount_0f7a4_51 : decode cJ6_bitCount_0f7a4 51 = .ok (.iand, 1) := by decide +kernel
theorem dJ6_bitCount_0f7a4_52 : decode cJ6_bitCount_0f7a4 52 = .ok (.ireturn, 1) := by decide +kernel
theorem dJ9_floorMod_7cf53_0 : decode cJ9_floorMod_7cf53 0 = .ok (.iload_n 0, 1) := by decide +kernel
theorem dJ9_floorMod_7cf53_1 : decode cJ9_floorMod_7cf53 1 = .ok (.iload_n 1, 1) := by decide +kernel
theorem dJ9_floorMod_7cf53_2 : decode cJ9_floorMod_7cf53 2 = .ok (.irem, 1) := by decide +kernel
theorem dJ9_floorMod_7cf53_3 : decode cJ9_floorMod_7cf53 3 = .ok (.istore_n 2, 1) := by decide +kernel
theorem dJ9_floorMod_7cf53_4 : decode cJ9_floorMod_7cf53 4 = .ok (.iload_n 0, 1) := by decide +kernel
theorem dJ9_floorMod_7cf53_5 : decode cJ9_floorMod_7cf53 5 = .ok (.iload_n 1, 1) := by decide +kernel
theorem dJ9_floorMod_7cf53_6 : decode cJ9_floorMod_7cf53 6 = .ok (.ixor, 1) := by decide +kernel
theorem dJ9_floorMod_7cf53_7 : decode cJ9_floorMod_7cf53 7 = .ok (.ifCond .ge 11, 3) := by decide +kernel
theorem dJ9_floorMod_7cf53_10 : decode cJ9_floorMod_7cf53 10 = .ok (.iload_n 2, 1) := by decide +kernel
theorem dJ9_floorMod_7cf53_11 : decode cJ9_floorMod_7cf53 11 = .ok (.ifCond .eq 7, 3) := by decide +kernel
theorem dJ9_floorMod_7cf53_14 : decode cJ9_floorMod_7cf53 14 = .ok (.iload_n 2, 1) := by decide +kernel
theorem dJ9_floorMod_7cf53_15 : decode cJ9_floorMod_7cf53 15 = .ok (.iload_n 1, 1) := by decide +kernel
theorem dJ9_floorMod_7cf53_16 : decode cJ9_floorMod_7cf53 16 = .ok (.iadd, 1) := by decide +kernel
theorem dJ9_floorMod_7cf53_17 : decode cJ9_floorMod_7cf53 17 = .ok (.ireturn, 1) := by decide +kernel
theorem dJ9_floorMod_7cf53_18 : decode cJ9_floorMod_7cf53 18 = .ok (.iload_n 2, 1) := by decide +kernel
theorem dJ9_floorMod_7cf53_19 : decode cJ9_floorMod_7cf53 19 = .ok (.ireturn, 1) := by decide +kernel
theorem dJ9_min_7cf53_0 : decode cJ9_min_7cf53 0 = .ok (.iload_n 0, 1) := by decide +kernel
theorem dJ9_min_7cf53_1 : decode cJ9_min_7cf53 1 = .ok (.iload_n 1, 1) := by decide +kernel
theorem dJ9_min_7cf53_2 : decode cJ9_min_7cf53 2 = .ok (.if_icmp .gt 7, 3) := by decide +kernel
theorem dJ9_min_7cf53_5 : decode cJ9_min_7cf53 5 = .ok (.iload_n 0, 1) := by decide +kernel
theorem dJ9_min_7cf53_6 : decode cJ9_min_7cf53 6 = .ok (.goto 4, 3) := by decide +kernel
theorem dJ9_min_7cf53_9 : decode cJ9_min_7cf53 9 = .ok (.iload_n 1, 1) := by decide +kernel
theorem dJ9_min_7cf53_10 : decode cJ9_min_7cf53 10 = .ok (.ireturn, 1) := by decide +kernel
set_option maxRecDepth 20000 in
theorem ggL_law_X5_init : GoodIn wsL_law wsX5_init := goodIn_r _ [9, 10, 11, 12, 13, 14, 15, 16, 17, 18, 19, 20, 21, 22, 23, 24, 25, 26, 27, 28, 29, 30, 31, 32, 33, 34, 35, 36, 37, 38, 39, 40, 41, 42, 43, 44, 45, 46, 47, 48, 49, 50, 51, 52, 53, 54, 55, 56, 57, 58, 59, 60, 61, 62, 63, 64, 65, 66, 67, 68, 69, 70, 71, 72, 73, 74, 75, 76, 77, 78, 79, 80, 81, 82, 919, 920, 921, 922, 923, 924, 925, 926, 927, 880, 881, 882, 883, 884, 885, 886, 887, 928, 929, 930, 931, 932, 933, 934, 935, 936, 937, 938, 939, 940, 941, 942, 943, 944, 945, 946, 947] (by decide +kernel) (by decide +kernel)
set_option maxRecDepth 20000 in
theorem gL_law_X5_init : GoodIn wsL_law (wsX5_init) := ggL_law_X5_init
set_option maxRecDepth 20000 in
theorem ggL_law_X6_init : GoodIn wsL_law wsX6_init := goodIn_r _ [85, 86, 11, 12, 25, 87, 88, 89, 90, 91, 92, 93, 94, 95, 96, 97, 98, 99, 100, 101, 102, 103, 104, 105, 888, 889, 890, 891, 892, 893, 894, 895, 896, 897, 898, 899, 900, 901, 902, 903, 904, 905, 906, 907, 908, 909, 910, 911, 912, 913, 914, 915, 916, 917, 918] (by decide +kernel) (by decide +kernel)
set_option maxRecDepth 20000 in
theorem gL_law_X6_init : GoodIn wsL_law (wsX6_init) := ggL_law_X6_init
set_option maxRecDepth 20000 in
theorem ggL_law_X5_feed : GoodIn wsL_law wsX5_feed := goodIn_r _ [109, 24, 110, 111, 112, 113, 2, 114, 27, 115, 116, 117, 23, 118, 81, 80, 880, 881, 882, 883, 884, 885, 886, 887, 939, 940, 941] (by decide +kernel) (by decide +kernel)
set_option maxRecDepth 20000 in
theorem gL_law_X5_feed : GoodIn wsL_law (wsV RL 15 RX5 yX5_feed wsX5_feed) := goodIn_app (goodIn_of _ (by decide +kernel)) ggL_law_X5_feed
set_option maxRecDepth 20000 in
theorem ggL_law_X6_feed : GoodIn wsL_law wsX6_feed := goodIn_r _ [122, 123, 98, 124, 125, 126, 5, 127, 128, 129, 130, 131, 87, 888, 889, 890, 891, 892, 893, 894, 895, 896, 897, 898, 899, 900, 901, 902, 903, 904, 905, 906, 907, 908, 909, 910, 911, 912, 913, 914, 915, 916, 917, 918] (by decide +kernel) (by decide +kernel)
set_option maxRecDepth 20000 in
theorem gL_law_X6_feed : GoodIn wsL_law (wsV RL 19 RX6 yX6_feed wsX6_feed) := goodIn_app (goodIn_of _ (by decide +kernel)) ggL_law_X6_feed
set_option maxRecDepth 20000 in
theorem ggL_law_X5_house : GoodIn wsL_law wsX5_house := goodIn_r _ [135, 24, 16, 110, 136, 137, 138, 23, 139, 82, 81, 140, 141, 142, 143, 80, 144, 145, 146, 147, 148, 149, 150, 151, 152, 153, 38, 154, 51, 155, 156, 157, 158, 159, 160, 161, 162, 163, 164, 165, 15, 166, 42, 167, 168, 169, 170, 171, 172, 173, 174, 43, 34, 35, 44, 175, 176, 177, 178, 179, 180, 181, 182, 183, 184, 185, 186, 187, 188, 189, 190, 49, 50, 191, 192, 193, 194, 195, 196, 197, 198, 199, 200, 201, 202, 203, 2, 204, 205, 206, 207, 208, 209, 880, 881, 882, 883, 884, 885, 886, 887, 939, 940, 941, 919, 920, 921, 922, 923, 924, 925, 926, 927, 942, 943, 944] (by decide +kernel) (by decide +kernel)
set_option maxRecDepth 20000 in
theorem gL_law_X5_house : GoodIn wsL_law (wsV RL 20 RX5 yX5_house wsX5_house) := goodIn_app (goodIn_of _ (by decide +kernel)) ggL_law_X5_house
set_option maxRecDepth 20000 in
theorem ggL_law_X6_house : GoodIn wsL_law wsX6_house := goodIn_r _ [213, 214, 123, 215, 216, 217, 5, 218, 219, 220, 221, 222, 223, 224, 225, 226, 227, 98, 228, 229, 230, 231, 232, 233, 234, 235, 236, 237, 238, 239, 91, 92, 240, 241, 242, 243, 244, 245, 246, 247, 248, 249, 250, 251, 93, 94, 252, 253, 254, 255, 256, 257, 258, 259, 260, 261, 262, 263, 97, 264, 265, 266, 267, 95, 96, 268, 269, 270, 271, 88, 89, 90, 888, 889, 890, 891, 892, 893, 894, 895, 896, 897, 898, 899, 900, 901, 902, 903, 904, 905, 906, 907, 908, 909, 910, 911, 912, 913, 914, 915, 916, 917, 918] (by decide +kernel) (by decide +kernel)
set_option maxRecDepth 20000 in
theorem gL_law_X6_house : GoodIn wsL_law (wsV RL 24 RX6 yX6_house wsX6_house) := goodIn_app (goodIn_of _ (by decide +kernel)) ggL_law_X6_house
set_option maxRecDepth 20000 in
theorem ggL_law_X5_steps : GoodIn wsL_law wsX5_steps := goodIn_r _ [275, 16, 276, 277, 278, 2, 279, 111, 112, 113, 114, 27, 280, 281, 282, 15, 283, 42, 43, 34, 45, 284, 285, 286, 287, 288, 289, 290, 291, 41, 292, 293, 294, 295, 296, 297, 298, 299, 164, 165, 166, 300, 192, 193, 38, 194, 51, 49, 50, 880, 881, 882, 883, 884, 885, 886, 887, 919, 920, 921, 922, 923, 924, 925, 926, 927, 942, 943, 944] (by decide +kernel) (by decide +kernel)
set_option maxRecDepth 20000 in
theorem gL_law_X5_steps : GoodIn wsL_law (wsV RL 25 RX5 yX5_steps wsX5_steps) := goodIn_app (goodIn_of _ (by decide +kernel)) ggL_law_X5_steps
set_option maxRecDepth 20000 in
theorem ggL_law_X6_steps : GoodIn wsL_law wsX6_steps := goodIn_r _ [304, 97, 219, 88, 223, 222, 95, 96, 125, 126, 5, 127, 128, 129, 130, 131, 87, 305, 306, 307, 308, 309, 310, 311, 312, 260, 261, 262, 263, 888, 889, 890, 891, 892, 893, 894, 895, 896, 897, 898, 899, 900, 901, 902, 903, 904, 905, 906, 907, 908, 909, 910, 911, 912, 913, 914, 915, 916, 917, 918] (by decide +kernel) (by decide +kernel)
set_option maxRecDepth 20000 in
theorem gL_law_X6_steps : GoodIn wsL_law (wsV RL 29 RX6 yX6_steps wsX6_steps) := goodIn_app (goodIn_of _ (by decide +kernel)) ggL_law_X6_steps
set_option maxRecDepth 20000 in
theorem ggL_law_X5_hand : GoodIn wsL_law wsX5_hand := goodIn_r _ [316, 16, 317, 318, 296, 297, 15, 298, 42, 111, 112, 113, 2, 114, 27, 319, 172, 173, 174, 43, 34, 35, 44, 880, 881, 882, 883, 884, 885, 886, 887, 919, 920, 921, 922, 923, 924, 925, 926, 927] (by decide +kernel) (by decide +kernel)
set_option maxRecDepth 20000 in
theorem gL_law_X5_hand : GoodIn wsL_law (wsV RL 30 RX5 yX5_hand wsX5_hand) := goodIn_app (goodIn_of _ (by decide +kernel)) ggL_law_X5_hand
set_option maxRecDepth 20000 in
theorem ggL_law_X6_hand : GoodIn wsL_law wsX6_hand := goodIn_r _ [323, 219, 309, 310, 311, 5, 312, 305, 306, 307, 308, 97, 128, 129, 130, 131, 87, 268, 269, 270, 271, 88, 89, 90, 888, 889, 890, 891, 892, 893, 894, 895, 896, 897, 898, 899, 900, 901, 902, 903, 904, 905, 906, 907, 908, 909, 910, 911, 912, 913, 914, 915, 916, 917, 918] (by decide +kernel) (by decide +kernel)
set_option maxRecDepth 20000 in
theorem gL_law_X6_hand : GoodIn wsL_law (wsV RL 33 RX6 yX6_hand wsX6_hand) := goodIn_app (goodIn_of _ (by decide +kernel)) ggL_law_X6_hand
set_option maxRecDepth 20000 in
theorem ggL_law_X5_tell : GoodIn wsL_law wsX5_tell := goodIn_r _ [327, 16, 328, 329, 184, 185, 15, 186, 43, 330, 164, 165, 166, 42, 111, 112, 113, 2, 114, 27, 331, 332, 333, 880, 881, 882, 883, 884, 885, 886, 887, 919, 920, 921, 922, 923, 924, 925, 926, 927] (by decide +kernel) (by decide +kernel)
set_option maxRecDepth 20000 in
theorem gL_law_X5_tell : GoodIn wsL_law (wsV RL 34 RX5 yX5_tell wsX5_tell) := goodIn_app (goodIn_of _ (by decide +kernel)) ggL_law_X5_tell
set_option maxRecDepth 20000 in
theorem ggL_law_X6_tell : GoodIn wsL_law wsX6_tell := goodIn_r _ [337, 88, 232, 233, 234, 5, 235, 219, 260, 261, 262, 263, 97, 128, 129, 130, 131, 87, 888, 889, 890, 891, 892, 893, 894, 895, 896, 897, 898, 899, 900, 901, 902, 903, 904, 905, 906, 907, 908, 909, 910, 911, 912, 913, 914, 915, 916, 917, 918] (by decide +kernel) (by decide +kernel)
set_option maxRecDepth 20000 in
theorem gL_law_X6_tell : GoodIn wsL_law (wsV RL 38 RX6 yX6_tell wsX6_tell) := goodIn_app (goodIn_of _ (by decide +kernel)) ggL_law_X6_tell
set_option maxRecDepth 20000 in
theorem ggL_law_X5_chance : GoodIn wsL_law wsX5_chance := goodIn_r _ [341, 16, 342, 329, 184, 185, 15, 186, 43, 111, 112, 113, 2, 114, 27, 277, 278, 279, 880, 881, 882, 883, 884, 885, 886, 887, 919, 920, 921, 922, 923, 924, 925, 926, 927] (by decide +kernel) (by decide +kernel)
set_option maxRecDepth 20000 in
theorem gL_law_X5_chance : GoodIn wsL_law (wsV RL 39 RX5 yX5_chance wsX5_chance) := goodIn_app (goodIn_of _ (by decide +kernel)) ggL_law_X5_chance
set_option maxRecDepth 20000 in
theorem ggL_law_X6_chance : GoodIn wsL_law wsX6_chance := goodIn_r _ [346, 89, 232, 233, 234, 5, 235, 219, 128, 129, 130, 131, 87, 125, 126, 127, 888, 889, 890, 891, 892, 893, 894, 895, 896, 897, 898, 899, 900, 901, 902, 903, 904, 905, 906, 907, 908, 909, 910, 911, 912, 913, 914, 915, 916, 917, 918] (by decide +kernel) (by decide +kernel)
set_option maxRecDepth 20000 in
theorem gL_law_X6_chance : GoodIn wsL_law (wsV RL 43 RX6 yX6_chance wsX6_chance) := goodIn_app (goodIn_of _ (by decide +kernel)) ggL_law_X6_chance
set_option maxRecDepth 20000 in
theorem ggL_law_X5_over : GoodIn wsL_law wsX5_over := goodIn_r _ [350, 16, 351, 329, 184, 185, 15, 186, 43, 111, 112, 113, 2, 114, 27, 331, 332, 333, 880, 881, 882, 883, 884, 885, 886, 887, 919, 920, 921, 922, 923, 924, 925, 926, 927] (by decide +kernel) (by decide +kernel)
set_option maxRecDepth 20000 in
theorem gL_law_X5_over : GoodIn wsL_law (wsV RL 44 RX5 yX5_over wsX5_over) := goodIn_app (goodIn_of _ (by decide +kernel)) ggL_law_X5_over
set_option maxRecDepth 20000 in
theorem ggL_law_X6_over : GoodIn wsL_law wsX6_over := goodIn_r _ [355, 90, 232, 233, 234, 5, 235, 219, 128, 129, 130, 131, 87, 888, 889, 890, 891, 892, 893, 894, 895, 896, 897, 898, 899, 900, 901, 902, 903, 904, 905, 906, 907, 908, 909, 910, 911, 912, 913, 914, 915, 916, 917, 918] (by decide +kernel) (by decide +kernel)
set_option maxRecDepth 20000 in
theorem gL_law_X6_over : GoodIn wsL_law (wsV RL 48 RX6 yX6_over wsX6_over) := goodIn_app (goodIn_of _ (by decide +kernel)) ggL_law_X6_over
set_option maxRecDepth 20000 in
theorem ggL_law_X5_sight : GoodIn wsL_law wsX5_sight := goodIn_r _ [359, 16, 360, 361, 362, 363, 364, 15, 365, 366, 184, 185, 186, 43, 111, 112, 113, 2, 114, 27, 367, 188, 189, 38, 190, 51, 49, 50, 368, 152, 153, 154, 369, 192, 193, 194, 880, 881, 882, 883, 884, 885, 886, 887, 919, 920, 921, 922, 923, 924, 925, 926, 927, 942, 943, 944] (by decide +kernel) (by decide +kernel)
set_option maxRecDepth 20000 in
theorem gL_law_X5_sight : GoodIn wsL_law (wsV RL 49 RX5 yX5_sight wsX5_sight) := goodIn_app (goodIn_of _ (by decide +kernel)) ggL_law_X5_sight
set_option maxRecDepth 20000 in
theorem ggL_law_X6_sight : GoodIn wsL_law wsX6_sight := goodIn_r _ [373, 220, 374, 375, 376, 5, 377, 232, 233, 234, 235, 219, 128, 129, 130, 131, 87, 236, 237, 238, 239, 91, 92, 244, 245, 246, 247, 888, 889, 890, 891, 892, 893, 894, 895, 896, 897, 898, 899, 900, 901, 902, 903, 904, 905, 906, 907, 908, 909, 910, 911, 912, 913, 914, 915, 916, 917, 918] (by decide +kernel) (by decide +kernel)
set_option maxRecDepth 20000 in
theorem gL_law_X6_sight : GoodIn wsL_law (wsV RL 52 RX6 yX6_sight wsX6_sight) := goodIn_app (goodIn_of _ (by decide +kernel)) ggL_law_X6_sight
set_option maxRecDepth 20000 in
theorem ggL_law_X5_tie : GoodIn wsL_law wsX5_tie := goodIn_r _ [381, 16, 382, 361, 362, 363, 364, 15, 365, 366, 184, 185, 186, 43, 111, 112, 113, 2, 114, 27, 368, 152, 153, 38, 154, 51, 369, 192, 193, 194, 49, 50, 880, 881, 882, 883, 884, 885, 886, 887, 919, 920, 921, 922, 923, 924, 925, 926, 927, 942, 943, 944] (by decide +kernel) (by decide +kernel)
set_option maxRecDepth 20000 in
theorem gL_law_X5_tie : GoodIn wsL_law (wsV RL 53 RX5 yX5_tie wsX5_tie) := goodIn_app (goodIn_of _ (by decide +kernel)) ggL_law_X5_tie
set_option maxRecDepth 20000 in
theorem ggL_law_X6_tie : GoodIn wsL_law wsX6_tie := goodIn_r _ [386, 221, 374, 375, 376, 5, 377, 232, 233, 234, 235, 219, 128, 129, 130, 131, 87, 248, 249, 250, 251, 93, 94, 888, 889, 890, 891, 892, 893, 894, 895, 896, 897, 898, 899, 900, 901, 902, 903, 904, 905, 906, 907, 908, 909, 910, 911, 912, 913, 914, 915, 916, 917, 918] (by decide +kernel) (by decide +kernel)
set_option maxRecDepth 20000 in
theorem gL_law_X6_tie : GoodIn wsL_law (wsV RL 56 RX6 yX6_tie wsX6_tie) := goodIn_app (goodIn_of _ (by decide +kernel)) ggL_law_X6_tie
set_option maxRecDepth 20000 in
theorem ggL_law_X5_guess : GoodIn wsL_law wsX5_guess := goodIn_r _ [390, 16, 391, 361, 318, 296, 297, 15, 298, 42, 330, 164, 165, 166, 392, 203, 2, 204, 111, 112, 113, 114, 27, 368, 152, 153, 38, 154, 51, 369, 192, 193, 194, 49, 50, 880, 881, 882, 883, 884, 885, 886, 887, 919, 920, 921, 922, 923, 924, 925, 926, 927, 942, 943, 944] (by decide +kernel) (by decide +kernel)
set_option maxRecDepth 20000 in
theorem gL_law_X5_guess : GoodIn wsL_law (wsV RL 57 RX5 yX5_guess wsX5_guess) := goodIn_app (goodIn_of _ (by decide +kernel)) ggL_law_X5_guess
set_option maxRecDepth 20000 in
theorem ggL_law_X6_guess : GoodIn wsL_law wsX6_guess := goodIn_r _ [396, 222, 309, 310, 311, 5, 312, 305, 306, 307, 308, 97, 260, 261, 262, 263, 128, 129, 130, 131, 87, 264, 265, 266, 267, 95, 96, 888, 889, 890, 891, 892, 893, 894, 895, 896, 897, 898, 899, 900, 901, 902, 903, 904, 905, 906, 907, 908, 909, 910, 911, 912, 913, 914, 915, 916, 917, 918] (by decide +kernel) (by decide +kernel)
set_option maxRecDepth 20000 in
theorem gL_law_X6_guess : GoodIn wsL_law (wsV RL 60 RX6 yX6_guess wsX6_guess) := goodIn_app (goodIn_of _ (by decide +kernel)) ggL_law_X6_guess
set_option maxRecDepth 20000 in
theorem ggL_law_X5_paper : GoodIn wsL_law wsX5_paper := goodIn_r _ [400, 16, 401, 318, 296, 297, 15, 298, 42, 111, 112, 113, 2, 114, 27, 880, 881, 882, 883, 884, 885, 886, 887, 919, 920, 921, 922, 923, 924, 925, 926, 927] (by decide +kernel) (by decide +kernel)
set_option maxRecDepth 20000 in
theorem gL_law_X5_paper : GoodIn wsL_law (wsV RL 61 RX5 yX5_paper wsX5_paper) := goodIn_app (goodIn_of _ (by decide +kernel)) ggL_law_X5_paper
set_option maxRecDepth 20000 in
theorem ggL_law_X6_paper : GoodIn wsL_law wsX6_paper := goodIn_r _ [405, 223, 309, 310, 311, 5, 312, 305, 306, 307, 308, 97, 128, 129, 130, 131, 87, 888, 889, 890, 891, 892, 893, 894, 895, 896, 897, 898, 899, 900, 901, 902, 903, 904, 905, 906, 907, 908, 909, 910, 911, 912, 913, 914, 915, 916, 917, 918] (by decide +kernel) (by decide +kernel)
set_option maxRecDepth 20000 in
theorem gL_law_X6_paper : GoodIn wsL_law (wsV RL 64 RX6 yX6_paper wsX6_paper) := goodIn_app (goodIn_of _ (by decide +kernel)) ggL_law_X6_paper
set_option maxRecDepth 20000 in
theorem ggL_law_X5_knows : GoodIn wsL_law wsX5_knows := goodIn_r _ [409, 16, 20, 328, 329, 184, 185, 15, 186, 43, 111, 112, 113, 2, 114, 27, 410, 411, 412, 19, 413, 69, 414, 56, 415, 416, 417, 418, 419, 65, 66, 67, 420, 68, 421, 422, 423, 424, 44, 425, 285, 286, 287, 42, 426, 427, 428, 429, 57, 430, 431, 432, 433, 203, 204, 434, 435, 436, 437, 58, 438, 59, 439, 440, 441, 442, 443, 444, 445, 446, 447, 448, 449, 450, 451, 452, 453, 454, 880, 881, 882, 883, 884, 885, 886, 887, 919, 920, 921, 922, 923, 924, 925, 926, 927, 928, 929, 930, 931, 932, 933, 934, 935, 936, 937, 938, 942, 943, 944] (by decide +kernel) (by decide +kernel)
set_option maxRecDepth 20000 in
theorem gL_law_X5_knows : GoodIn wsL_law (wsV RL 65 RX5 yX5_knows wsX5_knows) := goodIn_app (goodIn_of _ (by decide +kernel)) ggL_law_X5_knows
set_option maxRecDepth 20000 in
theorem ggL_law_X6_knows : GoodIn wsL_law wsX6_knows := goodIn_r _ [458, 88, 99, 100, 232, 233, 234, 5, 235, 219, 128, 129, 130, 131, 87, 459, 460, 461, 462, 463, 464, 465, 101, 220, 91, 466, 92, 221, 93, 94, 467, 468, 469, 470, 222, 95, 96, 888, 889, 890, 891, 892, 893, 894, 895, 896, 897, 898, 899, 900, 901, 902, 903, 904, 905, 906, 907, 908, 909, 910, 911, 912, 913, 914, 915, 916, 917, 918] (by decide +kernel) (by decide +kernel)
set_option maxRecDepth 20000 in
theorem gL_law_X6_knows : GoodIn wsL_law (wsV RL 68 RX6 yX6_knows wsX6_knows) := goodIn_app (goodIn_of _ (by decide +kernel)) ggL_law_X6_knows
set_option maxRecDepth 20000 in
theorem ggL_law_X5_known : GoodIn wsL_law wsX5_known := goodIn_r _ [474, 16, 20, 401, 475, 476, 477, 15, 478, 43, 111, 112, 113, 2, 114, 27, 410, 411, 412, 19, 413, 69, 414, 56, 415, 416, 417, 418, 419, 65, 66, 67, 420, 68, 421, 422, 423, 424, 44, 425, 285, 286, 287, 42, 426, 427, 428, 429, 57, 430, 431, 432, 433, 203, 204, 434, 435, 436, 437, 58, 438, 59, 439, 440, 441, 446, 447, 448, 449, 450, 451, 452, 453, 454, 880, 881, 882, 883, 884, 885, 886, 887, 919, 920, 921, 922, 923, 924, 925, 926, 927, 928, 929, 930, 931, 932, 933, 934, 935, 936, 937, 938, 942, 943, 944] (by decide +kernel) (by decide +kernel)
set_option maxRecDepth 20000 in
theorem gL_law_X5_known : GoodIn wsL_law (wsV RL 69 RX5 yX5_known wsX5_known) := goodIn_app (goodIn_of _ (by decide +kernel)) ggL_law_X5_known
set_option maxRecDepth 20000 in
theorem ggL_law_X6_known : GoodIn wsL_law wsX6_known := goodIn_r _ [482, 219, 128, 129, 130, 5, 131, 87, 462, 463, 464, 465, 99, 88, 101, 220, 91, 466, 92, 221, 93, 94, 100, 483, 484, 485, 486, 223, 467, 468, 469, 470, 222, 95, 96, 888, 889, 890, 891, 892, 893, 894, 895, 896, 897, 898, 899, 900, 901, 902, 903, 904, 905, 906, 907, 908, 909, 910, 911, 912, 913, 914, 915, 916, 917, 918] (by decide +kernel) (by decide +kernel)
set_option maxRecDepth 20000 in
theorem gL_law_X6_known : GoodIn wsL_law (wsV RL 72 RX6 yX6_known wsX6_known) := goodIn_app (goodIn_of _ (by decide +kernel)) ggL_law_X6_known
set_option maxRecDepth 20000 in
theorem ggL_law_X5_stays : GoodIn wsL_law wsX5_stays := goodIn_r _ [490, 20, 277, 278, 2, 279, 111, 112, 113, 114, 27, 410, 411, 412, 19, 413, 69, 414, 56, 415, 416, 417, 418, 419, 65, 66, 67, 420, 68, 421, 422, 423, 15, 424, 43, 44, 425, 285, 286, 287, 42, 426, 427, 428, 429, 57, 430, 431, 432, 433, 203, 204, 434, 435, 436, 437, 58, 438, 59, 439, 440, 441, 491, 492, 493, 494, 63, 495, 496, 497, 62, 498, 499, 500, 501, 502, 74, 75, 73, 503, 504, 505, 506, 507, 508, 509, 510, 511, 512, 513, 514, 515, 516, 517, 518, 519, 520, 521, 522, 523, 524, 525, 451, 452, 453, 454, 526, 527, 528, 529, 880, 881, 882, 883, 884, 885, 886, 887, 928, 929, 930, 931, 932, 933, 934, 935, 936, 937, 938, 919, 920, 921, 922, 923, 924, 925, 926, 927, 942, 943, 944, 945, 946, 947] (by decide +kernel) (by decide +kernel)
set_option maxRecDepth 20000 in
theorem gL_law_X5_stays : GoodIn wsL_law (wsV RL 73 RX5 yX5_stays wsX5_stays) := goodIn_app (goodIn_of _ (by decide +kernel)) ggL_law_X5_stays
set_option maxRecDepth 20000 in
theorem ggL_law_X6_stays : GoodIn wsL_law wsX6_stays := goodIn_r _ [533, 125, 126, 5, 127, 128, 129, 130, 131, 87, 462, 463, 464, 465, 219, 99, 88, 101, 220, 91, 466, 92, 221, 93, 94, 100, 534, 535, 536, 537, 538, 539, 540, 541, 542, 543, 544, 545, 90, 546, 547, 548, 549, 550, 551, 552, 483, 484, 485, 486, 223, 467, 468, 469, 470, 222, 95, 96, 305, 306, 307, 308, 97, 553, 554, 555, 556, 888, 889, 890, 891, 892, 893, 894, 895, 896, 897, 898, 899, 900, 901, 902, 903, 904, 905, 906, 907, 908, 909, 910, 911, 912, 913, 914, 915, 916, 917, 918] (by decide +kernel) (by decide +kernel)
set_option maxRecDepth 20000 in
theorem gL_law_X6_stays : GoodIn wsL_law (wsV RL 76 RX6 yX6_stays wsX6_stays) := goodIn_app (goodIn_of _ (by decide +kernel)) ggL_law_X6_stays
set_option maxRecDepth 20000 in
theorem ggL_law_X5_safe : GoodIn wsL_law wsX5_safe := goodIn_r _ [560, 20, 277, 278, 2, 279, 111, 112, 113, 114, 27, 410, 411, 412, 19, 413, 69, 414, 56, 415, 416, 417, 418, 419, 65, 66, 67, 420, 68, 421, 422, 423, 15, 424, 43, 44, 425, 285, 286, 287, 42, 426, 427, 428, 429, 57, 430, 431, 432, 433, 203, 204, 434, 435, 436, 437, 58, 438, 59, 439, 440, 441, 561, 562, 563, 564, 64, 495, 496, 497, 62, 498, 499, 500, 501, 502, 74, 75, 73, 503, 504, 505, 506, 507, 508, 509, 565, 566, 567, 568, 514, 515, 516, 517, 518, 519, 520, 521, 522, 523, 524, 525, 451, 452, 453, 454, 526, 527, 528, 529, 880, 881, 882, 883, 884, 885, 886, 887, 928, 929, 930, 931, 932, 933, 934, 935, 936, 937, 938, 919, 920, 921, 922, 923, 924, 925, 926, 927, 942, 943, 944, 945, 946, 947] (by decide +kernel) (by decide +kernel)
set_option maxRecDepth 20000 in
theorem gL_law_X5_safe : GoodIn wsL_law (wsV RL 77 RX5 yX5_safe wsX5_safe) := goodIn_app (goodIn_of _ (by decide +kernel)) ggL_law_X5_safe
set_option maxRecDepth 20000 in
theorem ggL_law_X6_safe : GoodIn wsL_law wsX6_safe := goodIn_r _ [572, 125, 126, 5, 127, 128, 129, 130, 131, 87, 462, 463, 464, 465, 219, 99, 88, 101, 220, 91, 466, 92, 221, 93, 94, 100, 534, 535, 536, 537, 538, 539, 540, 541, 542, 543, 544, 545, 90, 546, 547, 548, 549, 550, 551, 552, 483, 484, 485, 486, 223, 467, 468, 469, 470, 222, 95, 96, 305, 306, 307, 308, 97, 553, 554, 555, 556, 888, 889, 890, 891, 892, 893, 894, 895, 896, 897, 898, 899, 900, 901, 902, 903, 904, 905, 906, 907, 908, 909, 910, 911, 912, 913, 914, 915, 916, 917, 918] (by decide +kernel) (by decide +kernel)
set_option maxRecDepth 20000 in
theorem gL_law_X6_safe : GoodIn wsL_law (wsV RL 80 RX6 yX6_safe wsX6_safe) := goodIn_app (goodIn_of _ (by decide +kernel)) ggL_law_X6_safe
set_option maxRecDepth 20000 in
theorem ggL_law_X5_losers : GoodIn wsL_law wsX5_losers := goodIn_r _ [576, 20, 410, 411, 412, 19, 413, 69, 414, 56, 415, 416, 417, 418, 419, 65, 66, 67, 420, 68, 421, 422, 423, 15, 424, 43, 44, 425, 285, 286, 287, 42, 426, 427, 428, 429, 57, 430, 431, 432, 433, 203, 2, 204, 434, 435, 436, 437, 58, 438, 59, 439, 440, 441, 577, 578, 579, 580, 16, 317, 581, 504, 505, 506, 507, 508, 509, 582, 583, 584, 585, 586, 522, 523, 524, 525, 451, 452, 453, 454, 880, 881, 882, 883, 884, 885, 886, 887, 928, 929, 930, 931, 932, 933, 934, 935, 936, 937, 938, 919, 920, 921, 922, 923, 924, 925, 926, 927, 942, 943, 944] (by decide +kernel) (by decide +kernel)
set_option maxRecDepth 20000 in
theorem gL_law_X5_losers : GoodIn wsL_law (wsV RL 81 RX5 yX5_losers wsX5_losers) := goodIn_app (goodIn_of _ (by decide +kernel)) ggL_law_X5_losers
set_option maxRecDepth 20000 in
theorem ggL_law_X6_losers : GoodIn wsL_law wsX6_losers := goodIn_r _ [590, 591, 592, 593, 5, 594, 219, 462, 463, 464, 465, 99, 88, 101, 220, 91, 466, 92, 221, 93, 94, 100, 538, 539, 540, 541, 542, 543, 544, 545, 90, 546, 547, 548, 549, 550, 551, 552, 483, 484, 485, 486, 223, 467, 468, 469, 470, 222, 95, 96, 305, 306, 307, 308, 97, 553, 554, 555, 556, 888, 889, 890, 891, 892, 893, 894, 895, 896, 897, 898, 899, 900, 901, 902, 903, 904, 905, 906, 907, 908, 909, 910, 911, 912, 913, 914, 915, 916, 917, 918] (by decide +kernel) (by decide +kernel)
set_option maxRecDepth 20000 in
theorem gL_law_X6_losers : GoodIn wsL_law (wsV RL 84 RX6 yX6_losers wsX6_losers) := goodIn_app (goodIn_of _ (by decide +kernel)) ggL_law_X6_losers
set_option maxRecDepth 20000 in
theorem ggL_law_X5_carriers : GoodIn wsL_law wsX5_carriers := goodIn_r _ [598, 20, 410, 411, 412, 19, 413, 69, 414, 56, 415, 416, 417, 418, 419, 65, 66, 67, 420, 68, 421, 422, 423, 15, 424, 43, 44, 425, 285, 286, 287, 42, 426, 427, 428, 429, 57, 430, 431, 432, 433, 203, 2, 204, 434, 435, 436, 437, 58, 438, 59, 439, 440, 441, 577, 578, 579, 580, 16, 317, 581, 504, 505, 506, 507, 508, 509, 582, 583, 584, 585, 586, 522, 523, 524, 525, 451, 452, 453, 454, 880, 881, 882, 883, 884, 885, 886, 887, 928, 929, 930, 931, 932, 933, 934, 935, 936, 937, 938, 919, 920, 921, 922, 923, 924, 925, 926, 927, 942, 943, 944] (by decide +kernel) (by decide +kernel)
set_option maxRecDepth 20000 in
theorem gL_law_X5_carriers : GoodIn wsL_law (wsV RL 85 RX5 yX5_carriers wsX5_carriers) := goodIn_app (goodIn_of _ (by decide +kernel)) ggL_law_X5_carriers
set_option maxRecDepth 20000 in
theorem ggL_law_X6_carriers : GoodIn wsL_law wsX6_carriers := goodIn_r _ [602, 591, 592, 593, 5, 594, 219, 462, 463, 464, 465, 99, 88, 101, 220, 91, 466, 92, 221, 93, 94, 100, 538, 539, 540, 541, 542, 543, 544, 545, 90, 546, 547, 548, 549, 550, 551, 552, 483, 484, 485, 486, 223, 467, 468, 469, 470, 222, 95, 96, 305, 306, 307, 308, 97, 553, 554, 555, 556, 888, 889, 890, 891, 892, 893, 894, 895, 896, 897, 898, 899, 900, 901, 902, 903, 904, 905, 906, 907, 908, 909, 910, 911, 912, 913, 914, 915, 916, 917, 918] (by decide +kernel) (by decide +kernel)
set_option maxRecDepth 20000 in
theorem gL_law_X6_carriers : GoodIn wsL_law (wsV RL 88 RX6 yX6_carriers wsX6_carriers) := goodIn_app (goodIn_of _ (by decide +kernel)) ggL_law_X6_carriers
set_option maxRecDepth 20000 in
theorem ggL_law_X5_keys : GoodIn wsL_law wsX5_keys := goodIn_r _ [606, 20, 16, 317, 410, 411, 412, 19, 413, 69, 414, 56, 415, 416, 417, 418, 419, 65, 66, 67, 420, 68, 421, 422, 423, 15, 424, 43, 44, 425, 285, 286, 287, 42, 426, 427, 428, 429, 57, 430, 431, 432, 433, 203, 2, 204, 434, 435, 436, 437, 58, 438, 59, 439, 440, 441, 607, 608, 609, 610, 586, 522, 523, 524, 525, 451, 452, 453, 454, 880, 881, 882, 883, 884, 885, 886, 887, 919, 920, 921, 922, 923, 924, 925, 926, 927, 928, 929, 930, 931, 932, 933, 934, 935, 936, 937, 938, 942, 943, 944] (by decide +kernel) (by decide +kernel)
set_option maxRecDepth 20000 in
theorem gL_law_X5_keys : GoodIn wsL_law (wsV RL 89 RX5 yX5_keys wsX5_keys) := goodIn_app (goodIn_of _ (by decide +kernel)) ggL_law_X5_keys
set_option maxRecDepth 20000 in
theorem ggL_law_X6_keys : GoodIn wsL_law wsX6_keys := goodIn_r _ [614, 219, 462, 463, 464, 5, 465, 99, 88, 101, 220, 91, 466, 92, 221, 93, 94, 100, 538, 539, 540, 541, 542, 543, 544, 545, 90, 553, 554, 555, 556, 483, 484, 485, 486, 223, 467, 468, 469, 470, 222, 95, 96, 305, 306, 307, 308, 97, 888, 889, 890, 891, 892, 893, 894, 895, 896, 897, 898, 899, 900, 901, 902, 903, 904, 905, 906, 907, 908, 909, 910, 911, 912, 913, 914, 915, 916, 917, 918] (by decide +kernel) (by decide +kernel)
set_option maxRecDepth 20000 in
theorem gL_law_X6_keys : GoodIn wsL_law (wsV RL 92 RX6 yX6_keys wsX6_keys) := goodIn_app (goodIn_of _ (by decide +kernel)) ggL_law_X6_keys
set_option maxRecDepth 20000 in
theorem ggL_law_X5_monday : GoodIn wsL_law wsX5_monday := goodIn_r _ [618, 16, 351, 20, 329, 184, 185, 15, 186, 43, 111, 112, 113, 2, 114, 27, 392, 203, 204, 619, 620, 621, 410, 411, 412, 19, 413, 69, 414, 56, 415, 416, 417, 418, 419, 65, 66, 67, 420, 68, 421, 422, 423, 424, 44, 425, 285, 286, 287, 42, 426, 427, 428, 429, 57, 430, 431, 432, 433, 434, 435, 436, 437, 58, 438, 59, 439, 440, 441, 491, 492, 493, 494, 63, 495, 496, 497, 62, 498, 499, 500, 501, 502, 74, 75, 73, 503, 504, 505, 506, 507, 508, 509, 561, 562, 563, 564, 64, 622, 623, 624, 625, 328, 276, 626, 565, 566, 567, 568, 514, 515, 516, 517, 518, 519, 520, 521, 522, 523, 524, 525, 451, 452, 453, 454, 526, 527, 528, 529, 581, 627, 628, 629, 630, 880, 881, 882, 883, 884, 885, 886, 887, 919, 920, 921, 922, 923, 924, 925, 926, 927, 928, 929, 930, 931, 932, 933, 934, 935, 936, 937, 938, 942, 943, 944, 945, 946, 947] (by decide +kernel) (by decide +kernel)
set_option maxRecDepth 20000 in
theorem gL_law_X5_monday : GoodIn wsL_law (wsV RL 93 RX5 yX5_monday wsX5_monday) := goodIn_app (goodIn_of _ (by decide +kernel)) ggL_law_X5_monday
set_option maxRecDepth 20000 in
theorem ggL_law_X6_monday : GoodIn wsL_law wsX6_monday := goodIn_r _ [634, 90, 88, 232, 233, 234, 5, 235, 219, 128, 129, 130, 131, 87, 635, 636, 637, 305, 306, 307, 308, 97, 546, 547, 548, 638, 639, 640, 641, 462, 463, 464, 465, 99, 101, 220, 91, 466, 92, 221, 93, 94, 100, 534, 535, 536, 537, 538, 539, 540, 541, 542, 543, 544, 545, 549, 550, 551, 552, 483, 484, 485, 486, 223, 467, 468, 469, 470, 222, 95, 96, 553, 554, 555, 556, 888, 889, 890, 891, 892, 893, 894, 895, 896, 897, 898, 899, 900, 901, 902, 903, 904, 905, 906, 907, 908, 909, 910, 911, 912, 913, 914, 915, 916, 917, 918] (by decide +kernel) (by decide +kernel)
set_option maxRecDepth 20000 in
theorem gL_law_X6_monday : GoodIn wsL_law (wsV RL 97 RX6 yX6_monday wsX6_monday) := goodIn_app (goodIn_of _ (by decide +kernel)) ggL_law_X6_monday
set_option maxRecDepth 20000 in
theorem ggL_law_X5_mend : GoodIn wsL_law wsX5_mend := goodIn_r _ [645, 20, 28, 619, 620, 2, 621, 111, 112, 113, 114, 27, 410, 411, 412, 19, 413, 69, 414, 56, 415, 416, 417, 418, 419, 65, 66, 67, 420, 68, 421, 422, 423, 15, 424, 43, 44, 425, 285, 286, 287, 42, 426, 427, 428, 429, 57, 430, 431, 432, 433, 203, 204, 434, 435, 436, 437, 58, 438, 59, 439, 440, 441, 491, 492, 493, 494, 63, 495, 496, 497, 62, 498, 499, 500, 501, 502, 74, 75, 73, 503, 504, 505, 506, 507, 508, 509, 561, 562, 563, 564, 64, 646, 647, 648, 649, 565, 566, 567, 568, 514, 515, 516, 517, 518, 519, 520, 521, 522, 523, 524, 525, 451, 452, 453, 454, 526, 527, 528, 529, 510, 511, 512, 513, 650, 651, 652, 653, 654, 655, 656, 657, 658, 608, 609, 610, 659, 164, 165, 166, 660, 661, 662, 663, 332, 333, 627, 628, 629, 630, 880, 881, 882, 883, 884, 885, 886, 887, 928, 929, 930, 931, 932, 933, 934, 935, 936, 937, 938, 919, 920, 921, 922, 923, 924, 925, 926, 927, 942, 943, 944, 945, 946, 947] (by decide +kernel) (by decide +kernel)
set_option maxRecDepth 20000 in
theorem gL_law_X5_mend : GoodIn wsL_law (wsV RL 98 RX5 yX5_mend wsX5_mend) := goodIn_app (goodIn_of _ (by decide +kernel)) ggL_law_X5_mend
set_option maxRecDepth 20000 in
theorem ggL_law_X6_mend : GoodIn wsL_law wsX6_mend := goodIn_r _ [667, 102, 635, 636, 5, 637, 128, 129, 130, 131, 87, 668, 669, 670, 671, 88, 638, 639, 640, 641, 462, 463, 464, 465, 219, 99, 101, 220, 91, 466, 92, 221, 93, 94, 100, 534, 535, 536, 537, 538, 539, 540, 541, 542, 543, 544, 545, 90, 546, 547, 548, 549, 550, 551, 552, 483, 484, 485, 486, 223, 467, 468, 469, 470, 222, 95, 96, 305, 306, 307, 308, 97, 553, 554, 555, 556, 672, 673, 674, 675, 888, 889, 890, 891, 892, 893, 894, 895, 896, 897, 898, 899, 900, 901, 902, 903, 904, 905, 906, 907, 908, 909, 910, 911, 912, 913, 914, 915, 916, 917, 918] (by decide +kernel) (by decide +kernel)
set_option maxRecDepth 20000 in
theorem gL_law_X6_mend : GoodIn wsL_law (wsV RL 101 RX6 yX6_mend wsX6_mend) := goodIn_app (goodIn_of _ (by decide +kernel)) ggL_law_X6_mend
set_option maxRecDepth 20000 in
theorem ggL_law_X5_walls : GoodIn wsL_law wsX5_walls := goodIn_r _ [679, 20, 277, 278, 2, 279, 111, 112, 113, 114, 27, 410, 411, 412, 19, 413, 69, 414, 56, 415, 416, 417, 418, 419, 65, 66, 67, 420, 68, 421, 422, 423, 15, 424, 43, 44, 425, 285, 286, 287, 42, 426, 427, 428, 429, 57, 430, 431, 432, 433, 203, 204, 434, 435, 436, 437, 58, 438, 59, 439, 440, 441, 561, 562, 563, 564, 64, 495, 496, 497, 62, 498, 499, 500, 501, 502, 74, 75, 73, 503, 504, 505, 506, 507, 508, 509, 680, 681, 682, 683, 16, 360, 361, 684, 565, 566, 567, 568, 514, 515, 516, 517, 518, 519, 520, 521, 522, 523, 524, 525, 451, 452, 453, 454, 526, 527, 528, 529, 581, 880, 881, 882, 883, 884, 885, 886, 887, 928, 929, 930, 931, 932, 933, 934, 935, 936, 937, 938, 919, 920, 921, 922, 923, 924, 925, 926, 927, 942, 943, 944, 945, 946, 947] (by decide +kernel) (by decide +kernel)
set_option maxRecDepth 20000 in
theorem gL_law_X5_walls : GoodIn wsL_law (wsV RL 102 RX5 yX5_walls wsX5_walls) := goodIn_app (goodIn_of _ (by decide +kernel)) ggL_law_X5_walls
set_option maxRecDepth 20000 in
theorem ggL_law_X6_walls : GoodIn wsL_law wsX6_walls := goodIn_r _ [688, 220, 466, 125, 126, 5, 127, 128, 129, 130, 131, 87, 546, 547, 548, 462, 463, 464, 465, 219, 99, 88, 101, 91, 92, 221, 93, 94, 100, 534, 535, 536, 537, 538, 539, 540, 541, 542, 543, 544, 545, 90, 549, 550, 551, 552, 483, 484, 485, 486, 223, 467, 468, 469, 470, 222, 95, 96, 305, 306, 307, 308, 97, 553, 554, 555, 556, 888, 889, 890, 891, 892, 893, 894, 895, 896, 897, 898, 899, 900, 901, 902, 903, 904, 905, 906, 907, 908, 909, 910, 911, 912, 913, 914, 915, 916, 917, 918] (by decide +kernel) (by decide +kernel)
set_option maxRecDepth 20000 in
theorem gL_law_X6_walls : GoodIn wsL_law (wsV RL 105 RX6 yX6_walls wsX6_walls) := goodIn_app (goodIn_of _ (by decide +kernel)) ggL_law_X6_walls
set_option maxRecDepth 20000 in
theorem ggL_law_X5_bank : GoodIn wsL_law wsX5_bank := goodIn_r _ [692, 20, 277, 278, 2, 279, 111, 112, 113, 114, 27, 410, 411, 412, 19, 413, 69, 414, 56, 415, 416, 417, 418, 419, 65, 66, 67, 420, 68, 421, 422, 423, 15, 424, 43, 44, 425, 285, 286, 287, 42, 426, 427, 428, 429, 57, 430, 431, 432, 433, 203, 204, 434, 435, 436, 437, 58, 438, 59, 439, 440, 441, 491, 492, 493, 494, 63, 495, 496, 497, 62, 498, 499, 500, 501, 502, 74, 75, 73, 503, 504, 505, 506, 507, 508, 509, 693, 694, 695, 696, 16, 276, 697, 698, 581, 510, 511, 512, 513, 514, 515, 516, 517, 518, 519, 520, 521, 522, 523, 524, 525, 451, 452, 453, 454, 526, 527, 528, 529, 880, 881, 882, 883, 884, 885, 886, 887, 928, 929, 930, 931, 932, 933, 934, 935, 936, 937, 938, 919, 920, 921, 922, 923, 924, 925, 926, 927, 942, 943, 944, 945, 946, 947] (by decide +kernel) (by decide +kernel)
set_option maxRecDepth 20000 in
theorem gL_law_X5_bank : GoodIn wsL_law (wsV RL 106 RX5 yX5_bank wsX5_bank) := goodIn_app (goodIn_of _ (by decide +kernel)) ggL_law_X5_bank
set_option maxRecDepth 20000 in
theorem ggL_law_X6_bank : GoodIn wsL_law wsX6_bank := goodIn_r _ [702, 223, 125, 126, 5, 127, 128, 129, 130, 131, 87, 462, 463, 464, 465, 219, 99, 88, 101, 220, 91, 466, 92, 221, 93, 94, 100, 305, 306, 307, 308, 97, 546, 547, 548, 534, 535, 536, 537, 538, 539, 540, 541, 542, 543, 544, 545, 90, 549, 550, 551, 552, 483, 484, 485, 486, 467, 468, 469, 470, 222, 95, 96, 553, 554, 555, 556, 888, 889, 890, 891, 892, 893, 894, 895, 896, 897, 898, 899, 900, 901, 902, 903, 904, 905, 906, 907, 908, 909, 910, 911, 912, 913, 914, 915, 916, 917, 918] (by decide +kernel) (by decide +kernel)
set_option maxRecDepth 20000 in
theorem gL_law_X6_bank : GoodIn wsL_law (wsV RL 109 RX6 yX6_bank wsX6_bank) := goodIn_app (goodIn_of _ (by decide +kernel)) ggL_law_X6_bank
set_option maxRecDepth 20000 in
theorem ggL_law_X5_giving : GoodIn wsL_law wsX5_giving := goodIn_r _ [706, 16, 20, 111, 112, 113, 2, 114, 27, 277, 278, 279, 707, 422, 423, 15, 424, 43, 44, 410, 411, 412, 19, 413, 69, 414, 56, 415, 416, 417, 418, 419, 65, 66, 67, 420, 68, 421, 425, 285, 286, 287, 42, 426, 427, 428, 429, 57, 430, 431, 432, 433, 203, 204, 434, 435, 436, 437, 58, 438, 59, 439, 440, 441, 708, 709, 710, 711, 712, 504, 505, 506, 507, 508, 509, 658, 608, 609, 610, 713, 714, 715, 716, 717, 718, 719, 720, 721, 722, 723, 724, 725, 491, 492, 493, 494, 63, 495, 496, 497, 62, 498, 499, 500, 501, 502, 74, 75, 73, 503, 561, 562, 563, 564, 64, 510, 511, 512, 513, 514, 515, 516, 517, 518, 519, 520, 521, 522, 523, 524, 525, 451, 452, 453, 454, 526, 527, 528, 529, 565, 566, 567, 568, 880, 881, 882, 883, 884, 885, 886, 887, 919, 920, 921, 922, 923, 924, 925, 926, 927, 928, 929, 930, 931, 932, 933, 934, 935, 936, 937, 938, 942, 943, 944, 945, 946, 947] (by decide +kernel) (by decide +kernel)
set_option maxRecDepth 20000 in
theorem gL_law_X5_giving : GoodIn wsL_law (wsV RL 110 RX5 yX5_giving wsX5_giving) := goodIn_app (goodIn_of _ (by decide +kernel)) ggL_law_X5_giving
set_option maxRecDepth 20000 in
theorem ggL_law_X6_giving : GoodIn wsL_law wsX6_giving := goodIn_r _ [729, 459, 460, 5, 461, 128, 129, 130, 131, 87, 125, 126, 127, 538, 539, 540, 541, 219, 542, 543, 544, 545, 90, 730, 731, 732, 733, 103, 88, 546, 547, 548, 734, 735, 736, 737, 97, 462, 463, 464, 465, 99, 101, 220, 91, 466, 92, 221, 93, 94, 100, 534, 535, 536, 537, 549, 550, 551, 552, 483, 484, 485, 486, 223, 467, 468, 469, 470, 222, 95, 96, 305, 306, 307, 308, 553, 554, 555, 556, 738, 739, 740, 741, 888, 889, 890, 891, 892, 893, 894, 895, 896, 897, 898, 899, 900, 901, 902, 903, 904, 905, 906, 907, 908, 909, 910, 911, 912, 913, 914, 915, 916, 917, 918] (by decide +kernel) (by decide +kernel)
set_option maxRecDepth 20000 in
theorem gL_law_X6_giving : GoodIn wsL_law (wsV RL 113 RX6 yX6_giving wsX6_giving) := goodIn_app (goodIn_of _ (by decide +kernel)) ggL_law_X6_giving
set_option maxRecDepth 20000 in
theorem ggL_law_X5_finest : GoodIn wsL_law wsX5_finest := goodIn_r _ [745, 16, 20, 619, 620, 2, 621, 111, 112, 113, 114, 27, 707, 422, 423, 15, 424, 43, 44, 410, 411, 412, 19, 413, 69, 414, 56, 415, 416, 417, 418, 419, 65, 66, 67, 420, 68, 421, 425, 285, 286, 287, 42, 426, 427, 428, 429, 57, 430, 431, 432, 433, 203, 204, 434, 435, 436, 437, 58, 438, 59, 439, 440, 441, 491, 492, 493, 494, 63, 495, 496, 497, 62, 498, 499, 500, 501, 502, 74, 75, 73, 503, 504, 505, 506, 507, 508, 509, 561, 562, 563, 564, 64, 746, 747, 748, 749, 708, 709, 710, 711, 712, 658, 608, 609, 610, 713, 714, 715, 716, 717, 718, 719, 720, 721, 722, 723, 724, 725, 627, 628, 629, 630, 514, 515, 516, 517, 518, 519, 520, 521, 522, 523, 524, 525, 451, 452, 453, 454, 526, 527, 528, 529, 880, 881, 882, 883, 884, 885, 886, 887, 919, 920, 921, 922, 923, 924, 925, 926, 927, 928, 929, 930, 931, 932, 933, 934, 935, 936, 937, 938, 942, 943, 944, 945, 946, 947] (by decide +kernel) (by decide +kernel)
set_option maxRecDepth 20000 in
theorem gL_law_X5_finest : GoodIn wsL_law (wsV RL 114 RX5 yX5_finest wsX5_finest) := goodIn_app (goodIn_of _ (by decide +kernel)) ggL_law_X5_finest
set_option maxRecDepth 20000 in
theorem ggL_law_X6_finest : GoodIn wsL_law wsX6_finest := goodIn_r _ [753, 635, 636, 5, 637, 538, 539, 540, 541, 219, 542, 543, 544, 545, 90, 128, 129, 130, 131, 87, 730, 731, 732, 733, 103, 88, 546, 547, 548, 734, 735, 736, 737, 97, 638, 639, 640, 641, 462, 463, 464, 465, 99, 101, 220, 91, 466, 92, 221, 93, 94, 100, 534, 535, 536, 537, 549, 550, 551, 552, 483, 484, 485, 486, 223, 467, 468, 469, 470, 222, 95, 96, 305, 306, 307, 308, 553, 554, 555, 556, 738, 739, 740, 741, 888, 889, 890, 891, 892, 893, 894, 895, 896, 897, 898, 899, 900, 901, 902, 903, 904, 905, 906, 907, 908, 909, 910, 911, 912, 913, 914, 915, 916, 917, 918] (by decide +kernel) (by decide +kernel)
set_option maxRecDepth 20000 in
theorem gL_law_X6_finest : GoodIn wsL_law (wsV RL 117 RX6 yX6_finest wsX6_finest) := goodIn_app (goodIn_of _ (by decide +kernel)) ggL_law_X6_finest
set_option maxRecDepth 20000 in
theorem ggL_law_X5_loses : GoodIn wsL_law wsX5_loses := goodIn_r _ [757, 20, 410, 411, 412, 19, 413, 69, 414, 56, 415, 416, 417, 418, 419, 65, 66, 67, 420, 68, 421, 422, 423, 15, 424, 43, 44, 425, 285, 286, 287, 42, 426, 427, 428, 429, 57, 430, 431, 432, 433, 203, 2, 204, 434, 435, 436, 437, 58, 438, 59, 439, 440, 441, 758, 759, 760, 761, 16, 317, 582, 583, 584, 585, 586, 522, 523, 524, 525, 451, 452, 453, 454, 762, 763, 764, 765, 35, 766, 880, 881, 882, 883, 884, 885, 886, 887, 928, 929, 930, 931, 932, 933, 934, 935, 936, 937, 938, 919, 920, 921, 922, 923, 924, 925, 926, 927, 942, 943, 944] (by decide +kernel) (by decide +kernel)
set_option maxRecDepth 20000 in
theorem gL_law_X5_loses : GoodIn wsL_law (wsV RL 118 RX5 yX5_loses wsX5_loses) := goodIn_app (goodIn_of _ (by decide +kernel)) ggL_law_X5_loses
set_option maxRecDepth 20000 in
theorem ggL_law_X6_loses : GoodIn wsL_law wsX6_loses := goodIn_r _ [770, 771, 772, 773, 5, 774, 219, 89, 462, 463, 464, 465, 99, 88, 101, 220, 91, 466, 92, 221, 93, 94, 100, 538, 539, 540, 541, 542, 543, 544, 545, 90, 549, 550, 551, 552, 483, 484, 485, 486, 223, 467, 468, 469, 470, 222, 95, 96, 305, 306, 307, 308, 97, 553, 554, 555, 556, 888, 889, 890, 891, 892, 893, 894, 895, 896, 897, 898, 899, 900, 901, 902, 903, 904, 905, 906, 907, 908, 909, 910, 911, 912, 913, 914, 915, 916, 917, 918] (by decide +kernel) (by decide +kernel)
set_option maxRecDepth 20000 in
theorem gL_law_X6_loses : GoodIn wsL_law (wsV RL 122 RX6 yX6_loses wsX6_loses) := goodIn_app (goodIn_of _ (by decide +kernel)) ggL_law_X6_loses
set_option maxRecDepth 20000 in
theorem ggL_law_X5_carries : GoodIn wsL_law wsX5_carries := goodIn_r _ [778, 20, 410, 411, 412, 19, 413, 69, 414, 56, 415, 416, 417, 418, 419, 65, 66, 67, 420, 68, 421, 422, 423, 15, 424, 43, 44, 425, 285, 286, 287, 42, 426, 427, 428, 429, 57, 430, 431, 432, 433, 203, 2, 204, 434, 435, 436, 437, 58, 438, 59, 439, 440, 441, 758, 759, 760, 761, 16, 317, 582, 583, 584, 585, 586, 522, 523, 524, 525, 451, 452, 453, 454, 762, 763, 764, 765, 35, 766, 880, 881, 882, 883, 884, 885, 886, 887, 928, 929, 930, 931, 932, 933, 934, 935, 936, 937, 938, 919, 920, 921, 922, 923, 924, 925, 926, 927, 942, 943, 944] (by decide +kernel) (by decide +kernel)
set_option maxRecDepth 20000 in
theorem gL_law_X5_carries : GoodIn wsL_law (wsV RL 123 RX5 yX5_carries wsX5_carries) := goodIn_app (goodIn_of _ (by decide +kernel)) ggL_law_X5_carries
set_option maxRecDepth 20000 in
theorem ggL_law_X6_carries : GoodIn wsL_law wsX6_carries := goodIn_r _ [782, 771, 772, 773, 5, 774, 219, 89, 462, 463, 464, 465, 99, 88, 101, 220, 91, 466, 92, 221, 93, 94, 100, 538, 539, 540, 541, 542, 543, 544, 545, 90, 549, 550, 551, 552, 483, 484, 485, 486, 223, 467, 468, 469, 470, 222, 95, 96, 305, 306, 307, 308, 97, 553, 554, 555, 556, 888, 889, 890, 891, 892, 893, 894, 895, 896, 897, 898, 899, 900, 901, 902, 903, 904, 905, 906, 907, 908, 909, 910, 911, 912, 913, 914, 915, 916, 917, 918] (by decide +kernel) (by decide +kernel)
set_option maxRecDepth 20000 in
theorem gL_law_X6_carries : GoodIn wsL_law (wsV RL 126 RX6 yX6_carries wsX6_carries) := goodIn_app (goodIn_of _ (by decide +kernel)) ggL_law_X6_carries
set_option maxRecDepth 20000 in
theorem ggL_law_X5_run : GoodIn wsL_law wsX5_run := goodIn_r _ [786, 20, 111, 112, 113, 2, 114, 27, 277, 278, 279, 410, 411, 412, 19, 413, 69, 414, 56, 415, 416, 417, 418, 419, 65, 66, 67, 420, 68, 421, 422, 423, 15, 424, 43, 44, 425, 285, 286, 287, 42, 426, 427, 428, 429, 57, 430, 431, 432, 433, 203, 204, 434, 435, 436, 437, 58, 438, 59, 439, 440, 441, 787, 788, 789, 790, 16, 317, 791, 792, 793, 342, 607, 608, 609, 610, 794, 795, 796, 797, 586, 522, 523, 524, 525, 451, 452, 453, 454, 880, 881, 882, 883, 884, 885, 886, 887, 928, 929, 930, 931, 932, 933, 934, 935, 936, 937, 938, 919, 920, 921, 922, 923, 924, 925, 926, 927, 942, 943, 944] (by decide +kernel) (by decide +kernel)
set_option maxRecDepth 20000 in
theorem gL_law_X5_run : GoodIn wsL_law (wsV RL 127 RX5 yX5_run wsX5_run) := goodIn_app (goodIn_of _ (by decide +kernel)) ggL_law_X5_run
set_option maxRecDepth 20000 in
theorem ggL_law_X6_run : GoodIn wsL_law wsX6_run := goodIn_r _ [801, 219, 802, 803, 804, 89, 459, 460, 5, 461, 128, 129, 130, 131, 87, 125, 126, 127, 462, 463, 464, 465, 99, 88, 101, 220, 91, 466, 92, 221, 93, 94, 100, 538, 539, 540, 541, 542, 543, 544, 545, 90, 553, 554, 555, 556, 483, 484, 485, 486, 223, 467, 468, 469, 470, 222, 95, 96, 305, 306, 307, 308, 97, 549, 550, 551, 552, 888, 889, 890, 891, 892, 893, 894, 895, 896, 897, 898, 899, 900, 901, 902, 903, 904, 905, 906, 907, 908, 909, 910, 911, 912, 913, 914, 915, 916, 917, 918] (by decide +kernel) (by decide +kernel)
set_option maxRecDepth 20000 in
theorem gL_law_X6_run : GoodIn wsL_law (wsV RL 130 RX6 yX6_run wsX6_run) := goodIn_app (goodIn_of _ (by decide +kernel)) ggL_law_X6_run
set_option maxRecDepth 20000 in
theorem ggL_law_X5_put : GoodIn wsL_law wsX5_put := goodIn_r _ [808, 29, 26, 111, 112, 113, 2, 114, 27, 880, 881, 882, 883, 884, 885, 886, 887] (by decide +kernel) (by decide +kernel)
set_option maxRecDepth 20000 in
theorem gL_law_X5_put : GoodIn wsL_law (wsV RL 131 RX5 yX5_put wsX5_put) := goodIn_app (goodIn_of _ (by decide +kernel)) ggL_law_X5_put
set_option maxRecDepth 20000 in
theorem ggL_law_X6_put : GoodIn wsL_law wsX6_put := goodIn_r _ [812, 813, 104, 125, 126, 5, 127, 128, 129, 130, 131, 87, 888, 889, 890, 891, 892, 893, 894, 895, 896, 897, 898, 899, 900, 901, 902, 903, 904, 905, 906, 907, 908, 909, 910, 911, 912, 913, 914, 915, 916, 917, 918] (by decide +kernel) (by decide +kernel)
set_option maxRecDepth 20000 in
theorem gL_law_X6_put : GoodIn wsL_law (wsV RL 134 RX6 yX6_put wsX6_put) := goodIn_app (goodIn_of _ (by decide +kernel)) ggL_law_X6_put
set_option maxRecDepth 20000 in
theorem ggL_law_X5_judge : GoodIn wsL_law wsX5_judge := goodIn_r _ [817, 20, 29, 111, 112, 113, 2, 114, 27, 410, 411, 412, 19, 413, 69, 414, 56, 415, 416, 417, 418, 419, 65, 66, 67, 420, 68, 421, 422, 423, 15, 424, 43, 44, 425, 285, 286, 287, 42, 426, 427, 428, 429, 57, 430, 431, 432, 433, 203, 204, 434, 435, 436, 437, 58, 438, 59, 439, 440, 441, 818, 819, 820, 821, 26, 607, 608, 609, 610, 794, 795, 796, 797, 586, 522, 523, 524, 525, 451, 452, 453, 454, 880, 881, 882, 883, 884, 885, 886, 887, 928, 929, 930, 931, 932, 933, 934, 935, 936, 937, 938, 919, 920, 921, 922, 923, 924, 925, 926, 927, 942, 943, 944] (by decide +kernel) (by decide +kernel)
set_option maxRecDepth 20000 in
theorem gL_law_X5_judge : GoodIn wsL_law (wsV RL 135 RX5 yX5_judge wsX5_judge) := goodIn_app (goodIn_of _ (by decide +kernel)) ggL_law_X5_judge
set_option maxRecDepth 20000 in
theorem ggL_law_X6_judge : GoodIn wsL_law wsX6_judge := goodIn_r _ [825, 813, 104, 459, 460, 5, 461, 128, 129, 130, 131, 87, 462, 463, 464, 465, 219, 99, 88, 101, 220, 91, 466, 92, 221, 93, 94, 100, 538, 539, 540, 541, 542, 543, 544, 545, 90, 553, 554, 555, 556, 483, 484, 485, 486, 223, 467, 468, 469, 470, 222, 95, 96, 305, 306, 307, 308, 97, 549, 550, 551, 552, 888, 889, 890, 891, 892, 893, 894, 895, 896, 897, 898, 899, 900, 901, 902, 903, 904, 905, 906, 907, 908, 909, 910, 911, 912, 913, 914, 915, 916, 917, 918] (by decide +kernel) (by decide +kernel)
set_option maxRecDepth 20000 in
theorem gL_law_X6_judge : GoodIn wsL_law (wsV RL 138 RX6 yX6_judge wsX6_judge) := goodIn_app (goodIn_of _ (by decide +kernel)) ggL_law_X6_judge
set_option maxRecDepth 20000 in
theorem ggL_law_X5_image : GoodIn wsL_law wsX5_image := goodIn_r _ [829, 30, 13, 14, 15, 16, 317, 31, 32, 33, 11, 12, 25, 34, 35, 36, 37, 38, 39, 40, 41, 42, 43, 44, 45, 46, 47, 48, 49, 50, 51, 830, 831, 832, 833, 834, 416, 417, 418, 835, 836, 837, 838, 839, 880, 881, 882, 883, 884, 885, 886, 887, 919, 920, 921, 922, 923, 924, 925, 926, 927, 942, 943, 944] (by decide +kernel) (by decide +kernel)
set_option maxRecDepth 20000 in
theorem gL_law_X5_image : GoodIn wsL_law (wsV RL 139 RX5 yX5_image wsX5_image) := goodIn_app (goodIn_of _ (by decide +kernel)) ggL_law_X5_image
set_option maxRecDepth 20000 in
theorem ggL_law_X6_image : GoodIn wsL_law wsX6_image := goodIn_r _ [843, 844, 845, 219, 846, 847, 848, 5, 849, 850, 88, 89, 90, 91, 92, 93, 94, 95, 96, 97, 220, 221, 222, 223, 851, 852, 853, 854, 105, 855, 856, 857, 858, 888, 889, 890, 891, 892, 893, 894, 895, 896, 897, 898, 899, 900, 901, 902, 903, 904, 905, 906, 907, 908, 909, 910, 911, 912, 913, 914, 915, 916, 917, 918] (by decide +kernel) (by decide +kernel)
set_option maxRecDepth 20000 in
theorem gL_law_X6_image : GoodIn wsL_law (wsV RL 142 RX6 yX6_image wsX6_image) := goodIn_app (goodIn_of _ (by decide +kernel)) ggL_law_X6_image
set_option maxRecDepth 20000 in
theorem ggL_law_X5_restore : GoodIn wsL_law wsX5_restore := goodIn_r _ [862, 30, 16, 317, 111, 112, 113, 2, 114, 27, 830, 831, 832, 15, 833, 34, 834, 416, 417, 418, 35, 39, 40, 41, 42, 43, 44, 45, 835, 836, 837, 38, 838, 49, 839, 50, 51, 880, 881, 882, 883, 884, 885, 886, 887, 919, 920, 921, 922, 923, 924, 925, 926, 927, 942, 943, 944] (by decide +kernel) (by decide +kernel)
set_option maxRecDepth 20000 in
theorem gL_law_X5_restore : GoodIn wsL_law (wsV RL 143 RX5 yX5_restore wsX5_restore) := goodIn_app (goodIn_of _ (by decide +kernel)) ggL_law_X5_restore
set_option maxRecDepth 20000 in
theorem ggL_law_X6_restore : GoodIn wsL_law wsX6_restore := goodIn_r _ [866, 845, 844, 219, 128, 129, 130, 5, 131, 87, 846, 847, 848, 849, 850, 88, 89, 90, 91, 92, 93, 94, 95, 96, 97, 220, 221, 222, 223, 851, 852, 853, 854, 105, 855, 856, 857, 858, 888, 889, 890, 891, 892, 893, 894, 895, 896, 897, 898, 899, 900, 901, 902, 903, 904, 905, 906, 907, 908, 909, 910, 911, 912, 913, 914, 915, 916, 917, 918] (by decide +kernel) (by decide +kernel)
set_option maxRecDepth 20000 in
theorem gL_law_X6_restore : GoodIn wsL_law (wsV RL 146 RX6 yX6_restore wsX6_restore) := goodIn_app (goodIn_of _ (by decide +kernel)) ggL_law_X6_restore
set_option maxRecDepth 20000 in
theorem ggL_law_X5_count : GoodIn wsL_law wsX5_count := goodIn_r _ [870, 16, 276, 317, 351, 360, 361, 382, 391, 24, 110, 29, 27, 871, 872, 873, 15, 874, 43, 34, 875, 504, 505, 506, 507, 508, 509, 880, 881, 882, 883, 884, 885, 886, 887, 919, 920, 921, 922, 923, 924, 925, 926, 927, 942, 943, 944, 939, 940, 941] (by decide +kernel) (by decide +kernel)
set_option maxRecDepth 20000 in
theorem gL_law_X5_count : GoodIn wsL_law (wsV RL 147 RX5 yX5_count wsX5_count) := goodIn_app (goodIn_of _ (by decide +kernel)) ggL_law_X5_count
set_option maxRecDepth 20000 in
theorem ggL_law_X6_count : GoodIn wsL_law wsX6_count := goodIn_r _ [879, 87, 97, 219, 220, 221, 222, 88, 123, 813, 459, 460, 5, 461, 542, 543, 544, 545, 90, 546, 547, 548, 888, 889, 890, 891, 892, 893, 894, 895, 896, 897, 898, 899, 900, 901, 902, 903, 904, 905, 906, 907, 908, 909, 910, 911, 912, 913, 914, 915, 916, 917, 918] (by decide +kernel) (by decide +kernel)
set_option maxRecDepth 20000 in
theorem gL_law_X6_count : GoodIn wsL_law (wsV RL 150 RX6 yX6_count wsX6_count) := goodIn_app (goodIn_of _ (by decide +kernel)) ggL_law_X6_count
theorem dL_law_0 : decode cL_law 0 = .ok (.new 7, 3) := by decide +kernel
theorem dL_law_3 : decode cL_law 3 = .ok (.dup, 1) := by decide +kernel
theorem dL_law_4 : decode cL_law 4 = .ok (.invokespecial 9, 3) := by decide +kernel
theorem dL_law_7 : decode cL_law 7 = .ok (.astore_n 1, 1) := by decide +kernel
theorem dL_law_8 : decode cL_law 8 = .ok (.new 10, 3) := by decide +kernel
theorem dL_law_11 : decode cL_law 11 = .ok (.dup, 1) := by decide +kernel
theorem dL_law_12 : decode cL_law 12 = .ok (.invokespecial 12, 3) := by decide +kernel
theorem dL_law_15 : decode cL_law 15 = .ok (.astore_n 2, 1) := by decide +kernel
theorem dL_law_16 : decode cL_law 16 = .ok (.iconst 0, 1) := by decide +kernel
theorem dL_law_17 : decode cL_law 17 = .ok (.istore_n 3, 1) := by decide +kernel
theorem dL_law_18 : decode cL_law 18 = .ok (.iload_n 3, 1) := by decide +kernel
theorem dL_law_19 : decode cL_law 19 = .ok (.aload_n 0, 1) := by decide +kernel
theorem dL_law_20 : decode cL_law 20 = .ok (.arraylength, 1) := by decide +kernel
theorem dL_law_21 : decode cL_law 21 = .ok (.iconst 4, 1) := by decide +kernel
theorem dL_law_22 : decode cL_law 22 = .ok (.isub, 1) := by decide +kernel
theorem dL_law_23 : decode cL_law 23 = .ok (.if_icmp .gt 1085, 3) := by decide +kernel
theorem dL_law_26 : decode cL_law 26 = .ok (.aload_n 0, 1) := by decide +kernel
theorem dL_law_27 : decode cL_law 27 = .ok (.iload_n 3, 1) := by decide +kernel
theorem dL_law_28 : decode cL_law 28 = .ok (.iaload, 1) := by decide +kernel
theorem dL_law_29 : decode cL_law 29 = .ok (.bipush 31, 2) := by decide +kernel
theorem dL_law_31 : decode cL_law 31 = .ok (.iand, 1) := by decide +kernel
theorem dL_law_32 : decode cL_law 32 = .ok (.tableswitch 1070 0 31 #[144, 207, 220, 243, 266, 325, 358, 407, 440, 473, 506, 529, 562, 611, 634, 657, 670, 683, 696, 739, 782, 805, 828, 871, 904, 918, 932, 975, 998, 1021, 1034, 1047], 144) := by decide +kernel
theorem dL_law_176 : decode cL_law 176 = .ok (.aload_n 1, 1) := by decide +kernel
theorem dL_law_177 : decode cL_law 177 = .ok (.aload_n 0, 1) := by decide +kernel
theorem dL_law_178 : decode cL_law 178 = .ok (.iload_n 3, 1) := by decide +kernel
theorem dL_law_179 : decode cL_law 179 = .ok (.iconst 1, 1) := by decide +kernel
theorem dL_law_180 : decode cL_law 180 = .ok (.iadd, 1) := by decide +kernel
theorem dL_law_181 : decode cL_law 181 = .ok (.iaload, 1) := by decide +kernel
theorem dL_law_182 : decode cL_law 182 = .ok (.aload_n 0, 1) := by decide +kernel
theorem dL_law_183 : decode cL_law 183 = .ok (.iload_n 3, 1) := by decide +kernel
theorem dL_law_184 : decode cL_law 184 = .ok (.iconst 2, 1) := by decide +kernel
theorem dL_law_185 : decode cL_law 185 = .ok (.iadd, 1) := by decide +kernel
theorem dL_law_186 : decode cL_law 186 = .ok (.iaload, 1) := by decide +kernel
theorem dL_law_187 : decode cL_law 187 = .ok (.i2l, 1) := by decide +kernel
theorem dL_law_188 : decode cL_law 188 = .ok (.bipush 32, 2) := by decide +kernel
theorem dL_law_190 : decode cL_law 190 = .ok (.lshl, 1) := by decide +kernel
theorem dL_law_191 : decode cL_law 191 = .ok (.aload_n 0, 1) := by decide +kernel
theorem dL_law_192 : decode cL_law 192 = .ok (.iload_n 3, 1) := by decide +kernel
theorem dL_law_193 : decode cL_law 193 = .ok (.iconst 3, 1) := by decide +kernel
theorem dL_law_194 : decode cL_law 194 = .ok (.iadd, 1) := by decide +kernel
theorem dL_law_195 : decode cL_law 195 = .ok (.iaload, 1) := by decide +kernel
theorem dL_law_196 : decode cL_law 196 = .ok (.i2l, 1) := by decide +kernel
theorem dL_law_197 : decode cL_law 197 = .ok (.ldc2_w 13, 3) := by decide +kernel
theorem dL_law_200 : decode cL_law 200 = .ok (.land, 1) := by decide +kernel
theorem dL_law_201 : decode cL_law 201 = .ok (.lor, 1) := by decide +kernel
theorem dL_law_202 : decode cL_law 202 = .ok (.invokevirtual 15, 3) := by decide +kernel
theorem dL_law_205 : decode cL_law 205 = .ok (.aload_n 2, 1) := by decide +kernel
theorem dL_law_206 : decode cL_law 206 = .ok (.aload_n 0, 1) := by decide +kernel
theorem dL_law_207 : decode cL_law 207 = .ok (.iload_n 3, 1) := by decide +kernel
theorem dL_law_208 : decode cL_law 208 = .ok (.iconst 1, 1) := by decide +kernel
theorem dL_law_209 : decode cL_law 209 = .ok (.iadd, 1) := by decide +kernel
theorem dL_law_210 : decode cL_law 210 = .ok (.iaload, 1) := by decide +kernel
theorem dL_law_211 : decode cL_law 211 = .ok (.aload_n 0, 1) := by decide +kernel
theorem dL_law_212 : decode cL_law 212 = .ok (.iload_n 3, 1) := by decide +kernel
theorem dL_law_213 : decode cL_law 213 = .ok (.iconst 2, 1) := by decide +kernel
theorem dL_law_214 : decode cL_law 214 = .ok (.iadd, 1) := by decide +kernel
theorem dL_law_215 : decode cL_law 215 = .ok (.iaload, 1) := by decide +kernel
theorem dL_law_216 : decode cL_law 216 = .ok (.i2l, 1) := by decide +kernel
theorem dL_law_217 : decode cL_law 217 = .ok (.bipush 32, 2) := by decide +kernel
theorem dL_law_219 : decode cL_law 219 = .ok (.lshl, 1) := by decide +kernel
theorem dL_law_220 : decode cL_law 220 = .ok (.aload_n 0, 1) := by decide +kernel
theorem dL_law_221 : decode cL_law 221 = .ok (.iload_n 3, 1) := by decide +kernel
theorem dL_law_222 : decode cL_law 222 = .ok (.iconst 3, 1) := by decide +kernel
theorem dL_law_223 : decode cL_law 223 = .ok (.iadd, 1) := by decide +kernel
theorem dL_law_224 : decode cL_law 224 = .ok (.iaload, 1) := by decide +kernel
theorem dL_law_225 : decode cL_law 225 = .ok (.i2l, 1) := by decide +kernel
theorem dL_law_226 : decode cL_law 226 = .ok (.ldc2_w 13, 3) := by decide +kernel
theorem dL_law_229 : decode cL_law 229 = .ok (.land, 1) := by decide +kernel
theorem dL_law_230 : decode cL_law 230 = .ok (.lor, 1) := by decide +kernel
theorem dL_law_231 : decode cL_law 231 = .ok (.invokevirtual 19, 3) := by decide +kernel
theorem dL_law_234 : decode cL_law 234 = .ok (.if_icmp .eq 868, 3) := by decide +kernel
theorem dL_law_237 : decode cL_law 237 = .ok (.iconst 0, 1) := by decide +kernel
theorem dL_law_238 : decode cL_law 238 = .ok (.ireturn, 1) := by decide +kernel
theorem dL_law_239 : decode cL_law 239 = .ok (.aload_n 1, 1) := by decide +kernel
theorem dL_law_240 : decode cL_law 240 = .ok (.invokevirtual 20, 3) := by decide +kernel
theorem dL_law_243 : decode cL_law 243 = .ok (.aload_n 2, 1) := by decide +kernel
theorem dL_law_244 : decode cL_law 244 = .ok (.invokevirtual 24, 3) := by decide +kernel
theorem dL_law_247 : decode cL_law 247 = .ok (.if_icmp .eq 855, 3) := by decide +kernel
theorem dL_law_250 : decode cL_law 250 = .ok (.iconst 0, 1) := by decide +kernel
theorem dL_law_251 : decode cL_law 251 = .ok (.ireturn, 1) := by decide +kernel
theorem dL_law_252 : decode cL_law 252 = .ok (.aload_n 1, 1) := by decide +kernel
theorem dL_law_253 : decode cL_law 253 = .ok (.aload_n 0, 1) := by decide +kernel
theorem dL_law_254 : decode cL_law 254 = .ok (.iload_n 3, 1) := by decide +kernel
theorem dL_law_255 : decode cL_law 255 = .ok (.iconst 1, 1) := by decide +kernel
theorem dL_law_256 : decode cL_law 256 = .ok (.iadd, 1) := by decide +kernel
theorem dL_law_257 : decode cL_law 257 = .ok (.iaload, 1) := by decide +kernel
theorem dL_law_258 : decode cL_law 258 = .ok (.invokevirtual 25, 3) := by decide +kernel
theorem dL_law_261 : decode cL_law 261 = .ok (.aload_n 2, 1) := by decide +kernel
theorem dL_law_262 : decode cL_law 262 = .ok (.aload_n 0, 1) := by decide +kernel
theorem dL_law_263 : decode cL_law 263 = .ok (.iload_n 3, 1) := by decide +kernel
theorem dL_law_264 : decode cL_law 264 = .ok (.iconst 1, 1) := by decide +kernel
theorem dL_law_265 : decode cL_law 265 = .ok (.iadd, 1) := by decide +kernel
theorem dL_law_266 : decode cL_law 266 = .ok (.iaload, 1) := by decide +kernel
theorem dL_law_267 : decode cL_law 267 = .ok (.invokevirtual 29, 3) := by decide +kernel
theorem dL_law_270 : decode cL_law 270 = .ok (.if_icmp .eq 832, 3) := by decide +kernel
theorem dL_law_273 : decode cL_law 273 = .ok (.iconst 0, 1) := by decide +kernel
theorem dL_law_274 : decode cL_law 274 = .ok (.ireturn, 1) := by decide +kernel
theorem dL_law_275 : decode cL_law 275 = .ok (.aload_n 1, 1) := by decide +kernel
theorem dL_law_276 : decode cL_law 276 = .ok (.aload_n 0, 1) := by decide +kernel
theorem dL_law_277 : decode cL_law 277 = .ok (.iload_n 3, 1) := by decide +kernel
theorem dL_law_278 : decode cL_law 278 = .ok (.iconst 1, 1) := by decide +kernel
theorem dL_law_279 : decode cL_law 279 = .ok (.iadd, 1) := by decide +kernel
theorem dL_law_280 : decode cL_law 280 = .ok (.iaload, 1) := by decide +kernel
theorem dL_law_281 : decode cL_law 281 = .ok (.invokevirtual 30, 3) := by decide +kernel
theorem dL_law_284 : decode cL_law 284 = .ok (.aload_n 2, 1) := by decide +kernel
theorem dL_law_285 : decode cL_law 285 = .ok (.aload_n 0, 1) := by decide +kernel
theorem dL_law_286 : decode cL_law 286 = .ok (.iload_n 3, 1) := by decide +kernel
theorem dL_law_287 : decode cL_law 287 = .ok (.iconst 1, 1) := by decide +kernel
theorem dL_law_288 : decode cL_law 288 = .ok (.iadd, 1) := by decide +kernel
theorem dL_law_289 : decode cL_law 289 = .ok (.iaload, 1) := by decide +kernel
theorem dL_law_290 : decode cL_law 290 = .ok (.invokevirtual 33, 3) := by decide +kernel
theorem dL_law_293 : decode cL_law 293 = .ok (.if_icmp .eq 809, 3) := by decide +kernel
theorem dL_law_296 : decode cL_law 296 = .ok (.iconst 0, 1) := by decide +kernel
theorem dL_law_297 : decode cL_law 297 = .ok (.ireturn, 1) := by decide +kernel
theorem dL_law_298 : decode cL_law 298 = .ok (.aload_n 1, 1) := by decide +kernel
theorem dL_law_299 : decode cL_law 299 = .ok (.aload_n 0, 1) := by decide +kernel
theorem dL_law_300 : decode cL_law 300 = .ok (.iload_n 3, 1) := by decide +kernel
theorem dL_law_301 : decode cL_law 301 = .ok (.iconst 1, 1) := by decide +kernel
theorem dL_law_302 : decode cL_law 302 = .ok (.iadd, 1) := by decide +kernel
theorem dL_law_303 : decode cL_law 303 = .ok (.iaload, 1) := by decide +kernel
theorem dL_law_304 : decode cL_law 304 = .ok (.aload_n 0, 1) := by decide +kernel
theorem dL_law_305 : decode cL_law 305 = .ok (.iload_n 3, 1) := by decide +kernel
theorem dL_law_306 : decode cL_law 306 = .ok (.iconst 2, 1) := by decide +kernel
theorem dL_law_307 : decode cL_law 307 = .ok (.iadd, 1) := by decide +kernel
theorem dL_law_308 : decode cL_law 308 = .ok (.iaload, 1) := by decide +kernel
theorem dL_law_309 : decode cL_law 309 = .ok (.aload_n 0, 1) := by decide +kernel
theorem dL_law_310 : decode cL_law 310 = .ok (.iload_n 3, 1) := by decide +kernel
theorem dL_law_311 : decode cL_law 311 = .ok (.iconst 3, 1) := by decide +kernel
theorem dL_law_312 : decode cL_law 312 = .ok (.iadd, 1) := by decide +kernel
theorem dL_law_313 : decode cL_law 313 = .ok (.iaload, 1) := by decide +kernel
theorem dL_law_314 : decode cL_law 314 = .ok (.ifCond .eq 7, 3) := by decide +kernel
theorem dL_law_317 : decode cL_law 317 = .ok (.iconst 1, 1) := by decide +kernel
theorem dL_law_318 : decode cL_law 318 = .ok (.goto 4, 3) := by decide +kernel
theorem dL_law_321 : decode cL_law 321 = .ok (.iconst 0, 1) := by decide +kernel
theorem dL_law_322 : decode cL_law 322 = .ok (.invokevirtual 34, 3) := by decide +kernel
theorem dL_law_325 : decode cL_law 325 = .ok (.aload_n 2, 1) := by decide +kernel
theorem dL_law_326 : decode cL_law 326 = .ok (.aload_n 0, 1) := by decide +kernel
theorem dL_law_327 : decode cL_law 327 = .ok (.iload_n 3, 1) := by decide +kernel
theorem dL_law_328 : decode cL_law 328 = .ok (.iconst 1, 1) := by decide +kernel
theorem dL_law_329 : decode cL_law 329 = .ok (.iadd, 1) := by decide +kernel
theorem dL_law_330 : decode cL_law 330 = .ok (.iaload, 1) := by decide +kernel
theorem dL_law_331 : decode cL_law 331 = .ok (.aload_n 0, 1) := by decide +kernel
theorem dL_law_332 : decode cL_law 332 = .ok (.iload_n 3, 1) := by decide +kernel
theorem dL_law_333 : decode cL_law 333 = .ok (.iconst 2, 1) := by decide +kernel
theorem dL_law_334 : decode cL_law 334 = .ok (.iadd, 1) := by decide +kernel
theorem dL_law_335 : decode cL_law 335 = .ok (.iaload, 1) := by decide +kernel
theorem dL_law_336 : decode cL_law 336 = .ok (.aload_n 0, 1) := by decide +kernel
theorem dL_law_337 : decode cL_law 337 = .ok (.iload_n 3, 1) := by decide +kernel
theorem dL_law_338 : decode cL_law 338 = .ok (.iconst 3, 1) := by decide +kernel
theorem dL_law_339 : decode cL_law 339 = .ok (.iadd, 1) := by decide +kernel
theorem dL_law_340 : decode cL_law 340 = .ok (.iaload, 1) := by decide +kernel
theorem dL_law_341 : decode cL_law 341 = .ok (.ifCond .eq 7, 3) := by decide +kernel
theorem dL_law_344 : decode cL_law 344 = .ok (.iconst 1, 1) := by decide +kernel
theorem dL_law_345 : decode cL_law 345 = .ok (.goto 4, 3) := by decide +kernel
theorem dL_law_348 : decode cL_law 348 = .ok (.iconst 0, 1) := by decide +kernel
theorem dL_law_349 : decode cL_law 349 = .ok (.invokevirtual 38, 3) := by decide +kernel
theorem dL_law_352 : decode cL_law 352 = .ok (.if_icmp .eq 750, 3) := by decide +kernel
theorem dL_law_355 : decode cL_law 355 = .ok (.iconst 0, 1) := by decide +kernel
theorem dL_law_356 : decode cL_law 356 = .ok (.ireturn, 1) := by decide +kernel
theorem dL_law_357 : decode cL_law 357 = .ok (.aload_n 1, 1) := by decide +kernel
theorem dL_law_358 : decode cL_law 358 = .ok (.aload_n 0, 1) := by decide +kernel
theorem dL_law_359 : decode cL_law 359 = .ok (.iload_n 3, 1) := by decide +kernel
theorem dL_law_360 : decode cL_law 360 = .ok (.iconst 1, 1) := by decide +kernel
theorem dL_law_361 : decode cL_law 361 = .ok (.iadd, 1) := by decide +kernel
theorem dL_law_362 : decode cL_law 362 = .ok (.iaload, 1) := by decide +kernel
theorem dL_law_363 : decode cL_law 363 = .ok (.aload_n 0, 1) := by decide +kernel
theorem dL_law_364 : decode cL_law 364 = .ok (.iload_n 3, 1) := by decide +kernel
theorem dL_law_365 : decode cL_law 365 = .ok (.iconst 2, 1) := by decide +kernel
theorem dL_law_366 : decode cL_law 366 = .ok (.iadd, 1) := by decide +kernel
theorem dL_law_367 : decode cL_law 367 = .ok (.iaload, 1) := by decide +kernel
theorem dL_law_368 : decode cL_law 368 = .ok (.invokevirtual 39, 3) := by decide +kernel
theorem dL_law_371 : decode cL_law 371 = .ok (.aload_n 2, 1) := by decide +kernel
theorem dL_law_372 : decode cL_law 372 = .ok (.aload_n 0, 1) := by decide +kernel
theorem dL_law_373 : decode cL_law 373 = .ok (.iload_n 3, 1) := by decide +kernel
theorem dL_law_374 : decode cL_law 374 = .ok (.iconst 1, 1) := by decide +kernel
theorem dL_law_375 : decode cL_law 375 = .ok (.iadd, 1) := by decide +kernel
theorem dL_law_376 : decode cL_law 376 = .ok (.iaload, 1) := by decide +kernel
theorem dL_law_377 : decode cL_law 377 = .ok (.aload_n 0, 1) := by decide +kernel
theorem dL_law_378 : decode cL_law 378 = .ok (.iload_n 3, 1) := by decide +kernel
theorem dL_law_379 : decode cL_law 379 = .ok (.iconst 2, 1) := by decide +kernel
theorem dL_law_380 : decode cL_law 380 = .ok (.iadd, 1) := by decide +kernel
theorem dL_law_381 : decode cL_law 381 = .ok (.iaload, 1) := by decide +kernel
theorem dL_law_382 : decode cL_law 382 = .ok (.invokevirtual 43, 3) := by decide +kernel
theorem dL_law_385 : decode cL_law 385 = .ok (.if_icmp .eq 717, 3) := by decide +kernel
theorem dL_law_388 : decode cL_law 388 = .ok (.iconst 0, 1) := by decide +kernel
theorem dL_law_389 : decode cL_law 389 = .ok (.ireturn, 1) := by decide +kernel
theorem dL_law_390 : decode cL_law 390 = .ok (.aload_n 1, 1) := by decide +kernel
theorem dL_law_391 : decode cL_law 391 = .ok (.aload_n 0, 1) := by decide +kernel
theorem dL_law_392 : decode cL_law 392 = .ok (.iload_n 3, 1) := by decide +kernel
theorem dL_law_393 : decode cL_law 393 = .ok (.iconst 1, 1) := by decide +kernel
theorem dL_law_394 : decode cL_law 394 = .ok (.iadd, 1) := by decide +kernel
theorem dL_law_395 : decode cL_law 395 = .ok (.iaload, 1) := by decide +kernel
theorem dL_law_396 : decode cL_law 396 = .ok (.aload_n 0, 1) := by decide +kernel
theorem dL_law_397 : decode cL_law 397 = .ok (.iload_n 3, 1) := by decide +kernel
theorem dL_law_398 : decode cL_law 398 = .ok (.iconst 2, 1) := by decide +kernel
theorem dL_law_399 : decode cL_law 399 = .ok (.iadd, 1) := by decide +kernel
theorem dL_law_400 : decode cL_law 400 = .ok (.iaload, 1) := by decide +kernel
theorem dL_law_401 : decode cL_law 401 = .ok (.ifCond .eq 7, 3) := by decide +kernel
theorem dL_law_404 : decode cL_law 404 = .ok (.iconst 1, 1) := by decide +kernel
theorem dL_law_405 : decode cL_law 405 = .ok (.goto 4, 3) := by decide +kernel
theorem dL_law_408 : decode cL_law 408 = .ok (.iconst 0, 1) := by decide +kernel
theorem dL_law_409 : decode cL_law 409 = .ok (.invokevirtual 44, 3) := by decide +kernel
theorem dL_law_412 : decode cL_law 412 = .ok (.aload_n 2, 1) := by decide +kernel
theorem dL_law_413 : decode cL_law 413 = .ok (.aload_n 0, 1) := by decide +kernel
theorem dL_law_414 : decode cL_law 414 = .ok (.iload_n 3, 1) := by decide +kernel
theorem dL_law_415 : decode cL_law 415 = .ok (.iconst 1, 1) := by decide +kernel
theorem dL_law_416 : decode cL_law 416 = .ok (.iadd, 1) := by decide +kernel
theorem dL_law_417 : decode cL_law 417 = .ok (.iaload, 1) := by decide +kernel
theorem dL_law_418 : decode cL_law 418 = .ok (.aload_n 0, 1) := by decide +kernel
theorem dL_law_419 : decode cL_law 419 = .ok (.iload_n 3, 1) := by decide +kernel
theorem dL_law_420 : decode cL_law 420 = .ok (.iconst 2, 1) := by decide +kernel
theorem dL_law_421 : decode cL_law 421 = .ok (.iadd, 1) := by decide +kernel
theorem dL_law_422 : decode cL_law 422 = .ok (.iaload, 1) := by decide +kernel
theorem dL_law_423 : decode cL_law 423 = .ok (.ifCond .eq 7, 3) := by decide +kernel
theorem dL_law_426 : decode cL_law 426 = .ok (.iconst 1, 1) := by decide +kernel
theorem dL_law_427 : decode cL_law 427 = .ok (.goto 4, 3) := by decide +kernel
theorem dL_law_430 : decode cL_law 430 = .ok (.iconst 0, 1) := by decide +kernel
theorem dL_law_431 : decode cL_law 431 = .ok (.invokevirtual 48, 3) := by decide +kernel
theorem dL_law_434 : decode cL_law 434 = .ok (.if_icmp .eq 668, 3) := by decide +kernel
theorem dL_law_437 : decode cL_law 437 = .ok (.iconst 0, 1) := by decide +kernel
theorem dL_law_438 : decode cL_law 438 = .ok (.ireturn, 1) := by decide +kernel
theorem dL_law_439 : decode cL_law 439 = .ok (.aload_n 1, 1) := by decide +kernel
theorem dL_law_440 : decode cL_law 440 = .ok (.aload_n 0, 1) := by decide +kernel
theorem dL_law_441 : decode cL_law 441 = .ok (.iload_n 3, 1) := by decide +kernel
theorem dL_law_442 : decode cL_law 442 = .ok (.iconst 1, 1) := by decide +kernel
theorem dL_law_443 : decode cL_law 443 = .ok (.iadd, 1) := by decide +kernel
theorem dL_law_444 : decode cL_law 444 = .ok (.iaload, 1) := by decide +kernel
theorem dL_law_445 : decode cL_law 445 = .ok (.aload_n 0, 1) := by decide +kernel
theorem dL_law_446 : decode cL_law 446 = .ok (.iload_n 3, 1) := by decide +kernel
theorem dL_law_447 : decode cL_law 447 = .ok (.iconst 2, 1) := by decide +kernel
theorem dL_law_448 : decode cL_law 448 = .ok (.iadd, 1) := by decide +kernel
theorem dL_law_449 : decode cL_law 449 = .ok (.iaload, 1) := by decide +kernel
theorem dL_law_450 : decode cL_law 450 = .ok (.invokevirtual 49, 3) := by decide +kernel
theorem dL_law_453 : decode cL_law 453 = .ok (.aload_n 2, 1) := by decide +kernel
theorem dL_law_454 : decode cL_law 454 = .ok (.aload_n 0, 1) := by decide +kernel
theorem dL_law_455 : decode cL_law 455 = .ok (.iload_n 3, 1) := by decide +kernel
theorem dL_law_456 : decode cL_law 456 = .ok (.iconst 1, 1) := by decide +kernel
theorem dL_law_457 : decode cL_law 457 = .ok (.iadd, 1) := by decide +kernel
theorem dL_law_458 : decode cL_law 458 = .ok (.iaload, 1) := by decide +kernel
theorem dL_law_459 : decode cL_law 459 = .ok (.aload_n 0, 1) := by decide +kernel
theorem dL_law_460 : decode cL_law 460 = .ok (.iload_n 3, 1) := by decide +kernel
theorem dL_law_461 : decode cL_law 461 = .ok (.iconst 2, 1) := by decide +kernel
theorem dL_law_462 : decode cL_law 462 = .ok (.iadd, 1) := by decide +kernel
theorem dL_law_463 : decode cL_law 463 = .ok (.iaload, 1) := by decide +kernel
theorem dL_law_464 : decode cL_law 464 = .ok (.invokevirtual 52, 3) := by decide +kernel
theorem dL_law_467 : decode cL_law 467 = .ok (.if_icmp .eq 635, 3) := by decide +kernel
theorem dL_law_470 : decode cL_law 470 = .ok (.iconst 0, 1) := by decide +kernel
theorem dL_law_471 : decode cL_law 471 = .ok (.ireturn, 1) := by decide +kernel
theorem dL_law_472 : decode cL_law 472 = .ok (.aload_n 1, 1) := by decide +kernel
theorem dL_law_473 : decode cL_law 473 = .ok (.aload_n 0, 1) := by decide +kernel
theorem dL_law_474 : decode cL_law 474 = .ok (.iload_n 3, 1) := by decide +kernel
theorem dL_law_475 : decode cL_law 475 = .ok (.iconst 1, 1) := by decide +kernel
theorem dL_law_476 : decode cL_law 476 = .ok (.iadd, 1) := by decide +kernel
theorem dL_law_477 : decode cL_law 477 = .ok (.iaload, 1) := by decide +kernel
theorem dL_law_478 : decode cL_law 478 = .ok (.aload_n 0, 1) := by decide +kernel
theorem dL_law_479 : decode cL_law 479 = .ok (.iload_n 3, 1) := by decide +kernel
theorem dL_law_480 : decode cL_law 480 = .ok (.iconst 2, 1) := by decide +kernel
theorem dL_law_481 : decode cL_law 481 = .ok (.iadd, 1) := by decide +kernel
theorem dL_law_482 : decode cL_law 482 = .ok (.iaload, 1) := by decide +kernel
theorem dL_law_483 : decode cL_law 483 = .ok (.invokevirtual 53, 3) := by decide +kernel
theorem dL_law_486 : decode cL_law 486 = .ok (.aload_n 2, 1) := by decide +kernel
theorem dL_law_487 : decode cL_law 487 = .ok (.aload_n 0, 1) := by decide +kernel
theorem dL_law_488 : decode cL_law 488 = .ok (.iload_n 3, 1) := by decide +kernel
theorem dL_law_489 : decode cL_law 489 = .ok (.iconst 1, 1) := by decide +kernel
theorem dL_law_490 : decode cL_law 490 = .ok (.iadd, 1) := by decide +kernel
theorem dL_law_491 : decode cL_law 491 = .ok (.iaload, 1) := by decide +kernel
theorem dL_law_492 : decode cL_law 492 = .ok (.aload_n 0, 1) := by decide +kernel
theorem dL_law_493 : decode cL_law 493 = .ok (.iload_n 3, 1) := by decide +kernel
theorem dL_law_494 : decode cL_law 494 = .ok (.iconst 2, 1) := by decide +kernel
theorem dL_law_495 : decode cL_law 495 = .ok (.iadd, 1) := by decide +kernel
theorem dL_law_496 : decode cL_law 496 = .ok (.iaload, 1) := by decide +kernel
theorem dL_law_497 : decode cL_law 497 = .ok (.invokevirtual 56, 3) := by decide +kernel
theorem dL_law_500 : decode cL_law 500 = .ok (.if_icmp .eq 602, 3) := by decide +kernel
theorem dL_law_503 : decode cL_law 503 = .ok (.iconst 0, 1) := by decide +kernel
theorem dL_law_504 : decode cL_law 504 = .ok (.ireturn, 1) := by decide +kernel
theorem dL_law_505 : decode cL_law 505 = .ok (.aload_n 1, 1) := by decide +kernel
theorem dL_law_506 : decode cL_law 506 = .ok (.aload_n 0, 1) := by decide +kernel
theorem dL_law_507 : decode cL_law 507 = .ok (.iload_n 3, 1) := by decide +kernel
theorem dL_law_508 : decode cL_law 508 = .ok (.iconst 1, 1) := by decide +kernel
theorem dL_law_509 : decode cL_law 509 = .ok (.iadd, 1) := by decide +kernel
theorem dL_law_510 : decode cL_law 510 = .ok (.iaload, 1) := by decide +kernel
theorem dL_law_511 : decode cL_law 511 = .ok (.aload_n 0, 1) := by decide +kernel
theorem dL_law_512 : decode cL_law 512 = .ok (.iload_n 3, 1) := by decide +kernel
theorem dL_law_513 : decode cL_law 513 = .ok (.iconst 2, 1) := by decide +kernel
theorem dL_law_514 : decode cL_law 514 = .ok (.iadd, 1) := by decide +kernel
theorem dL_law_515 : decode cL_law 515 = .ok (.iaload, 1) := by decide +kernel
theorem dL_law_516 : decode cL_law 516 = .ok (.invokevirtual 57, 3) := by decide +kernel
theorem dL_law_519 : decode cL_law 519 = .ok (.aload_n 2, 1) := by decide +kernel
theorem dL_law_520 : decode cL_law 520 = .ok (.aload_n 0, 1) := by decide +kernel
theorem dL_law_521 : decode cL_law 521 = .ok (.iload_n 3, 1) := by decide +kernel
theorem dL_law_522 : decode cL_law 522 = .ok (.iconst 1, 1) := by decide +kernel
theorem dL_law_523 : decode cL_law 523 = .ok (.iadd, 1) := by decide +kernel
theorem dL_law_524 : decode cL_law 524 = .ok (.iaload, 1) := by decide +kernel
theorem dL_law_525 : decode cL_law 525 = .ok (.aload_n 0, 1) := by decide +kernel
theorem dL_law_526 : decode cL_law 526 = .ok (.iload_n 3, 1) := by decide +kernel
theorem dL_law_527 : decode cL_law 527 = .ok (.iconst 2, 1) := by decide +kernel
theorem dL_law_528 : decode cL_law 528 = .ok (.iadd, 1) := by decide +kernel
theorem dL_law_529 : decode cL_law 529 = .ok (.iaload, 1) := by decide +kernel
theorem dL_law_530 : decode cL_law 530 = .ok (.invokevirtual 60, 3) := by decide +kernel
theorem dL_law_533 : decode cL_law 533 = .ok (.if_icmp .eq 569, 3) := by decide +kernel
theorem dL_law_536 : decode cL_law 536 = .ok (.iconst 0, 1) := by decide +kernel
theorem dL_law_537 : decode cL_law 537 = .ok (.ireturn, 1) := by decide +kernel
theorem dL_law_538 : decode cL_law 538 = .ok (.aload_n 1, 1) := by decide +kernel
theorem dL_law_539 : decode cL_law 539 = .ok (.aload_n 0, 1) := by decide +kernel
theorem dL_law_540 : decode cL_law 540 = .ok (.iload_n 3, 1) := by decide +kernel
theorem dL_law_541 : decode cL_law 541 = .ok (.iconst 1, 1) := by decide +kernel
theorem dL_law_542 : decode cL_law 542 = .ok (.iadd, 1) := by decide +kernel
theorem dL_law_543 : decode cL_law 543 = .ok (.iaload, 1) := by decide +kernel
theorem dL_law_544 : decode cL_law 544 = .ok (.invokevirtual 61, 3) := by decide +kernel
theorem dL_law_547 : decode cL_law 547 = .ok (.aload_n 2, 1) := by decide +kernel
theorem dL_law_548 : decode cL_law 548 = .ok (.aload_n 0, 1) := by decide +kernel
theorem dL_law_549 : decode cL_law 549 = .ok (.iload_n 3, 1) := by decide +kernel
theorem dL_law_550 : decode cL_law 550 = .ok (.iconst 1, 1) := by decide +kernel
theorem dL_law_551 : decode cL_law 551 = .ok (.iadd, 1) := by decide +kernel
theorem dL_law_552 : decode cL_law 552 = .ok (.iaload, 1) := by decide +kernel
theorem dL_law_553 : decode cL_law 553 = .ok (.invokevirtual 64, 3) := by decide +kernel
theorem dL_law_556 : decode cL_law 556 = .ok (.if_icmp .eq 546, 3) := by decide +kernel
theorem dL_law_559 : decode cL_law 559 = .ok (.iconst 0, 1) := by decide +kernel
theorem dL_law_560 : decode cL_law 560 = .ok (.ireturn, 1) := by decide +kernel
theorem dL_law_561 : decode cL_law 561 = .ok (.aload_n 1, 1) := by decide +kernel
theorem dL_law_562 : decode cL_law 562 = .ok (.aload_n 0, 1) := by decide +kernel
theorem dL_law_563 : decode cL_law 563 = .ok (.iload_n 3, 1) := by decide +kernel
theorem dL_law_564 : decode cL_law 564 = .ok (.iconst 1, 1) := by decide +kernel
theorem dL_law_565 : decode cL_law 565 = .ok (.iadd, 1) := by decide +kernel
theorem dL_law_566 : decode cL_law 566 = .ok (.iaload, 1) := by decide +kernel
theorem dL_law_567 : decode cL_law 567 = .ok (.aload_n 0, 1) := by decide +kernel
theorem dL_law_568 : decode cL_law 568 = .ok (.iload_n 3, 1) := by decide +kernel
theorem dL_law_569 : decode cL_law 569 = .ok (.iconst 2, 1) := by decide +kernel
theorem dL_law_570 : decode cL_law 570 = .ok (.iadd, 1) := by decide +kernel
theorem dL_law_571 : decode cL_law 571 = .ok (.iaload, 1) := by decide +kernel
theorem dL_law_572 : decode cL_law 572 = .ok (.invokevirtual 65, 3) := by decide +kernel
theorem dL_law_575 : decode cL_law 575 = .ok (.aload_n 2, 1) := by decide +kernel
theorem dL_law_576 : decode cL_law 576 = .ok (.aload_n 0, 1) := by decide +kernel
theorem dL_law_577 : decode cL_law 577 = .ok (.iload_n 3, 1) := by decide +kernel
theorem dL_law_578 : decode cL_law 578 = .ok (.iconst 1, 1) := by decide +kernel
theorem dL_law_579 : decode cL_law 579 = .ok (.iadd, 1) := by decide +kernel
theorem dL_law_580 : decode cL_law 580 = .ok (.iaload, 1) := by decide +kernel
theorem dL_law_581 : decode cL_law 581 = .ok (.aload_n 0, 1) := by decide +kernel
theorem dL_law_582 : decode cL_law 582 = .ok (.iload_n 3, 1) := by decide +kernel
theorem dL_law_583 : decode cL_law 583 = .ok (.iconst 2, 1) := by decide +kernel
theorem dL_law_584 : decode cL_law 584 = .ok (.iadd, 1) := by decide +kernel
theorem dL_law_585 : decode cL_law 585 = .ok (.iaload, 1) := by decide +kernel
theorem dL_law_586 : decode cL_law 586 = .ok (.invokevirtual 68, 3) := by decide +kernel
theorem dL_law_589 : decode cL_law 589 = .ok (.if_icmp .eq 513, 3) := by decide +kernel
theorem dL_law_592 : decode cL_law 592 = .ok (.iconst 0, 1) := by decide +kernel
theorem dL_law_593 : decode cL_law 593 = .ok (.ireturn, 1) := by decide +kernel
theorem dL_law_594 : decode cL_law 594 = .ok (.aload_n 1, 1) := by decide +kernel
theorem dL_law_595 : decode cL_law 595 = .ok (.aload_n 0, 1) := by decide +kernel
theorem dL_law_596 : decode cL_law 596 = .ok (.iload_n 3, 1) := by decide +kernel
theorem dL_law_597 : decode cL_law 597 = .ok (.iconst 1, 1) := by decide +kernel
theorem dL_law_598 : decode cL_law 598 = .ok (.iadd, 1) := by decide +kernel
theorem dL_law_599 : decode cL_law 599 = .ok (.iaload, 1) := by decide +kernel
theorem dL_law_600 : decode cL_law 600 = .ok (.aload_n 0, 1) := by decide +kernel
theorem dL_law_601 : decode cL_law 601 = .ok (.iload_n 3, 1) := by decide +kernel
theorem dL_law_602 : decode cL_law 602 = .ok (.iconst 2, 1) := by decide +kernel
theorem dL_law_603 : decode cL_law 603 = .ok (.iadd, 1) := by decide +kernel
theorem dL_law_604 : decode cL_law 604 = .ok (.iaload, 1) := by decide +kernel
theorem dL_law_605 : decode cL_law 605 = .ok (.ifCond .eq 7, 3) := by decide +kernel
theorem dL_law_608 : decode cL_law 608 = .ok (.iconst 1, 1) := by decide +kernel
theorem dL_law_609 : decode cL_law 609 = .ok (.goto 4, 3) := by decide +kernel
theorem dL_law_612 : decode cL_law 612 = .ok (.iconst 0, 1) := by decide +kernel
theorem dL_law_613 : decode cL_law 613 = .ok (.invokevirtual 69, 3) := by decide +kernel
theorem dL_law_616 : decode cL_law 616 = .ok (.aload_n 2, 1) := by decide +kernel
theorem dL_law_617 : decode cL_law 617 = .ok (.aload_n 0, 1) := by decide +kernel
theorem dL_law_618 : decode cL_law 618 = .ok (.iload_n 3, 1) := by decide +kernel
theorem dL_law_619 : decode cL_law 619 = .ok (.iconst 1, 1) := by decide +kernel
theorem dL_law_620 : decode cL_law 620 = .ok (.iadd, 1) := by decide +kernel
theorem dL_law_621 : decode cL_law 621 = .ok (.iaload, 1) := by decide +kernel
theorem dL_law_622 : decode cL_law 622 = .ok (.aload_n 0, 1) := by decide +kernel
theorem dL_law_623 : decode cL_law 623 = .ok (.iload_n 3, 1) := by decide +kernel
theorem dL_law_624 : decode cL_law 624 = .ok (.iconst 2, 1) := by decide +kernel
theorem dL_law_625 : decode cL_law 625 = .ok (.iadd, 1) := by decide +kernel
theorem dL_law_626 : decode cL_law 626 = .ok (.iaload, 1) := by decide +kernel
theorem dL_law_627 : decode cL_law 627 = .ok (.ifCond .eq 7, 3) := by decide +kernel
theorem dL_law_630 : decode cL_law 630 = .ok (.iconst 1, 1) := by decide +kernel
theorem dL_law_631 : decode cL_law 631 = .ok (.goto 4, 3) := by decide +kernel
theorem dL_law_634 : decode cL_law 634 = .ok (.iconst 0, 1) := by decide +kernel
theorem dL_law_635 : decode cL_law 635 = .ok (.invokevirtual 72, 3) := by decide +kernel
theorem dL_law_638 : decode cL_law 638 = .ok (.if_icmp .eq 464, 3) := by decide +kernel
theorem dL_law_641 : decode cL_law 641 = .ok (.iconst 0, 1) := by decide +kernel
theorem dL_law_642 : decode cL_law 642 = .ok (.ireturn, 1) := by decide +kernel
theorem dL_law_643 : decode cL_law 643 = .ok (.aload_n 1, 1) := by decide +kernel
theorem dL_law_644 : decode cL_law 644 = .ok (.aload_n 0, 1) := by decide +kernel
theorem dL_law_645 : decode cL_law 645 = .ok (.iload_n 3, 1) := by decide +kernel
theorem dL_law_646 : decode cL_law 646 = .ok (.iconst 1, 1) := by decide +kernel
theorem dL_law_647 : decode cL_law 647 = .ok (.iadd, 1) := by decide +kernel
theorem dL_law_648 : decode cL_law 648 = .ok (.iaload, 1) := by decide +kernel
theorem dL_law_649 : decode cL_law 649 = .ok (.invokevirtual 73, 3) := by decide +kernel
theorem dL_law_652 : decode cL_law 652 = .ok (.aload_n 2, 1) := by decide +kernel
theorem dL_law_653 : decode cL_law 653 = .ok (.aload_n 0, 1) := by decide +kernel
theorem dL_law_654 : decode cL_law 654 = .ok (.iload_n 3, 1) := by decide +kernel
theorem dL_law_655 : decode cL_law 655 = .ok (.iconst 1, 1) := by decide +kernel
theorem dL_law_656 : decode cL_law 656 = .ok (.iadd, 1) := by decide +kernel
theorem dL_law_657 : decode cL_law 657 = .ok (.iaload, 1) := by decide +kernel
theorem dL_law_658 : decode cL_law 658 = .ok (.invokevirtual 76, 3) := by decide +kernel
theorem dL_law_661 : decode cL_law 661 = .ok (.if_icmp .eq 441, 3) := by decide +kernel
theorem dL_law_664 : decode cL_law 664 = .ok (.iconst 0, 1) := by decide +kernel
theorem dL_law_665 : decode cL_law 665 = .ok (.ireturn, 1) := by decide +kernel
theorem dL_law_666 : decode cL_law 666 = .ok (.aload_n 1, 1) := by decide +kernel
theorem dL_law_667 : decode cL_law 667 = .ok (.aload_n 0, 1) := by decide +kernel
theorem dL_law_668 : decode cL_law 668 = .ok (.iload_n 3, 1) := by decide +kernel
theorem dL_law_669 : decode cL_law 669 = .ok (.iconst 1, 1) := by decide +kernel
theorem dL_law_670 : decode cL_law 670 = .ok (.iadd, 1) := by decide +kernel
theorem dL_law_671 : decode cL_law 671 = .ok (.iaload, 1) := by decide +kernel
theorem dL_law_672 : decode cL_law 672 = .ok (.invokevirtual 77, 3) := by decide +kernel
theorem dL_law_675 : decode cL_law 675 = .ok (.aload_n 2, 1) := by decide +kernel
theorem dL_law_676 : decode cL_law 676 = .ok (.aload_n 0, 1) := by decide +kernel
theorem dL_law_677 : decode cL_law 677 = .ok (.iload_n 3, 1) := by decide +kernel
theorem dL_law_678 : decode cL_law 678 = .ok (.iconst 1, 1) := by decide +kernel
theorem dL_law_679 : decode cL_law 679 = .ok (.iadd, 1) := by decide +kernel
theorem dL_law_680 : decode cL_law 680 = .ok (.iaload, 1) := by decide +kernel
theorem dL_law_681 : decode cL_law 681 = .ok (.invokevirtual 80, 3) := by decide +kernel
theorem dL_law_684 : decode cL_law 684 = .ok (.if_icmp .eq 418, 3) := by decide +kernel
theorem dL_law_687 : decode cL_law 687 = .ok (.iconst 0, 1) := by decide +kernel
theorem dL_law_688 : decode cL_law 688 = .ok (.ireturn, 1) := by decide +kernel
theorem dL_law_689 : decode cL_law 689 = .ok (.aload_n 1, 1) := by decide +kernel
theorem dL_law_690 : decode cL_law 690 = .ok (.invokevirtual 81, 3) := by decide +kernel
theorem dL_law_693 : decode cL_law 693 = .ok (.aload_n 2, 1) := by decide +kernel
theorem dL_law_694 : decode cL_law 694 = .ok (.invokevirtual 84, 3) := by decide +kernel
theorem dL_law_697 : decode cL_law 697 = .ok (.if_icmp .eq 405, 3) := by decide +kernel
theorem dL_law_700 : decode cL_law 700 = .ok (.iconst 0, 1) := by decide +kernel
theorem dL_law_701 : decode cL_law 701 = .ok (.ireturn, 1) := by decide +kernel
theorem dL_law_702 : decode cL_law 702 = .ok (.aload_n 1, 1) := by decide +kernel
theorem dL_law_703 : decode cL_law 703 = .ok (.invokevirtual 85, 3) := by decide +kernel
theorem dL_law_706 : decode cL_law 706 = .ok (.aload_n 2, 1) := by decide +kernel
theorem dL_law_707 : decode cL_law 707 = .ok (.invokevirtual 88, 3) := by decide +kernel
theorem dL_law_710 : decode cL_law 710 = .ok (.if_icmp .eq 392, 3) := by decide +kernel
theorem dL_law_713 : decode cL_law 713 = .ok (.iconst 0, 1) := by decide +kernel
theorem dL_law_714 : decode cL_law 714 = .ok (.ireturn, 1) := by decide +kernel
theorem dL_law_715 : decode cL_law 715 = .ok (.aload_n 1, 1) := by decide +kernel
theorem dL_law_716 : decode cL_law 716 = .ok (.invokevirtual 89, 3) := by decide +kernel
theorem dL_law_719 : decode cL_law 719 = .ok (.aload_n 2, 1) := by decide +kernel
theorem dL_law_720 : decode cL_law 720 = .ok (.invokevirtual 92, 3) := by decide +kernel
theorem dL_law_723 : decode cL_law 723 = .ok (.if_icmp .eq 379, 3) := by decide +kernel
theorem dL_law_726 : decode cL_law 726 = .ok (.iconst 0, 1) := by decide +kernel
theorem dL_law_727 : decode cL_law 727 = .ok (.ireturn, 1) := by decide +kernel
theorem dL_law_728 : decode cL_law 728 = .ok (.aload_n 1, 1) := by decide +kernel
theorem dL_law_729 : decode cL_law 729 = .ok (.aload_n 0, 1) := by decide +kernel
theorem dL_law_730 : decode cL_law 730 = .ok (.iload_n 3, 1) := by decide +kernel
theorem dL_law_731 : decode cL_law 731 = .ok (.iconst 1, 1) := by decide +kernel
theorem dL_law_732 : decode cL_law 732 = .ok (.iadd, 1) := by decide +kernel
theorem dL_law_733 : decode cL_law 733 = .ok (.iaload, 1) := by decide +kernel
theorem dL_law_734 : decode cL_law 734 = .ok (.aload_n 0, 1) := by decide +kernel
theorem dL_law_735 : decode cL_law 735 = .ok (.iload_n 3, 1) := by decide +kernel
theorem dL_law_736 : decode cL_law 736 = .ok (.iconst 2, 1) := by decide +kernel
theorem dL_law_737 : decode cL_law 737 = .ok (.iadd, 1) := by decide +kernel
theorem dL_law_738 : decode cL_law 738 = .ok (.iaload, 1) := by decide +kernel
theorem dL_law_739 : decode cL_law 739 = .ok (.aload_n 0, 1) := by decide +kernel
theorem dL_law_740 : decode cL_law 740 = .ok (.iload_n 3, 1) := by decide +kernel
theorem dL_law_741 : decode cL_law 741 = .ok (.iconst 3, 1) := by decide +kernel
theorem dL_law_742 : decode cL_law 742 = .ok (.iadd, 1) := by decide +kernel
theorem dL_law_743 : decode cL_law 743 = .ok (.iaload, 1) := by decide +kernel
theorem dL_law_744 : decode cL_law 744 = .ok (.invokevirtual 93, 3) := by decide +kernel
theorem dL_law_747 : decode cL_law 747 = .ok (.aload_n 2, 1) := by decide +kernel
theorem dL_law_748 : decode cL_law 748 = .ok (.aload_n 0, 1) := by decide +kernel
theorem dL_law_749 : decode cL_law 749 = .ok (.iload_n 3, 1) := by decide +kernel
theorem dL_law_750 : decode cL_law 750 = .ok (.iconst 1, 1) := by decide +kernel
theorem dL_law_751 : decode cL_law 751 = .ok (.iadd, 1) := by decide +kernel
theorem dL_law_752 : decode cL_law 752 = .ok (.iaload, 1) := by decide +kernel
theorem dL_law_753 : decode cL_law 753 = .ok (.aload_n 0, 1) := by decide +kernel
theorem dL_law_754 : decode cL_law 754 = .ok (.iload_n 3, 1) := by decide +kernel
theorem dL_law_755 : decode cL_law 755 = .ok (.iconst 2, 1) := by decide +kernel
theorem dL_law_756 : decode cL_law 756 = .ok (.iadd, 1) := by decide +kernel
theorem dL_law_757 : decode cL_law 757 = .ok (.iaload, 1) := by decide +kernel
theorem dL_law_758 : decode cL_law 758 = .ok (.aload_n 0, 1) := by decide +kernel
theorem dL_law_759 : decode cL_law 759 = .ok (.iload_n 3, 1) := by decide +kernel
theorem dL_law_760 : decode cL_law 760 = .ok (.iconst 3, 1) := by decide +kernel
theorem dL_law_761 : decode cL_law 761 = .ok (.iadd, 1) := by decide +kernel
theorem dL_law_762 : decode cL_law 762 = .ok (.iaload, 1) := by decide +kernel
theorem dL_law_763 : decode cL_law 763 = .ok (.invokevirtual 97, 3) := by decide +kernel
theorem dL_law_766 : decode cL_law 766 = .ok (.if_icmp .eq 336, 3) := by decide +kernel
theorem dL_law_769 : decode cL_law 769 = .ok (.iconst 0, 1) := by decide +kernel
theorem dL_law_770 : decode cL_law 770 = .ok (.ireturn, 1) := by decide +kernel
theorem dL_law_771 : decode cL_law 771 = .ok (.aload_n 1, 1) := by decide +kernel
theorem dL_law_772 : decode cL_law 772 = .ok (.aload_n 0, 1) := by decide +kernel
theorem dL_law_773 : decode cL_law 773 = .ok (.iload_n 3, 1) := by decide +kernel
theorem dL_law_774 : decode cL_law 774 = .ok (.iconst 1, 1) := by decide +kernel
theorem dL_law_775 : decode cL_law 775 = .ok (.iadd, 1) := by decide +kernel
theorem dL_law_776 : decode cL_law 776 = .ok (.iaload, 1) := by decide +kernel
theorem dL_law_777 : decode cL_law 777 = .ok (.aload_n 0, 1) := by decide +kernel
theorem dL_law_778 : decode cL_law 778 = .ok (.iload_n 3, 1) := by decide +kernel
theorem dL_law_779 : decode cL_law 779 = .ok (.iconst 2, 1) := by decide +kernel
theorem dL_law_780 : decode cL_law 780 = .ok (.iadd, 1) := by decide +kernel
theorem dL_law_781 : decode cL_law 781 = .ok (.iaload, 1) := by decide +kernel
theorem dL_law_782 : decode cL_law 782 = .ok (.aload_n 0, 1) := by decide +kernel
theorem dL_law_783 : decode cL_law 783 = .ok (.iload_n 3, 1) := by decide +kernel
theorem dL_law_784 : decode cL_law 784 = .ok (.iconst 3, 1) := by decide +kernel
theorem dL_law_785 : decode cL_law 785 = .ok (.iadd, 1) := by decide +kernel
theorem dL_law_786 : decode cL_law 786 = .ok (.iaload, 1) := by decide +kernel
theorem dL_law_787 : decode cL_law 787 = .ok (.invokevirtual 98, 3) := by decide +kernel
theorem dL_law_790 : decode cL_law 790 = .ok (.aload_n 2, 1) := by decide +kernel
theorem dL_law_791 : decode cL_law 791 = .ok (.aload_n 0, 1) := by decide +kernel
theorem dL_law_792 : decode cL_law 792 = .ok (.iload_n 3, 1) := by decide +kernel
theorem dL_law_793 : decode cL_law 793 = .ok (.iconst 1, 1) := by decide +kernel
theorem dL_law_794 : decode cL_law 794 = .ok (.iadd, 1) := by decide +kernel
theorem dL_law_795 : decode cL_law 795 = .ok (.iaload, 1) := by decide +kernel
theorem dL_law_796 : decode cL_law 796 = .ok (.aload_n 0, 1) := by decide +kernel
theorem dL_law_797 : decode cL_law 797 = .ok (.iload_n 3, 1) := by decide +kernel
theorem dL_law_798 : decode cL_law 798 = .ok (.iconst 2, 1) := by decide +kernel
theorem dL_law_799 : decode cL_law 799 = .ok (.iadd, 1) := by decide +kernel
theorem dL_law_800 : decode cL_law 800 = .ok (.iaload, 1) := by decide +kernel
theorem dL_law_801 : decode cL_law 801 = .ok (.aload_n 0, 1) := by decide +kernel
theorem dL_law_802 : decode cL_law 802 = .ok (.iload_n 3, 1) := by decide +kernel
theorem dL_law_803 : decode cL_law 803 = .ok (.iconst 3, 1) := by decide +kernel
theorem dL_law_804 : decode cL_law 804 = .ok (.iadd, 1) := by decide +kernel
theorem dL_law_805 : decode cL_law 805 = .ok (.iaload, 1) := by decide +kernel
theorem dL_law_806 : decode cL_law 806 = .ok (.invokevirtual 101, 3) := by decide +kernel
theorem dL_law_809 : decode cL_law 809 = .ok (.if_icmp .eq 293, 3) := by decide +kernel
theorem dL_law_812 : decode cL_law 812 = .ok (.iconst 0, 1) := by decide +kernel
theorem dL_law_813 : decode cL_law 813 = .ok (.ireturn, 1) := by decide +kernel
theorem dL_law_814 : decode cL_law 814 = .ok (.aload_n 1, 1) := by decide +kernel
theorem dL_law_815 : decode cL_law 815 = .ok (.aload_n 0, 1) := by decide +kernel
theorem dL_law_816 : decode cL_law 816 = .ok (.iload_n 3, 1) := by decide +kernel
theorem dL_law_817 : decode cL_law 817 = .ok (.iconst 1, 1) := by decide +kernel
theorem dL_law_818 : decode cL_law 818 = .ok (.iadd, 1) := by decide +kernel
theorem dL_law_819 : decode cL_law 819 = .ok (.iaload, 1) := by decide +kernel
theorem dL_law_820 : decode cL_law 820 = .ok (.invokevirtual 102, 3) := by decide +kernel
theorem dL_law_823 : decode cL_law 823 = .ok (.aload_n 2, 1) := by decide +kernel
theorem dL_law_824 : decode cL_law 824 = .ok (.aload_n 0, 1) := by decide +kernel
theorem dL_law_825 : decode cL_law 825 = .ok (.iload_n 3, 1) := by decide +kernel
theorem dL_law_826 : decode cL_law 826 = .ok (.iconst 1, 1) := by decide +kernel
theorem dL_law_827 : decode cL_law 827 = .ok (.iadd, 1) := by decide +kernel
theorem dL_law_828 : decode cL_law 828 = .ok (.iaload, 1) := by decide +kernel
theorem dL_law_829 : decode cL_law 829 = .ok (.invokevirtual 105, 3) := by decide +kernel
theorem dL_law_832 : decode cL_law 832 = .ok (.if_icmp .eq 270, 3) := by decide +kernel
theorem dL_law_835 : decode cL_law 835 = .ok (.iconst 0, 1) := by decide +kernel
theorem dL_law_836 : decode cL_law 836 = .ok (.ireturn, 1) := by decide +kernel
theorem dL_law_837 : decode cL_law 837 = .ok (.aload_n 1, 1) := by decide +kernel
theorem dL_law_838 : decode cL_law 838 = .ok (.aload_n 0, 1) := by decide +kernel
theorem dL_law_839 : decode cL_law 839 = .ok (.iload_n 3, 1) := by decide +kernel
theorem dL_law_840 : decode cL_law 840 = .ok (.iconst 1, 1) := by decide +kernel
theorem dL_law_841 : decode cL_law 841 = .ok (.iadd, 1) := by decide +kernel
theorem dL_law_842 : decode cL_law 842 = .ok (.iaload, 1) := by decide +kernel
theorem dL_law_843 : decode cL_law 843 = .ok (.invokevirtual 106, 3) := by decide +kernel
theorem dL_law_846 : decode cL_law 846 = .ok (.aload_n 2, 1) := by decide +kernel
theorem dL_law_847 : decode cL_law 847 = .ok (.aload_n 0, 1) := by decide +kernel
theorem dL_law_848 : decode cL_law 848 = .ok (.iload_n 3, 1) := by decide +kernel
theorem dL_law_849 : decode cL_law 849 = .ok (.iconst 1, 1) := by decide +kernel
theorem dL_law_850 : decode cL_law 850 = .ok (.iadd, 1) := by decide +kernel
theorem dL_law_851 : decode cL_law 851 = .ok (.iaload, 1) := by decide +kernel
theorem dL_law_852 : decode cL_law 852 = .ok (.invokevirtual 109, 3) := by decide +kernel
theorem dL_law_855 : decode cL_law 855 = .ok (.if_icmp .eq 247, 3) := by decide +kernel
theorem dL_law_858 : decode cL_law 858 = .ok (.iconst 0, 1) := by decide +kernel
theorem dL_law_859 : decode cL_law 859 = .ok (.ireturn, 1) := by decide +kernel
theorem dL_law_860 : decode cL_law 860 = .ok (.aload_n 1, 1) := by decide +kernel
theorem dL_law_861 : decode cL_law 861 = .ok (.aload_n 0, 1) := by decide +kernel
theorem dL_law_862 : decode cL_law 862 = .ok (.iload_n 3, 1) := by decide +kernel
theorem dL_law_863 : decode cL_law 863 = .ok (.iconst 1, 1) := by decide +kernel
theorem dL_law_864 : decode cL_law 864 = .ok (.iadd, 1) := by decide +kernel
theorem dL_law_865 : decode cL_law 865 = .ok (.iaload, 1) := by decide +kernel
theorem dL_law_866 : decode cL_law 866 = .ok (.aload_n 0, 1) := by decide +kernel
theorem dL_law_867 : decode cL_law 867 = .ok (.iload_n 3, 1) := by decide +kernel
theorem dL_law_868 : decode cL_law 868 = .ok (.iconst 2, 1) := by decide +kernel
theorem dL_law_869 : decode cL_law 869 = .ok (.iadd, 1) := by decide +kernel
theorem dL_law_870 : decode cL_law 870 = .ok (.iaload, 1) := by decide +kernel
theorem dL_law_871 : decode cL_law 871 = .ok (.aload_n 0, 1) := by decide +kernel
theorem dL_law_872 : decode cL_law 872 = .ok (.iload_n 3, 1) := by decide +kernel
theorem dL_law_873 : decode cL_law 873 = .ok (.iconst 3, 1) := by decide +kernel
theorem dL_law_874 : decode cL_law 874 = .ok (.iadd, 1) := by decide +kernel
theorem dL_law_875 : decode cL_law 875 = .ok (.iaload, 1) := by decide +kernel
theorem dL_law_876 : decode cL_law 876 = .ok (.invokevirtual 110, 3) := by decide +kernel
theorem dL_law_879 : decode cL_law 879 = .ok (.aload_n 2, 1) := by decide +kernel
theorem dL_law_880 : decode cL_law 880 = .ok (.aload_n 0, 1) := by decide +kernel
theorem dL_law_881 : decode cL_law 881 = .ok (.iload_n 3, 1) := by decide +kernel
theorem dL_law_882 : decode cL_law 882 = .ok (.iconst 1, 1) := by decide +kernel
theorem dL_law_883 : decode cL_law 883 = .ok (.iadd, 1) := by decide +kernel
theorem dL_law_884 : decode cL_law 884 = .ok (.iaload, 1) := by decide +kernel
theorem dL_law_885 : decode cL_law 885 = .ok (.aload_n 0, 1) := by decide +kernel
theorem dL_law_886 : decode cL_law 886 = .ok (.iload_n 3, 1) := by decide +kernel
theorem dL_law_887 : decode cL_law 887 = .ok (.iconst 2, 1) := by decide +kernel
theorem dL_law_888 : decode cL_law 888 = .ok (.iadd, 1) := by decide +kernel
theorem dL_law_889 : decode cL_law 889 = .ok (.iaload, 1) := by decide +kernel
theorem dL_law_890 : decode cL_law 890 = .ok (.aload_n 0, 1) := by decide +kernel
theorem dL_law_891 : decode cL_law 891 = .ok (.iload_n 3, 1) := by decide +kernel
theorem dL_law_892 : decode cL_law 892 = .ok (.iconst 3, 1) := by decide +kernel
theorem dL_law_893 : decode cL_law 893 = .ok (.iadd, 1) := by decide +kernel
theorem dL_law_894 : decode cL_law 894 = .ok (.iaload, 1) := by decide +kernel
theorem dL_law_895 : decode cL_law 895 = .ok (.invokevirtual 113, 3) := by decide +kernel
theorem dL_law_898 : decode cL_law 898 = .ok (.if_icmp .eq 204, 3) := by decide +kernel
theorem dL_law_901 : decode cL_law 901 = .ok (.iconst 0, 1) := by decide +kernel
theorem dL_law_902 : decode cL_law 902 = .ok (.ireturn, 1) := by decide +kernel
theorem dL_law_903 : decode cL_law 903 = .ok (.aload_n 1, 1) := by decide +kernel
theorem dL_law_904 : decode cL_law 904 = .ok (.aload_n 0, 1) := by decide +kernel
theorem dL_law_905 : decode cL_law 905 = .ok (.iload_n 3, 1) := by decide +kernel
theorem dL_law_906 : decode cL_law 906 = .ok (.iconst 1, 1) := by decide +kernel
theorem dL_law_907 : decode cL_law 907 = .ok (.iadd, 1) := by decide +kernel
theorem dL_law_908 : decode cL_law 908 = .ok (.iaload, 1) := by decide +kernel
theorem dL_law_909 : decode cL_law 909 = .ok (.aload_n 0, 1) := by decide +kernel
theorem dL_law_910 : decode cL_law 910 = .ok (.iload_n 3, 1) := by decide +kernel
theorem dL_law_911 : decode cL_law 911 = .ok (.iconst 2, 1) := by decide +kernel
theorem dL_law_912 : decode cL_law 912 = .ok (.iadd, 1) := by decide +kernel
theorem dL_law_913 : decode cL_law 913 = .ok (.iaload, 1) := by decide +kernel
theorem dL_law_914 : decode cL_law 914 = .ok (.invokevirtual 114, 3) := by decide +kernel
theorem dL_law_917 : decode cL_law 917 = .ok (.aload_n 2, 1) := by decide +kernel
theorem dL_law_918 : decode cL_law 918 = .ok (.aload_n 0, 1) := by decide +kernel
theorem dL_law_919 : decode cL_law 919 = .ok (.iload_n 3, 1) := by decide +kernel
theorem dL_law_920 : decode cL_law 920 = .ok (.iconst 1, 1) := by decide +kernel
theorem dL_law_921 : decode cL_law 921 = .ok (.iadd, 1) := by decide +kernel
theorem dL_law_922 : decode cL_law 922 = .ok (.iaload, 1) := by decide +kernel
theorem dL_law_923 : decode cL_law 923 = .ok (.aload_n 0, 1) := by decide +kernel
theorem dL_law_924 : decode cL_law 924 = .ok (.iload_n 3, 1) := by decide +kernel
theorem dL_law_925 : decode cL_law 925 = .ok (.iconst 2, 1) := by decide +kernel
theorem dL_law_926 : decode cL_law 926 = .ok (.iadd, 1) := by decide +kernel
theorem dL_law_927 : decode cL_law 927 = .ok (.iaload, 1) := by decide +kernel
theorem dL_law_928 : decode cL_law 928 = .ok (.invokevirtual 117, 3) := by decide +kernel
theorem dL_law_931 : decode cL_law 931 = .ok (.if_icmp .eq 171, 3) := by decide +kernel
theorem dL_law_934 : decode cL_law 934 = .ok (.iconst 0, 1) := by decide +kernel
theorem dL_law_935 : decode cL_law 935 = .ok (.ireturn, 1) := by decide +kernel
theorem dL_law_936 : decode cL_law 936 = .ok (.aload_n 1, 1) := by decide +kernel
theorem dL_law_937 : decode cL_law 937 = .ok (.invokevirtual 118, 3) := by decide +kernel
theorem dL_law_940 : decode cL_law 940 = .ok (.aload_n 2, 1) := by decide +kernel
theorem dL_law_941 : decode cL_law 941 = .ok (.invokevirtual 122, 3) := by decide +kernel
theorem dL_law_944 : decode cL_law 944 = .ok (.lcmp, 1) := by decide +kernel
theorem dL_law_945 : decode cL_law 945 = .ok (.ifCond .eq 157, 3) := by decide +kernel
theorem dL_law_948 : decode cL_law 948 = .ok (.iconst 0, 1) := by decide +kernel
theorem dL_law_949 : decode cL_law 949 = .ok (.ireturn, 1) := by decide +kernel
theorem dL_law_950 : decode cL_law 950 = .ok (.aload_n 1, 1) := by decide +kernel
theorem dL_law_951 : decode cL_law 951 = .ok (.invokevirtual 123, 3) := by decide +kernel
theorem dL_law_954 : decode cL_law 954 = .ok (.aload_n 2, 1) := by decide +kernel
theorem dL_law_955 : decode cL_law 955 = .ok (.invokevirtual 126, 3) := by decide +kernel
theorem dL_law_958 : decode cL_law 958 = .ok (.lcmp, 1) := by decide +kernel
theorem dL_law_959 : decode cL_law 959 = .ok (.ifCond .eq 143, 3) := by decide +kernel
theorem dL_law_962 : decode cL_law 962 = .ok (.iconst 0, 1) := by decide +kernel
theorem dL_law_963 : decode cL_law 963 = .ok (.ireturn, 1) := by decide +kernel
theorem dL_law_964 : decode cL_law 964 = .ok (.aload_n 1, 1) := by decide +kernel
theorem dL_law_965 : decode cL_law 965 = .ok (.aload_n 0, 1) := by decide +kernel
theorem dL_law_966 : decode cL_law 966 = .ok (.iload_n 3, 1) := by decide +kernel
theorem dL_law_967 : decode cL_law 967 = .ok (.iconst 1, 1) := by decide +kernel
theorem dL_law_968 : decode cL_law 968 = .ok (.iadd, 1) := by decide +kernel
theorem dL_law_969 : decode cL_law 969 = .ok (.iaload, 1) := by decide +kernel
theorem dL_law_970 : decode cL_law 970 = .ok (.aload_n 0, 1) := by decide +kernel
theorem dL_law_971 : decode cL_law 971 = .ok (.iload_n 3, 1) := by decide +kernel
theorem dL_law_972 : decode cL_law 972 = .ok (.iconst 2, 1) := by decide +kernel
theorem dL_law_973 : decode cL_law 973 = .ok (.iadd, 1) := by decide +kernel
theorem dL_law_974 : decode cL_law 974 = .ok (.iaload, 1) := by decide +kernel
theorem dL_law_975 : decode cL_law 975 = .ok (.aload_n 0, 1) := by decide +kernel
theorem dL_law_976 : decode cL_law 976 = .ok (.iload_n 3, 1) := by decide +kernel
theorem dL_law_977 : decode cL_law 977 = .ok (.iconst 3, 1) := by decide +kernel
theorem dL_law_978 : decode cL_law 978 = .ok (.iadd, 1) := by decide +kernel
theorem dL_law_979 : decode cL_law 979 = .ok (.iaload, 1) := by decide +kernel
theorem dL_law_980 : decode cL_law 980 = .ok (.invokevirtual 127, 3) := by decide +kernel
theorem dL_law_983 : decode cL_law 983 = .ok (.aload_n 2, 1) := by decide +kernel
theorem dL_law_984 : decode cL_law 984 = .ok (.aload_n 0, 1) := by decide +kernel
theorem dL_law_985 : decode cL_law 985 = .ok (.iload_n 3, 1) := by decide +kernel
theorem dL_law_986 : decode cL_law 986 = .ok (.iconst 1, 1) := by decide +kernel
theorem dL_law_987 : decode cL_law 987 = .ok (.iadd, 1) := by decide +kernel
theorem dL_law_988 : decode cL_law 988 = .ok (.iaload, 1) := by decide +kernel
theorem dL_law_989 : decode cL_law 989 = .ok (.aload_n 0, 1) := by decide +kernel
theorem dL_law_990 : decode cL_law 990 = .ok (.iload_n 3, 1) := by decide +kernel
theorem dL_law_991 : decode cL_law 991 = .ok (.iconst 2, 1) := by decide +kernel
theorem dL_law_992 : decode cL_law 992 = .ok (.iadd, 1) := by decide +kernel
theorem dL_law_993 : decode cL_law 993 = .ok (.iaload, 1) := by decide +kernel
theorem dL_law_994 : decode cL_law 994 = .ok (.aload_n 0, 1) := by decide +kernel
theorem dL_law_995 : decode cL_law 995 = .ok (.iload_n 3, 1) := by decide +kernel
theorem dL_law_996 : decode cL_law 996 = .ok (.iconst 3, 1) := by decide +kernel
theorem dL_law_997 : decode cL_law 997 = .ok (.iadd, 1) := by decide +kernel
theorem dL_law_998 : decode cL_law 998 = .ok (.iaload, 1) := by decide +kernel
theorem dL_law_999 : decode cL_law 999 = .ok (.invokevirtual 130, 3) := by decide +kernel
theorem dL_law_1002 : decode cL_law 1002 = .ok (.if_icmp .eq 100, 3) := by decide +kernel
theorem dL_law_1005 : decode cL_law 1005 = .ok (.iconst 0, 1) := by decide +kernel
theorem dL_law_1006 : decode cL_law 1006 = .ok (.ireturn, 1) := by decide +kernel
theorem dL_law_1007 : decode cL_law 1007 = .ok (.aload_n 1, 1) := by decide +kernel
theorem dL_law_1008 : decode cL_law 1008 = .ok (.aload_n 0, 1) := by decide +kernel
theorem dL_law_1009 : decode cL_law 1009 = .ok (.iload_n 3, 1) := by decide +kernel
theorem dL_law_1010 : decode cL_law 1010 = .ok (.iconst 1, 1) := by decide +kernel
theorem dL_law_1011 : decode cL_law 1011 = .ok (.iadd, 1) := by decide +kernel
theorem dL_law_1012 : decode cL_law 1012 = .ok (.iaload, 1) := by decide +kernel
theorem dL_law_1013 : decode cL_law 1013 = .ok (.invokevirtual 131, 3) := by decide +kernel
theorem dL_law_1016 : decode cL_law 1016 = .ok (.aload_n 2, 1) := by decide +kernel
theorem dL_law_1017 : decode cL_law 1017 = .ok (.aload_n 0, 1) := by decide +kernel
theorem dL_law_1018 : decode cL_law 1018 = .ok (.iload_n 3, 1) := by decide +kernel
theorem dL_law_1019 : decode cL_law 1019 = .ok (.iconst 1, 1) := by decide +kernel
theorem dL_law_1020 : decode cL_law 1020 = .ok (.iadd, 1) := by decide +kernel
theorem dL_law_1021 : decode cL_law 1021 = .ok (.iaload, 1) := by decide +kernel
theorem dL_law_1022 : decode cL_law 1022 = .ok (.invokevirtual 134, 3) := by decide +kernel
theorem dL_law_1025 : decode cL_law 1025 = .ok (.if_icmp .eq 77, 3) := by decide +kernel
theorem dL_law_1028 : decode cL_law 1028 = .ok (.iconst 0, 1) := by decide +kernel
theorem dL_law_1029 : decode cL_law 1029 = .ok (.ireturn, 1) := by decide +kernel
theorem dL_law_1030 : decode cL_law 1030 = .ok (.aload_n 1, 1) := by decide +kernel
theorem dL_law_1031 : decode cL_law 1031 = .ok (.aload_n 0, 1) := by decide +kernel
theorem dL_law_1032 : decode cL_law 1032 = .ok (.iload_n 3, 1) := by decide +kernel
theorem dL_law_1033 : decode cL_law 1033 = .ok (.iconst 1, 1) := by decide +kernel
theorem dL_law_1034 : decode cL_law 1034 = .ok (.iadd, 1) := by decide +kernel
theorem dL_law_1035 : decode cL_law 1035 = .ok (.iaload, 1) := by decide +kernel
theorem dL_law_1036 : decode cL_law 1036 = .ok (.invokevirtual 135, 3) := by decide +kernel
theorem dL_law_1039 : decode cL_law 1039 = .ok (.aload_n 2, 1) := by decide +kernel
theorem dL_law_1040 : decode cL_law 1040 = .ok (.aload_n 0, 1) := by decide +kernel
theorem dL_law_1041 : decode cL_law 1041 = .ok (.iload_n 3, 1) := by decide +kernel
theorem dL_law_1042 : decode cL_law 1042 = .ok (.iconst 1, 1) := by decide +kernel
theorem dL_law_1043 : decode cL_law 1043 = .ok (.iadd, 1) := by decide +kernel
theorem dL_law_1044 : decode cL_law 1044 = .ok (.iaload, 1) := by decide +kernel
theorem dL_law_1045 : decode cL_law 1045 = .ok (.invokevirtual 138, 3) := by decide +kernel
theorem dL_law_1048 : decode cL_law 1048 = .ok (.if_icmp .eq 54, 3) := by decide +kernel
theorem dL_law_1051 : decode cL_law 1051 = .ok (.iconst 0, 1) := by decide +kernel
theorem dL_law_1052 : decode cL_law 1052 = .ok (.ireturn, 1) := by decide +kernel
theorem dL_law_1053 : decode cL_law 1053 = .ok (.aload_n 1, 1) := by decide +kernel
theorem dL_law_1054 : decode cL_law 1054 = .ok (.invokevirtual 139, 3) := by decide +kernel
theorem dL_law_1057 : decode cL_law 1057 = .ok (.aload_n 2, 1) := by decide +kernel
theorem dL_law_1058 : decode cL_law 1058 = .ok (.invokevirtual 142, 3) := by decide +kernel
theorem dL_law_1061 : decode cL_law 1061 = .ok (.if_icmp .eq 41, 3) := by decide +kernel
theorem dL_law_1064 : decode cL_law 1064 = .ok (.iconst 0, 1) := by decide +kernel
theorem dL_law_1065 : decode cL_law 1065 = .ok (.ireturn, 1) := by decide +kernel
theorem dL_law_1066 : decode cL_law 1066 = .ok (.aload_n 1, 1) := by decide +kernel
theorem dL_law_1067 : decode cL_law 1067 = .ok (.invokevirtual 143, 3) := by decide +kernel
theorem dL_law_1070 : decode cL_law 1070 = .ok (.aload_n 2, 1) := by decide +kernel
theorem dL_law_1071 : decode cL_law 1071 = .ok (.invokevirtual 146, 3) := by decide +kernel
theorem dL_law_1074 : decode cL_law 1074 = .ok (.if_icmp .eq 28, 3) := by decide +kernel
theorem dL_law_1077 : decode cL_law 1077 = .ok (.iconst 0, 1) := by decide +kernel
theorem dL_law_1078 : decode cL_law 1078 = .ok (.ireturn, 1) := by decide +kernel
theorem dL_law_1079 : decode cL_law 1079 = .ok (.aload_n 1, 1) := by decide +kernel
theorem dL_law_1080 : decode cL_law 1080 = .ok (.aload_n 0, 1) := by decide +kernel
theorem dL_law_1081 : decode cL_law 1081 = .ok (.iload_n 3, 1) := by decide +kernel
theorem dL_law_1082 : decode cL_law 1082 = .ok (.iconst 1, 1) := by decide +kernel
theorem dL_law_1083 : decode cL_law 1083 = .ok (.iadd, 1) := by decide +kernel
theorem dL_law_1084 : decode cL_law 1084 = .ok (.iaload, 1) := by decide +kernel
theorem dL_law_1085 : decode cL_law 1085 = .ok (.invokevirtual 147, 3) := by decide +kernel
theorem dL_law_1088 : decode cL_law 1088 = .ok (.aload_n 2, 1) := by decide +kernel
theorem dL_law_1089 : decode cL_law 1089 = .ok (.aload_n 0, 1) := by decide +kernel
theorem dL_law_1090 : decode cL_law 1090 = .ok (.iload_n 3, 1) := by decide +kernel
theorem dL_law_1091 : decode cL_law 1091 = .ok (.iconst 1, 1) := by decide +kernel
theorem dL_law_1092 : decode cL_law 1092 = .ok (.iadd, 1) := by decide +kernel
theorem dL_law_1093 : decode cL_law 1093 = .ok (.iaload, 1) := by decide +kernel
theorem dL_law_1094 : decode cL_law 1094 = .ok (.invokevirtual 150, 3) := by decide +kernel
theorem dL_law_1097 : decode cL_law 1097 = .ok (.if_icmp .eq 5, 3) := by decide +kernel
theorem dL_law_1100 : decode cL_law 1100 = .ok (.iconst 0, 1) := by decide +kernel
theorem dL_law_1101 : decode cL_law 1101 = .ok (.ireturn, 1) := by decide +kernel
theorem dL_law_1102 : decode cL_law 1102 = .ok (.iinc 3 4, 3) := by decide +kernel
theorem dL_law_1105 : decode cL_law 1105 = .ok (.goto (-1087), 3) := by decide +kernel
theorem dL_law_1108 : decode cL_law 1108 = .ok (.iconst 1, 1) := by decide +kernel
theorem dL_law_1109 : decode cL_law 1109 = .ok (.ireturn, 1) := by decide +kernel
abbrev vwCl : List vw_C := [(RX0, TX0, 3), (RX1, TX1, 9), (RX2, TX2, 11), (RX3, TX3, 3), (RX4, TX4, 3), (RX5, TX5, 8), (RX6, TX6, 31)]
