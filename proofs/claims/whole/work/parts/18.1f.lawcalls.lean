set_option maxRecDepth 20000 in
theorem ggL_law_X6_run : GoodIn wsL_law wsX6_run := goodIn_r _ [801, 219, 802, 803, 804, 89, 459, 460, 5, 461, 128, 129, 130, 131, 87, 125, 126, 127, 462, 463, 464, 465, 99, 88, 101, 220, 91, 466, 92, 221, 93, 94, 100, 538, 539, 540, 541, 542, 543, 544, 545, 90, 553, 554, 555, 556, 483, 484, 485, 486, 223, 467, 468, 469, 470, 222, 95, 96, 305, 306, 307, 308, 97, 549, 550, 551, 552, 888, 889, 890, 891, 892, 893, 894, 895, 896, 897, 898, 899, 900, 901, 902, 903, 904, 905, 906, 907, 908, 909, 910, 911, 912, 913, 914, 915, 916, 917, 918] (by decide +kernel) (by decide +kernel)
set_option maxRecDepth 20000 in
theorem gL_law_X6_run : GoodIn wsL_law (wsV RL 130 RX6 yX6_run wsX6_run) := goodIn_app (goodIn_of _ (by decide +kernel)) ggL_law_X6_run
set_option maxRecDepth 20000 in
theorem ggL_law_X5_put : GoodIn wsL_law wsX5_put := goodIn_r _ [808, 29, 26, 111, 112, 113, 2, 114, 27, 880, 881, 882, 883, 884, 885, 886, 887] (by decide +kernel) (by decide +kernel)
set_option maxRecDepth 20000 in
theorem gL_law_X5_put : GoodIn wsL_law (wsV RL 131 RX5 yX5_put wsX5_put) := goodIn_app (goodIn_of _ (by decide +kernel)) ggL_law_X5_put
set_option maxRecDepth 20000 in
theorem ggL_law_X6_put : GoodIn wsL_law wsX6_put := goodIn_r _ [812, 813, 104, 125, 126, 5, 127, 128, 129, 130, 131, 87, 888, 889, 890, 891, 892, 893, 894, 895, 896, 897, 898, 899, 900, 901, 902, 903, 904, 905, 906, 907, 908, 909, 910, 911, 912, 913, 914, 915, 916, 917, 918] (by decide +kernel) (by decide +kernel)
set_option maxRecDepth 20000 in
theorem gL_law_X6_put : GoodIn wsL_law (wsV RL 134 RX6 yX6_put wsX6_put) := goodIn_app (goodIn_of _ (by decide +kernel)) ggL_law_X6_put
set_option maxRecDepth 20000 in
theorem ggL_law_X5_judge : GoodIn wsL_law wsX5_judge := goodIn_r _ [817, 20, 29, 111, 112, 113, 2, 114, 27, 410, 411, 412, 19, 413, 69, 414, 56, 415, 416, 417, 418, 419, 65, 66, 67, 420, 68, 421, 422, 423, 15, 424, 43, 44, 425, 285, 286, 287, 42, 426, 427, 428, 429, 57, 430, 431, 432, 433, 203, 204, 434, 435, 436, 437, 58, 438, 59, 439, 440, 441, 818, 819, 820, 821, 26, 607, 608, 609, 610, 794, 795, 796, 797, 586, 522, 523, 524, 525, 451, 452, 453, 454, 880, 881, 882, 883, 884, 885, 886, 887, 928, 929, 930, 931, 932, 933, 934, 935, 936, 937, 938, 919, 920, 921, 922, 923, 924, 925, 926, 927, 942, 943, 944] (by decide +kernel) (by decide +kernel)
set_option maxRecDepth 20000 in
theorem gL_law_X5_judge : GoodIn wsL_law (wsV RL 135 RX5 yX5_judge wsX5_judge) := goodIn_app (goodIn_of _ (by decide +kernel)) ggL_law_X5_judge
set_option maxRecDepth 20000 in
theorem ggL_law_X6_judge : GoodIn wsL_law wsX6_judge := goodIn_r _ [825, 813, 104, 459, 460, 5, 461, 128, 129, 130, 131, 87, 462, 463, 464, 465, 219, 99, 88, 101, 220, 91, 466, 92, 221, 93, 94, 100, 538, 539, 540, 541, 542, 543, 544, 545, 90, 553, 554, 555, 556, 483, 484, 485, 486, 223, 467, 468, 469, 470, 222, 95, 96, 305, 306, 307, 308, 97, 549, 550, 551, 552, 888, 889, 890, 891, 892, 893, 894, 895, 896, 897, 898, 899, 900, 901, 902, 903, 904, 905, 906, 907, 908, 909, 910, 911, 912, 913, 914, 915, 916, 917, 918] (by decide +kernel) (by decide +kernel)
set_option maxRecDepth 20000 in
theorem gL_law_X6_judge : GoodIn wsL_law (wsV RL 138 RX6 yX6_judge wsX6_judge) := goodIn_app (goodIn_of _ (by decide +kernel)) ggL_law_X6_judge
set_option maxRecDepth 20000 in
theorem ggL_law_X5_image : GoodIn wsL_law wsX5_image := goodIn_r _ [829, 30, 13, 14, 15, 16, 317, 31, 32, 33, 11, 12, 25, 34, 35, 36, 37, 38, 39, 40, 41, 42, 43, 44, 45, 46, 47, 48, 49, 50, 51, 830, 831, 832, 833, 834, 416, 417, 418, 835, 836, 837, 838, 839, 880, 881, 882, 883, 884, 885, 886, 887, 919, 920, 921, 922, 923, 924, 925, 926, 927, 942, 943, 944] (by decide +kernel) (by decide +kernel)
set_option maxRecDepth 20000 in
theorem gL_law_X5_image : GoodIn wsL_law (wsV RL 139 RX5 yX5_image wsX5_image) := goodIn_app (goodIn_of _ (by decide +kernel)) ggL_law_X5_image
set_option maxRecDepth 20000 in
theorem ggL_law_X6_image : GoodIn wsL_law wsX6_image := goodIn_r _ [843, 844, 845, 219, 846, 847, 848, 5, 849, 850, 88, 89, 90, 91, 92, 93, 94, 95, 96, 97, 220, 221, 222, 223, 851, 852, 853, 854, 105, 855, 856, 857, 858, 888, 889, 890, 891, 892, 893, 894, 895, 896, 897, 898, 899, 900, 901, 902, 903, 904, 905, 906, 907, 908, 909, 910, 911, 912, 913, 914, 915, 916, 917, 918] (by decide +kernel) (by decide +kernel)
set_option maxRecDepth 20000 in
theorem gL_law_X6_image : GoodIn wsL_law (wsV RL 142 RX6 yX6_image wsX6_image) := goodIn_app (goodIn_of _ (by decide +kernel)) ggL_law_X6_image
set_option maxRecDepth 20000 in
theorem ggL_law_X5_restore : GoodIn wsL_law wsX5_restore := goodIn_r _ [862, 30, 16, 317, 111, 112, 113, 2, 114, 27, 830, 831, 832, 15, 833, 34, 834, 416, 417, 418, 35, 39, 40, 41, 42, 43, 44, 45, 835, 836, 837, 38, 838, 49, 839, 50, 51, 880, 881, 882, 883, 884, 885, 886, 887, 919, 920, 921, 922, 923, 924, 925, 926, 927, 942, 943, 944] (by decide +kernel) (by decide +kernel)
set_option maxRecDepth 20000 in
theorem gL_law_X5_restore : GoodIn wsL_law (wsV RL 143 RX5 yX5_restore wsX5_restore) := goodIn_app (goodIn_of _ (by decide +kernel)) ggL_law_X5_restore
set_option maxRecDepth 20000 in
theorem ggL_law_X6_restore : GoodIn wsL_law wsX6_restore := goodIn_r _ [866, 845, 844, 219, 128, 129, 130, 5, 131, 87, 846, 847, 848, 849, 850, 88, 89, 90, 91, 92, 93, 94, 95, 96, 97, 220, 221, 222, 223, 851, 852, 853, 854, 105, 855, 856, 857, 858, 888, 889, 890, 891, 892, 893, 894, 895, 896, 897, 898, 899, 900, 901, 902, 903, 904, 905, 906, 907, 908, 909, 910, 911, 912, 913, 914, 915, 916, 917, 918] (by decide +kernel) (by decide +kernel)
set_option maxRecDepth 20000 in
theorem gL_law_X6_restore : GoodIn wsL_law (wsV RL 146 RX6 yX6_restore wsX6_restore) := goodIn_app (goodIn_of _ (by decide +kernel)) ggL_law_X6_restore
set_option maxRecDepth 20000 in
theorem ggL_law_X5_count : GoodIn wsL_law wsX5_count := goodIn_r _ [870, 16, 276, 317, 351, 360, 361, 382, 391, 24, 110, 29, 27, 871, 872, 873, 15, 874, 43, 34, 875, 504, 505, 506, 507, 508, 509, 880, 881, 882, 883, 884, 885, 886, 887, 919, 920, 921, 922, 923, 924, 925, 926, 927, 942, 943, 944, 939, 940, 941] (by decide +kernel) (by decide +kernel)
set_option maxRecDepth 20000 in
theorem gL_law_X5_count : GoodIn wsL_law (wsV RL 147 RX5 yX5_count wsX5_count) := goodIn_app (goodIn_of _ (by decide +kernel)) ggL_law_X5_count
set_option maxRecDepth 20000 in
theorem ggL_law_X6_count : GoodIn wsL_law wsX6_count := goodIn_r _ [879, 87, 97, 219, 220, 221, 222, 88, 123, 813, 459, 460, 5, 461, 542, 543, 544, 545, 90, 546, 547, 548, 888, 889, 890, 891, 892, 893, 894, 895, 896, 897, 898, 899, 900, 901, 902, 903, 904, 905, 906, 907, 908, 909, 910, 911, 912, 913, 914, 915, 916, 917, 918] (by decide +kernel) (by decide +kernel)
set_option maxRecDepth 20000 in
theorem gL_law_X6_count : GoodIn wsL_law (wsV RL 150 RX6 yX6_count wsX6_count) := goodIn_app (goodIn_of _ (by decide +kernel)) ggL_law_X6_count
