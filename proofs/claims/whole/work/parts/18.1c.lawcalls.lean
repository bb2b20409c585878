set_option maxRecDepth 20000 in
theorem ggL_law_X5_paper : GoodIn wsL_law wsX5_paper := goodIn_r _ [400, 16, 401, 318, 296, 297, 15, 298, 42, 111, 112, 113, 2, 114, 27, 880, 881, 882, 883, 884, 885, 886, 887, 919, 920, 921, 922, 923, 924, 925, 926, 927] (by decide +kernel) (by decide +kernel)
set_option maxRecDepth 20000 in
theorem gL_law_X5_paper : GoodIn wsL_law (wsV RL 61 RX5 yX5_paper wsX5_paper) := goodIn_app (goodIn_of _ (by decide +kernel)) ggL_law_X5_paper
set_option maxRecDepth 20000 in
theorem ggL_law_X6_paper : GoodIn wsL_law wsX6_paper := goodIn_r _ [405, 223, 309, 310, 311, 5, 312, 305, 306, 307, 308, 97, 128, 129, 130, 131, 87, 888, 889, 890, 891, 892, 893, 894, 895, 896, 897, 898, 899, 900, 901, 902, 903, 904, 905, 906, 907, 908, 909, 910, 911, 912, 913, 914, 915, 916, 917, 918] (by decide +kernel) (by decide +kernel)
set_option maxRecDepth 20000 in
theorem gL_law_X6_paper : GoodIn wsL_law (wsV RL 64 RX6 yX6_paper wsX6_paper) := goodIn_app (goodIn_of _ (by decide +kernel)) ggL_law_X6_paper
set_option maxRecDepth 20000 in
theorem ggL_law_X5_knows : GoodIn wsL_law wsX5_knows := goodIn_r _ [409, 16, 20, 328, 329, 184, 185, 15, 186, 43, 111, 112, 113, 2, 114, 27, 410, 411, 412, 19, 413, 69, 414, 56, 415, 416, 417, 418, 419, 65, 66, 67, 420, 68, 421, 422, 423, 424, 44, 425, 285, 286, 287, 42, 426, 427, 428, 429, 57, 430, 431, 432, 433, 203, 204, 434, 435, 436, 437, 58, 438, 59, 439, 440, 441, 442, 443, 444, 445, 446, 447, 448, 449, 450, 451, 452, 453, 454, 880, 881, 882, 883, 884, 885, 886, 887, 919, 920, 921, 922, 923, 924, 925, 926, 927, 928, 929, 930, 931, 932, 933, 934, 935, 936, 937, 938, 942, 943, 944] (by decide +kernel) (by decide +kernel)
set_option maxRecDepth 20000 in
theorem gL_law_X5_knows : GoodIn wsL_law (wsV RL 65 RX5 yX5_knows wsX5_knows) := goodIn_app (goodIn_of _ (by decide +kernel)) ggL_law_X5_knows
set_option maxRecDepth 20000 in
theorem ggL_law_X6_knows : GoodIn wsL_law wsX6_knows := goodIn_r _ [458, 88, 99, 100, 232, 233, 234, 5, 235, 219, 128, 129, 130, 131, 87, 459, 460, 461, 462, 463, 464, 465, 101, 220, 91, 466, 92, 221, 93, 94, 467, 468, 469, 470, 222, 95, 96, 888, 889, 890, 891, 892, 893, 894, 895, 896, 897, 898, 899, 900, 901, 902, 903, 904, 905, 906, 907, 908, 909, 910, 911, 912, 913, 914, 915, 916, 917, 918] (by decide +kernel) (by decide +kernel)
set_option maxRecDepth 20000 in
theorem gL_law_X6_knows : GoodIn wsL_law (wsV RL 68 RX6 yX6_knows wsX6_knows) := goodIn_app (goodIn_of _ (by decide +kernel)) ggL_law_X6_knows
set_option maxRecDepth 20000 in
theorem ggL_law_X5_known : GoodIn wsL_law wsX5_known := goodIn_r _ [474, 16, 20, 401, 475, 476, 477, 15, 478, 43, 111, 112, 113, 2, 114, 27, 410, 411, 412, 19, 413, 69, 414, 56, 415, 416, 417, 418, 419, 65, 66, 67, 420, 68, 421, 422, 423, 424, 44, 425, 285, 286, 287, 42, 426, 427, 428, 429, 57, 430, 431, 432, 433, 203, 204, 434, 435, 436, 437, 58, 438, 59, 439, 440, 441, 446, 447, 448, 449, 450, 451, 452, 453, 454, 880, 881, 882, 883, 884, 885, 886, 887, 919, 920, 921, 922, 923, 924, 925, 926, 927, 928, 929, 930, 931, 932, 933, 934, 935, 936, 937, 938, 942, 943, 944] (by decide +kernel) (by decide +kernel)
set_option maxRecDepth 20000 in
theorem gL_law_X5_known : GoodIn wsL_law (wsV RL 69 RX5 yX5_known wsX5_known) := goodIn_app (goodIn_of _ (by decide +kernel)) ggL_law_X5_known
set_option maxRecDepth 20000 in
theorem ggL_law_X6_known : GoodIn wsL_law wsX6_known := goodIn_r _ [482, 219, 128, 129, 130, 5, 131, 87, 462, 463, 464, 465, 99, 88, 101, 220, 91, 466, 92, 221, 93, 94, 100, 483, 484, 485, 486, 223, 467, 468, 469, 470, 222, 95, 96, 888, 889, 890, 891, 892, 893, 894, 895, 896, 897, 898, 899, 900, 901, 902, 903, 904, 905, 906, 907, 908, 909, 910, 911, 912, 913, 914, 915, 916, 917, 918] (by decide +kernel) (by decide +kernel)
set_option maxRecDepth 20000 in
theorem gL_law_X6_known : GoodIn wsL_law (wsV RL 72 RX6 yX6_known wsX6_known) := goodIn_app (goodIn_of _ (by decide +kernel)) ggL_law_X6_known
set_option maxRecDepth 20000 in
theorem ggL_law_X5_stays : GoodIn wsL_law wsX5_stays := goodIn_r _ [490, 20, 277, 278, 2, 279, 111, 112, 113, 114, 27, 410, 411, 412, 19, 413, 69, 414, 56, 415, 416, 417, 418, 419, 65, 66, 67, 420, 68, 421, 422, 423, 15, 424, 43, 44, 425, 285, 286, 287, 42, 426, 427, 428, 429, 57, 430, 431, 432, 433, 203, 204, 434, 435, 436, 437, 58, 438, 59, 439, 440, 441, 491, 492, 493, 494, 63, 495, 496, 497, 62, 498, 499, 500, 501, 502, 74, 75, 73, 503, 504, 505, 506, 507, 508, 509, 510, 511, 512, 513, 514, 515, 516, 517, 518, 519, 520, 521, 522, 523, 524, 525, 451, 452, 453, 454, 526, 527, 528, 529, 880, 881, 882, 883, 884, 885, 886, 887, 928, 929, 930, 931, 932, 933, 934, 935, 936, 937, 938, 919, 920, 921, 922, 923, 924, 925, 926, 927, 942, 943, 944, 945, 946, 947] (by decide +kernel) (by decide +kernel)
set_option maxRecDepth 20000 in
theorem gL_law_X5_stays : GoodIn wsL_law (wsV RL 73 RX5 yX5_stays wsX5_stays) := goodIn_app (goodIn_of _ (by decide +kernel)) ggL_law_X5_stays
set_option maxRecDepth 20000 in
theorem ggL_law_X6_stays : GoodIn wsL_law wsX6_stays := goodIn_r _ [533, 125, 126, 5, 127, 128, 129, 130, 131, 87, 462, 463, 464, 465, 219, 99, 88, 101, 220, 91, 466, 92, 221, 93, 94, 100, 534, 535, 536, 537, 538, 539, 540, 541, 542, 543, 544, 545, 90, 546, 547, 548, 549, 550, 551, 552, 483, 484, 485, 486, 223, 467, 468, 469, 470, 222, 95, 96, 305, 306, 307, 308, 97, 553, 554, 555, 556, 888, 889, 890, 891, 892, 893, 894, 895, 896, 897, 898, 899, 900, 901, 902, 903, 904, 905, 906, 907, 908, 909, 910, 911, 912, 913, 914, 915, 916, 917, 918] (by decide +kernel) (by decide +kernel)
set_option maxRecDepth 20000 in
theorem gL_law_X6_stays : GoodIn wsL_law (wsV RL 76 RX6 yX6_stays wsX6_stays) := goodIn_app (goodIn_of _ (by decide +kernel)) ggL_law_X6_stays
set_option maxRecDepth 20000 in
theorem ggL_law_X5_safe : GoodIn wsL_law wsX5_safe := goodIn_r _ [560, 20, 277, 278, 2, 279, 111, 112, 113, 114, 27, 410, 411, 412, 19, 413, 69, 414, 56, 415, 416, 417, 418, 419, 65, 66, 67, 420, 68, 421, 422, 423, 15, 424, 43, 44, 425, 285, 286, 287, 42, 426, 427, 428, 429, 57, 430, 431, 432, 433, 203, 204, 434, 435, 436, 437, 58, 438, 59, 439, 440, 441, 561, 562, 563, 564, 64, 495, 496, 497, 62, 498, 499, 500, 501, 502, 74, 75, 73, 503, 504, 505, 506, 507, 508, 509, 565, 566, 567, 568, 514, 515, 516, 517, 518, 519, 520, 521, 522, 523, 524, 525, 451, 452, 453, 454, 526, 527, 528, 529, 880, 881, 882, 883, 884, 885, 886, 887, 928, 929, 930, 931, 932, 933, 934, 935, 936, 937, 938, 919, 920, 921, 922, 923, 924, 925, 926, 927, 942, 943, 944, 945, 946, 947] (by decide +kernel) (by decide +kernel)
set_option maxRecDepth 20000 in
theorem gL_law_X5_safe : GoodIn wsL_law (wsV RL 77 RX5 yX5_safe wsX5_safe) := goodIn_app (goodIn_of _ (by decide +kernel)) ggL_law_X5_safe
set_option maxRecDepth 20000 in
theorem ggL_law_X6_safe : GoodIn wsL_law wsX6_safe := goodIn_r _ [572, 125, 126, 5, 127, 128, 129, 130, 131, 87, 462, 463, 464, 465, 219, 99, 88, 101, 220, 91, 466, 92, 221, 93, 94, 100, 534, 535, 536, 537, 538, 539, 540, 541, 542, 543, 544, 545, 90, 546, 547, 548, 549, 550, 551, 552, 483, 484, 485, 486, 223, 467, 468, 469, 470, 222, 95, 96, 305, 306, 307, 308, 97, 553, 554, 555, 556, 888, 889, 890, 891, 892, 893, 894, 895, 896, 897, 898, 899, 900, 901, 902, 903, 904, 905, 906, 907, 908, 909, 910, 911, 912, 913, 914, 915, 916, 917, 918] (by decide +kernel) (by decide +kernel)
set_option maxRecDepth 20000 in
theorem gL_law_X6_safe : GoodIn wsL_law (wsV RL 80 RX6 yX6_safe wsX6_safe) := goodIn_app (goodIn_of _ (by decide +kernel)) ggL_law_X6_safe
set_option maxRecDepth 20000 in
theorem ggL_law_X5_losers : GoodIn wsL_law wsX5_losers := goodIn_r _ [576, 20, 410, 411, 412, 19, 413, 69, 414, 56, 415, 416, 417, 418, 419, 65, 66, 67, 420, 68, 421, 422, 423, 15, 424, 43, 44, 425, 285, 286, 287, 42, 426, 427, 428, 429, 57, 430, 431, 432, 433, 203, 2, 204, 434, 435, 436, 437, 58, 438, 59, 439, 440, 441, 577, 578, 579, 580, 16, 317, 581, 504, 505, 506, 507, 508, 509, 582, 583, 584, 585, 586, 522, 523, 524, 525, 451, 452, 453, 454, 880, 881, 882, 883, 884, 885, 886, 887, 928, 929, 930, 931, 932, 933, 934, 935, 936, 937, 938, 919, 920, 921, 922, 923, 924, 925, 926, 927, 942, 943, 944] (by decide +kernel) (by decide +kernel)
set_option maxRecDepth 20000 in
theorem gL_law_X5_losers : GoodIn wsL_law (wsV RL 81 RX5 yX5_losers wsX5_losers) := goodIn_app (goodIn_of _ (by decide +kernel)) ggL_law_X5_losers
