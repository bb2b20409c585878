set_option maxRecDepth 20000 in
theorem ggX6_readsGuess_X6_sign : GoodIn wsX6_readsGuess wsX6_sign := goodIn_r _ [10, 1, 11, 12, 29, 30, 31, 32, 33, 34, 35, 36, 37, 38, 39, 40, 41, 42, 43, 44, 45, 46, 47, 48, 49, 50, 51, 52, 53, 54, 55, 56, 57, 58, 59] (by decide +kernel) (by decide +kernel)
set_option maxRecDepth 20000 in
theorem gX6_readsGuess_X6_sign : GoodIn wsX6_readsGuess (wsV RX6 133 RX6 yX6_sign wsX6_sign) := goodIn_app (goodIn_of _ (by decide +kernel)) ggX6_readsGuess_X6_sign
set_option maxRecDepth 20000 in
theorem ggX6_readsGuess_X6_isStep : GoodIn wsX6_readsGuess wsX6_isStep := goodIn_r _ [16, 17, 29, 30, 31, 32, 33, 34, 35, 36, 37, 38, 39, 40, 41, 42, 43, 44, 45, 46, 47, 48, 49, 50, 51, 52, 53, 54, 55, 56, 57, 58, 59] (by decide +kernel) (by decide +kernel)
set_option maxRecDepth 20000 in
theorem gX6_readsGuess_X6_isStep : GoodIn wsX6_readsGuess (wsV RX6 93 RX6 yX6_isStep wsX6_isStep) := goodIn_app (goodIn_of _ (by decide +kernel)) ggX6_readsGuess_X6_isStep
set_option maxRecDepth 20000 in
theorem ggX6_readsGuess_X6_comesGuess : GoodIn wsX6_readsGuess wsX6_comesGuess := goodIn_r _ [25, 26, 27, 28, 29, 30, 31, 32, 33, 34, 35, 36, 37, 38, 39, 40, 41, 42, 43, 44, 45, 46, 47, 48, 49, 50, 51, 52, 53, 54, 55, 56, 57, 58, 59] (by decide +kernel) (by decide +kernel)
set_option maxRecDepth 20000 in
theorem gX6_readsGuess_X6_comesGuess : GoodIn wsX6_readsGuess (wsV RX6 122 RX6 yX6_comesGuess wsX6_comesGuess) := goodIn_app (goodIn_of _ (by decide +kernel)) ggX6_readsGuess_X6_comesGuess
theorem dX6_readsGuess_0 : decode cX6_readsGuess 0 = .ok (.aload_n 0, 1) := by decide +kernel
theorem dX6_readsGuess_1 : decode cX6_readsGuess 1 = .ok (.invokevirtual 139, 3) := by decide +kernel
theorem dX6_readsGuess_4 : decode cX6_readsGuess 4 = .ok (.istore_n 1, 1) := by decide +kernel
theorem dX6_readsGuess_5 : decode cX6_readsGuess 5 = .ok (.iload_n 1, 1) := by decide +kernel
theorem dX6_readsGuess_6 : decode cX6_readsGuess 6 = .ok (.ifCond .eq 12, 3) := by decide +kernel
theorem dX6_readsGuess_9 : decode cX6_readsGuess 9 = .ok (.aload_n 0, 1) := by decide +kernel
theorem dX6_readsGuess_10 : decode cX6_readsGuess 10 = .ok (.bipush 62, 2) := by decide +kernel
theorem dX6_readsGuess_12 : decode cX6_readsGuess 12 = .ok (.invokevirtual 136, 3) := by decide +kernel
theorem dX6_readsGuess_15 : decode cX6_readsGuess 15 = .ok (.ifCond .ne 5, 3) := by decide +kernel
theorem dX6_readsGuess_18 : decode cX6_readsGuess 18 = .ok (.iconst 0, 1) := by decide +kernel
theorem dX6_readsGuess_19 : decode cX6_readsGuess 19 = .ok (.ireturn, 1) := by decide +kernel
theorem dX6_readsGuess_20 : decode cX6_readsGuess 20 = .ok (.aload_n 0, 1) := by decide +kernel
theorem dX6_readsGuess_21 : decode cX6_readsGuess 21 = .ok (.invokevirtual 133, 3) := by decide +kernel
theorem dX6_readsGuess_24 : decode cX6_readsGuess 24 = .ok (.bipush 97, 2) := by decide +kernel
theorem dX6_readsGuess_26 : decode cX6_readsGuess 26 = .ok (.isub, 1) := by decide +kernel
theorem dX6_readsGuess_27 : decode cX6_readsGuess 27 = .ok (.istore_n 2, 1) := by decide +kernel
theorem dX6_readsGuess_28 : decode cX6_readsGuess 28 = .ok (.aload_n 0, 1) := by decide +kernel
theorem dX6_readsGuess_29 : decode cX6_readsGuess 29 = .ok (.iload_n 2, 1) := by decide +kernel
theorem dX6_readsGuess_30 : decode cX6_readsGuess 30 = .ok (.invokevirtual 93, 3) := by decide +kernel
theorem dX6_readsGuess_33 : decode cX6_readsGuess 33 = .ok (.ifCond .eq 12, 3) := by decide +kernel
theorem dX6_readsGuess_36 : decode cX6_readsGuess 36 = .ok (.iload_n 1, 1) := by decide +kernel
theorem dX6_readsGuess_37 : decode cX6_readsGuess 37 = .ok (.iload_n 2, 1) := by decide +kernel
theorem dX6_readsGuess_38 : decode cX6_readsGuess 38 = .ok (.ishr, 1) := by decide +kernel
theorem dX6_readsGuess_39 : decode cX6_readsGuess 39 = .ok (.iconst 1, 1) := by decide +kernel
theorem dX6_readsGuess_40 : decode cX6_readsGuess 40 = .ok (.iand, 1) := by decide +kernel
theorem dX6_readsGuess_41 : decode cX6_readsGuess 41 = .ok (.iconst 1, 1) := by decide +kernel
theorem dX6_readsGuess_42 : decode cX6_readsGuess 42 = .ok (.if_icmp .ne 5, 3) := by decide +kernel
theorem dX6_readsGuess_45 : decode cX6_readsGuess 45 = .ok (.iconst 0, 1) := by decide +kernel
theorem dX6_readsGuess_46 : decode cX6_readsGuess 46 = .ok (.ireturn, 1) := by decide +kernel
theorem dX6_readsGuess_47 : decode cX6_readsGuess 47 = .ok (.aload_n 0, 1) := by decide +kernel
theorem dX6_readsGuess_48 : decode cX6_readsGuess 48 = .ok (.dup, 1) := by decide +kernel
theorem dX6_readsGuess_49 : decode cX6_readsGuess 49 = .ok (.getfield 130, 3) := by decide +kernel
theorem dX6_readsGuess_52 : decode cX6_readsGuess 52 = .ok (.iconst 1, 1) := by decide +kernel
theorem dX6_readsGuess_53 : decode cX6_readsGuess 53 = .ok (.iadd, 1) := by decide +kernel
theorem dX6_readsGuess_54 : decode cX6_readsGuess 54 = .ok (.putfield 130, 3) := by decide +kernel
theorem dX6_readsGuess_57 : decode cX6_readsGuess 57 = .ok (.aload_n 0, 1) := by decide +kernel
theorem dX6_readsGuess_58 : decode cX6_readsGuess 58 = .ok (.bipush 59, 2) := by decide +kernel
theorem dX6_readsGuess_60 : decode cX6_readsGuess 60 = .ok (.invokevirtual 136, 3) := by decide +kernel
theorem dX6_readsGuess_63 : decode cX6_readsGuess 63 = .ok (.ifCond .ne 5, 3) := by decide +kernel
theorem dX6_readsGuess_66 : decode cX6_readsGuess 66 = .ok (.iconst 0, 1) := by decide +kernel
theorem dX6_readsGuess_67 : decode cX6_readsGuess 67 = .ok (.ireturn, 1) := by decide +kernel
theorem dX6_readsGuess_68 : decode cX6_readsGuess 68 = .ok (.aload_n 0, 1) := by decide +kernel
theorem dX6_readsGuess_69 : decode cX6_readsGuess 69 = .ok (.iload_n 1, 1) := by decide +kernel
theorem dX6_readsGuess_70 : decode cX6_readsGuess 70 = .ok (.iload_n 2, 1) := by decide +kernel
theorem dX6_readsGuess_71 : decode cX6_readsGuess 71 = .ok (.invokevirtual 122, 3) := by decide +kernel
theorem dX6_readsGuess_74 : decode cX6_readsGuess 74 = .ok (.pop, 1) := by decide +kernel
theorem dX6_readsGuess_75 : decode cX6_readsGuess 75 = .ok (.iconst 1, 1) := by decide +kernel
theorem dX6_readsGuess_76 : decode cX6_readsGuess 76 = .ok (.ireturn, 1) := by decide +kernel
set_option maxRecDepth 20000 in
theorem ggX6_statement_X6_sign : GoodIn wsX6_statement wsX6_sign := goodIn_r _ [11, 5, 12, 13, 68, 69, 70, 71, 72, 73, 74, 75, 76, 77, 78, 79, 80, 81, 82, 83, 84, 85, 86, 87, 88, 89, 90, 91, 92, 93, 94, 95, 96, 97, 98] (by decide +kernel) (by decide +kernel)
set_option maxRecDepth 20000 in
theorem gX6_statement_X6_sign : GoodIn wsX6_statement (wsV RX6 133 RX6 yX6_sign wsX6_sign) := goodIn_app (goodIn_of _ (by decide +kernel)) ggX6_statement_X6_sign
set_option maxRecDepth 20000 in
theorem ggX6_statement_X6_readsTwo : GoodIn wsX6_statement wsX6_readsTwo := goodIn_r _ [17, 5, 7, 8, 9, 10, 11, 12, 13, 18, 19, 20, 21, 1, 22, 23, 24, 25, 2, 26, 27, 28, 29, 30, 31, 32, 33, 34, 35, 36, 37, 38, 39, 40, 3, 41, 68, 69, 70, 71, 72, 73, 74, 75, 76, 77, 78, 79, 80, 81, 82, 83, 84, 85, 86, 87, 88, 89, 90, 91, 92, 93, 94, 95, 96, 97, 98] (by decide +kernel) (by decide +kernel)
set_option maxRecDepth 20000 in
theorem gX6_statement_X6_readsTwo : GoodIn wsX6_statement (wsV RX6 142 RX6 yX6_readsTwo wsX6_readsTwo) := goodIn_app (goodIn_of _ (by decide +kernel)) ggX6_statement_X6_readsTwo
set_option maxRecDepth 20000 in
theorem ggX6_statement_X6_readsGuess : GoodIn wsX6_statement wsX6_readsGuess := goodIn_r _ [45, 5, 46, 47, 48, 10, 49, 7, 8, 9, 11, 12, 13, 50, 51, 52, 53, 54, 28, 29, 30, 31, 55, 56, 57, 58, 59, 4, 60, 68, 69, 70, 71, 72, 73, 74, 75, 76, 77, 78, 79, 80, 81, 82, 83, 84, 85, 86, 87, 88, 89, 90, 91, 92, 93, 94, 95, 96, 97, 98] (by decide +kernel) (by decide +kernel)
set_option maxRecDepth 20000 in
theorem gX6_statement_X6_readsGuess : GoodIn wsX6_statement (wsV RX6 146 RX6 yX6_readsGuess wsX6_readsGuess) := goodIn_app (goodIn_of _ (by decide +kernel)) ggX6_statement_X6_readsGuess
set_option maxRecDepth 20000 in
theorem ggX6_statement_X6_letters : GoodIn wsX6_statement wsX6_letters := goodIn_r _ [49, 5, 7, 8, 9, 10, 11, 12, 13, 50, 51, 52, 53, 54, 68, 69, 70, 71, 72, 73, 74, 75, 76, 77, 78, 79, 80, 81, 82, 83, 84, 85, 86, 87, 88, 89, 90, 91, 92, 93, 94, 95, 96, 97, 98] (by decide +kernel) (by decide +kernel)
set_option maxRecDepth 20000 in
theorem gX6_statement_X6_letters : GoodIn wsX6_statement (wsV RX6 139 RX6 yX6_letters wsX6_letters) := goodIn_app (goodIn_of _ (by decide +kernel)) ggX6_statement_X6_letters
set_option maxRecDepth 20000 in
theorem ggX6_statement_X6_takes : GoodIn wsX6_statement wsX6_takes := goodIn_r _ [31, 5, 7, 8, 9, 10, 11, 12, 13, 68, 69, 70, 71, 72, 73, 74, 75, 76, 77, 78, 79, 80, 81, 82, 83, 84, 85, 86, 87, 88, 89, 90, 91, 92, 93, 94, 95, 96, 97, 98] (by decide +kernel) (by decide +kernel)
set_option maxRecDepth 20000 in
theorem gX6_statement_X6_takes : GoodIn wsX6_statement (wsV RX6 136 RX6 yX6_takes wsX6_takes) := goodIn_app (goodIn_of _ (by decide +kernel)) ggX6_statement_X6_takes
set_option maxRecDepth 20000 in
theorem ggX6_statement_X6_comesHand : GoodIn wsX6_statement wsX6_comesHand := goodIn_r _ [64, 65, 1, 66, 67, 68, 69, 70, 71, 72, 73, 74, 75, 76, 77, 78, 79, 80, 81, 82, 83, 84, 85, 86, 87, 88, 89, 90, 91, 92, 93, 94, 95, 96, 97, 98] (by decide +kernel) (by decide +kernel)
set_option maxRecDepth 20000 in
theorem gX6_statement_X6_comesHand : GoodIn wsX6_statement (wsV RX6 96 RX6 yX6_comesHand wsX6_comesHand) := goodIn_app (goodIn_of _ (by decide +kernel)) ggX6_statement_X6_comesHand
theorem dX6_statement_0 : decode cX6_statement 0 = .ok (.aload_n 0, 1) := by decide +kernel
theorem dX6_statement_1 : decode cX6_statement 1 = .ok (.invokevirtual 133, 3) := by decide +kernel
theorem dX6_statement_4 : decode cX6_statement 4 = .ok (.istore_n 1, 1) := by decide +kernel
theorem dX6_statement_5 : decode cX6_statement 5 = .ok (.iload_n 1, 1) := by decide +kernel
theorem dX6_statement_6 : decode cX6_statement 6 = .ok (.bipush 104, 2) := by decide +kernel
theorem dX6_statement_8 : decode cX6_statement 8 = .ok (.if_icmp .ne 20, 3) := by decide +kernel
theorem dX6_statement_11 : decode cX6_statement 11 = .ok (.aload_n 0, 1) := by decide +kernel
theorem dX6_statement_12 : decode cX6_statement 12 = .ok (.getfield 72, 3) := by decide +kernel
theorem dX6_statement_15 : decode cX6_statement 15 = .ok (.bipush 8, 2) := by decide +kernel
theorem dX6_statement_17 : decode cX6_statement 17 = .ok (.if_icmp .ge 7, 3) := by decide +kernel
theorem dX6_statement_20 : decode cX6_statement 20 = .ok (.iconst 1, 1) := by decide +kernel
theorem dX6_statement_21 : decode cX6_statement 21 = .ok (.goto 87, 3) := by decide +kernel
theorem dX6_statement_24 : decode cX6_statement 24 = .ok (.iconst 0, 1) := by decide +kernel
theorem dX6_statement_25 : decode cX6_statement 25 = .ok (.goto 83, 3) := by decide +kernel
theorem dX6_statement_28 : decode cX6_statement 28 = .ok (.iload_n 1, 1) := by decide +kernel
theorem dX6_statement_29 : decode cX6_statement 29 = .ok (.bipush 115, 2) := by decide +kernel
theorem dX6_statement_31 : decode cX6_statement 31 = .ok (.if_icmp .ne 20, 3) := by decide +kernel
theorem dX6_statement_34 : decode cX6_statement 34 = .ok (.aload_n 0, 1) := by decide +kernel
theorem dX6_statement_35 : decode cX6_statement 35 = .ok (.getfield 102, 3) := by decide +kernel
theorem dX6_statement_38 : decode cX6_statement 38 = .ok (.bipush 12, 2) := by decide +kernel
theorem dX6_statement_40 : decode cX6_statement 40 = .ok (.if_icmp .ge 7, 3) := by decide +kernel
theorem dX6_statement_43 : decode cX6_statement 43 = .ok (.iconst 1, 1) := by decide +kernel
theorem dX6_statement_44 : decode cX6_statement 44 = .ok (.goto 64, 3) := by decide +kernel
theorem dX6_statement_47 : decode cX6_statement 47 = .ok (.iconst 0, 1) := by decide +kernel
theorem dX6_statement_48 : decode cX6_statement 48 = .ok (.goto 60, 3) := by decide +kernel
theorem dX6_statement_51 : decode cX6_statement 51 = .ok (.iload_n 1, 1) := by decide +kernel
theorem dX6_statement_52 : decode cX6_statement 52 = .ok (.bipush 116, 2) := by decide +kernel
theorem dX6_statement_54 : decode cX6_statement 54 = .ok (.if_icmp .ne 20, 3) := by decide +kernel
theorem dX6_statement_57 : decode cX6_statement 57 = .ok (.aload_n 0, 1) := by decide +kernel
theorem dX6_statement_58 : decode cX6_statement 58 = .ok (.getfield 116, 3) := by decide +kernel
theorem dX6_statement_61 : decode cX6_statement 61 = .ok (.bipush 12, 2) := by decide +kernel
theorem dX6_statement_63 : decode cX6_statement 63 = .ok (.if_icmp .ge 7, 3) := by decide +kernel
theorem dX6_statement_66 : decode cX6_statement 66 = .ok (.iconst 1, 1) := by decide +kernel
theorem dX6_statement_67 : decode cX6_statement 67 = .ok (.goto 41, 3) := by decide +kernel
theorem dX6_statement_70 : decode cX6_statement 70 = .ok (.iconst 0, 1) := by decide +kernel
theorem dX6_statement_71 : decode cX6_statement 71 = .ok (.goto 37, 3) := by decide +kernel
theorem dX6_statement_74 : decode cX6_statement 74 = .ok (.iload_n 1, 1) := by decide +kernel
theorem dX6_statement_75 : decode cX6_statement 75 = .ok (.bipush 103, 2) := by decide +kernel
theorem dX6_statement_77 : decode cX6_statement 77 = .ok (.if_icmp .ne 20, 3) := by decide +kernel
theorem dX6_statement_80 : decode cX6_statement 80 = .ok (.aload_n 0, 1) := by decide +kernel
theorem dX6_statement_81 : decode cX6_statement 81 = .ok (.getfield 86, 3) := by decide +kernel
theorem dX6_statement_84 : decode cX6_statement 84 = .ok (.bipush 12, 2) := by decide +kernel
theorem dX6_statement_86 : decode cX6_statement 86 = .ok (.if_icmp .ge 7, 3) := by decide +kernel
theorem dX6_statement_89 : decode cX6_statement 89 = .ok (.iconst 1, 1) := by decide +kernel
theorem dX6_statement_90 : decode cX6_statement 90 = .ok (.goto 18, 3) := by decide +kernel
theorem dX6_statement_93 : decode cX6_statement 93 = .ok (.iconst 0, 1) := by decide +kernel
theorem dX6_statement_94 : decode cX6_statement 94 = .ok (.goto 14, 3) := by decide +kernel
theorem dX6_statement_97 : decode cX6_statement 97 = .ok (.iload_n 1, 1) := by decide +kernel
theorem dX6_statement_98 : decode cX6_statement 98 = .ok (.bipush 112, 2) := by decide +kernel
theorem dX6_statement_100 : decode cX6_statement 100 = .ok (.if_icmp .ne 7, 3) := by decide +kernel
theorem dX6_statement_103 : decode cX6_statement 103 = .ok (.iconst 1, 1) := by decide +kernel
theorem dX6_statement_104 : decode cX6_statement 104 = .ok (.goto 4, 3) := by decide +kernel
theorem dX6_statement_107 : decode cX6_statement 107 = .ok (.iconst 0, 1) := by decide +kernel
theorem dX6_statement_108 : decode cX6_statement 108 = .ok (.istore_n 2, 1) := by decide +kernel
theorem dX6_statement_109 : decode cX6_statement 109 = .ok (.iload_n 2, 1) := by decide +kernel
theorem dX6_statement_110 : decode cX6_statement 110 = .ok (.ifCond .ne 5, 3) := by decide +kernel
theorem dX6_statement_113 : decode cX6_statement 113 = .ok (.iconst 0, 1) := by decide +kernel
theorem dX6_statement_114 : decode cX6_statement 114 = .ok (.ireturn, 1) := by decide +kernel
theorem dX6_statement_115 : decode cX6_statement 115 = .ok (.aload_n 0, 1) := by decide +kernel
theorem dX6_statement_116 : decode cX6_statement 116 = .ok (.dup, 1) := by decide +kernel
theorem dX6_statement_117 : decode cX6_statement 117 = .ok (.getfield 130, 3) := by decide +kernel
theorem dX6_statement_120 : decode cX6_statement 120 = .ok (.iconst 1, 1) := by decide +kernel
theorem dX6_statement_121 : decode cX6_statement 121 = .ok (.iadd, 1) := by decide +kernel
theorem dX6_statement_122 : decode cX6_statement 122 = .ok (.putfield 130, 3) := by decide +kernel
theorem dX6_statement_125 : decode cX6_statement 125 = .ok (.iload_n 1, 1) := by decide +kernel
theorem dX6_statement_126 : decode cX6_statement 126 = .ok (.bipush 115, 2) := by decide +kernel
theorem dX6_statement_128 : decode cX6_statement 128 = .ok (.if_icmp .eq 9, 3) := by decide +kernel
theorem dX6_statement_131 : decode cX6_statement 131 = .ok (.iload_n 1, 1) := by decide +kernel
theorem dX6_statement_132 : decode cX6_statement 132 = .ok (.bipush 116, 2) := by decide +kernel
theorem dX6_statement_134 : decode cX6_statement 134 = .ok (.if_icmp .ne 19, 3) := by decide +kernel
theorem dX6_statement_137 : decode cX6_statement 137 = .ok (.aload_n 0, 1) := by decide +kernel
theorem dX6_statement_138 : decode cX6_statement 138 = .ok (.iload_n 1, 1) := by decide +kernel
theorem dX6_statement_139 : decode cX6_statement 139 = .ok (.bipush 115, 2) := by decide +kernel
theorem dX6_statement_141 : decode cX6_statement 141 = .ok (.if_icmp .ne 7, 3) := by decide +kernel
theorem dX6_statement_144 : decode cX6_statement 144 = .ok (.iconst 1, 1) := by decide +kernel
theorem dX6_statement_145 : decode cX6_statement 145 = .ok (.goto 4, 3) := by decide +kernel
theorem dX6_statement_148 : decode cX6_statement 148 = .ok (.iconst 0, 1) := by decide +kernel
theorem dX6_statement_149 : decode cX6_statement 149 = .ok (.invokevirtual 142, 3) := by decide +kernel
theorem dX6_statement_152 : decode cX6_statement 152 = .ok (.ireturn, 1) := by decide +kernel
theorem dX6_statement_153 : decode cX6_statement 153 = .ok (.iload_n 1, 1) := by decide +kernel
theorem dX6_statement_154 : decode cX6_statement 154 = .ok (.bipush 103, 2) := by decide +kernel
theorem dX6_statement_156 : decode cX6_statement 156 = .ok (.if_icmp .ne 8, 3) := by decide +kernel
theorem dX6_statement_159 : decode cX6_statement 159 = .ok (.aload_n 0, 1) := by decide +kernel
theorem dX6_statement_160 : decode cX6_statement 160 = .ok (.invokevirtual 146, 3) := by decide +kernel
theorem dX6_statement_163 : decode cX6_statement 163 = .ok (.ireturn, 1) := by decide +kernel
theorem dX6_statement_164 : decode cX6_statement 164 = .ok (.aload_n 0, 1) := by decide +kernel
theorem dX6_statement_165 : decode cX6_statement 165 = .ok (.invokevirtual 139, 3) := by decide +kernel
theorem dX6_statement_168 : decode cX6_statement 168 = .ok (.istore_n 3, 1) := by decide +kernel
theorem dX6_statement_169 : decode cX6_statement 169 = .ok (.aload_n 0, 1) := by decide +kernel
theorem dX6_statement_170 : decode cX6_statement 170 = .ok (.bipush 59, 2) := by decide +kernel
theorem dX6_statement_172 : decode cX6_statement 172 = .ok (.invokevirtual 136, 3) := by decide +kernel
theorem dX6_statement_175 : decode cX6_statement 175 = .ok (.ifCond .ne 5, 3) := by decide +kernel
theorem dX6_statement_178 : decode cX6_statement 178 = .ok (.iconst 0, 1) := by decide +kernel
theorem dX6_statement_179 : decode cX6_statement 179 = .ok (.ireturn, 1) := by decide +kernel
theorem dX6_statement_180 : decode cX6_statement 180 = .ok (.iload_n 1, 1) := by decide +kernel
theorem dX6_statement_181 : decode cX6_statement 181 = .ok (.bipush 104, 2) := by decide +kernel
theorem dX6_statement_183 : decode cX6_statement 183 = .ok (.if_icmp .ne 12, 3) := by decide +kernel
theorem dX6_statement_186 : decode cX6_statement 186 = .ok (.aload_n 0, 1) := by decide +kernel
theorem dX6_statement_187 : decode cX6_statement 187 = .ok (.iload_n 3, 1) := by decide +kernel
theorem dX6_statement_188 : decode cX6_statement 188 = .ok (.invokevirtual 96, 3) := by decide +kernel
theorem dX6_statement_191 : decode cX6_statement 191 = .ok (.pop, 1) := by decide +kernel
theorem dX6_statement_192 : decode cX6_statement 192 = .ok (.goto 8, 3) := by decide +kernel
theorem dX6_statement_195 : decode cX6_statement 195 = .ok (.aload_n 0, 1) := by decide +kernel
theorem dX6_statement_196 : decode cX6_statement 196 = .ok (.iload_n 3, 1) := by decide +kernel
theorem dX6_statement_197 : decode cX6_statement 197 = .ok (.putfield 83, 3) := by decide +kernel
theorem dX6_statement_200 : decode cX6_statement 200 = .ok (.iconst 1, 1) := by decide +kernel
theorem dX6_statement_201 : decode cX6_statement 201 = .ok (.ireturn, 1) := by decide +kernel
set_option maxRecDepth 20000 in
theorem ggX6_house_X6_statement : GoodIn wsX6_house wsX6_statement := goodIn_r _ [7, 8, 9, 10, 11, 1, 12, 13, 14, 15, 6, 16, 2, 17, 18, 19, 20, 21, 22, 23, 24, 25, 26, 27, 28, 29, 30, 31, 32, 33, 34, 35, 36, 37, 38, 39, 40, 41, 42, 43, 44, 45, 46, 47, 48, 49, 50, 51, 52, 53, 54, 55, 56, 57, 58, 59, 60, 61, 62, 63, 64, 65, 66, 67, 68, 69, 70, 71, 72, 73, 74, 75, 76, 77, 78, 79, 80, 81, 82, 83, 84, 85, 86, 87, 88, 89, 90, 91, 92, 93, 94, 95, 96, 97, 98, 99, 100, 101, 102] (by decide +kernel) (by decide +kernel)
set_option maxRecDepth 20000 in
theorem gX6_house_X6_statement : GoodIn wsX6_house (wsV RX6 150 RX6 yX6_statement wsX6_statement) := goodIn_app (goodIn_of _ (by decide +kernel)) ggX6_house_X6_statement
theorem dX6_house_0 : decode cX6_house 0 = .ok (.aload_n 0, 1) := by decide +kernel
theorem dX6_house_1 : decode cX6_house 1 = .ok (.iconst 0, 1) := by decide +kernel
theorem dX6_house_2 : decode cX6_house 2 = .ok (.putfield 130, 3) := by decide +kernel
theorem dX6_house_5 : decode cX6_house 5 = .ok (.iconst 0, 1) := by decide +kernel
theorem dX6_house_6 : decode cX6_house 6 = .ok (.istore_n 1, 1) := by decide +kernel
theorem dX6_house_7 : decode cX6_house 7 = .ok (.iconst 1, 1) := by decide +kernel
theorem dX6_house_8 : decode cX6_house 8 = .ok (.istore_n 2, 1) := by decide +kernel
theorem dX6_house_9 : decode cX6_house 9 = .ok (.iload_n 2, 1) := by decide +kernel
theorem dX6_house_10 : decode cX6_house 10 = .ok (.ifCond .eq 34, 3) := by decide +kernel
theorem dX6_house_13 : decode cX6_house 13 = .ok (.aload_n 0, 1) := by decide +kernel
theorem dX6_house_14 : decode cX6_house 14 = .ok (.getfield 130, 3) := by decide +kernel
theorem dX6_house_17 : decode cX6_house 17 = .ok (.aload_n 0, 1) := by decide +kernel
theorem dX6_house_18 : decode cX6_house 18 = .ok (.getfield 125, 3) := by decide +kernel
theorem dX6_house_21 : decode cX6_house 21 = .ok (.if_icmp .ge 23, 3) := by decide +kernel
theorem dX6_house_24 : decode cX6_house 24 = .ok (.aload_n 0, 1) := by decide +kernel
theorem dX6_house_25 : decode cX6_house 25 = .ok (.invokevirtual 150, 3) := by decide +kernel
theorem dX6_house_28 : decode cX6_house 28 = .ok (.istore_n 2, 1) := by decide +kernel
theorem dX6_house_29 : decode cX6_house 29 = .ok (.iload_n 1, 1) := by decide +kernel
theorem dX6_house_30 : decode cX6_house 30 = .ok (.iload_n 2, 1) := by decide +kernel
theorem dX6_house_31 : decode cX6_house 31 = .ok (.ifCond .eq 7, 3) := by decide +kernel
theorem dX6_house_34 : decode cX6_house 34 = .ok (.iconst 1, 1) := by decide +kernel
theorem dX6_house_35 : decode cX6_house 35 = .ok (.goto 4, 3) := by decide +kernel
theorem dX6_house_38 : decode cX6_house 38 = .ok (.iconst 0, 1) := by decide +kernel
theorem dX6_house_39 : decode cX6_house 39 = .ok (.iadd, 1) := by decide +kernel
theorem dX6_house_40 : decode cX6_house 40 = .ok (.istore_n 1, 1) := by decide +kernel
theorem dX6_house_41 : decode cX6_house 41 = .ok (.goto (-32), 3) := by decide +kernel
theorem dX6_house_44 : decode cX6_house 44 = .ok (.aload_n 0, 1) := by decide +kernel
theorem dX6_house_45 : decode cX6_house 45 = .ok (.iconst 0, 1) := by decide +kernel
theorem dX6_house_46 : decode cX6_house 46 = .ok (.putfield 125, 3) := by decide +kernel
theorem dX6_house_49 : decode cX6_house 49 = .ok (.iload_n 2, 1) := by decide +kernel
theorem dX6_house_50 : decode cX6_house 50 = .ok (.ifCond .eq 7, 3) := by decide +kernel
theorem dX6_house_53 : decode cX6_house 53 = .ok (.iload_n 1, 1) := by decide +kernel
theorem dX6_house_54 : decode cX6_house 54 = .ok (.goto 10, 3) := by decide +kernel
theorem dX6_house_57 : decode cX6_house 57 = .ok (.bipush (-20), 2) := by decide +kernel
theorem dX6_house_59 : decode cX6_house 59 = .ok (.aload_n 0, 1) := by decide +kernel
theorem dX6_house_60 : decode cX6_house 60 = .ok (.getfield 130, 3) := by decide +kernel
theorem dX6_house_63 : decode cX6_house 63 = .ok (.isub, 1) := by decide +kernel
theorem dX6_house_64 : decode cX6_house 64 = .ok (.ireturn, 1) := by decide +kernel
theorem dX6_findKnown_0 : decode cX6_findKnown 0 = .ok (.iconst 0, 1) := by decide +kernel
theorem dX6_findKnown_1 : decode cX6_findKnown 1 = .ok (.istore_n 1, 1) := by decide +kernel
theorem dX6_findKnown_2 : decode cX6_findKnown 2 = .ok (.iload_n 1, 1) := by decide +kernel
theorem dX6_findKnown_3 : decode cX6_findKnown 3 = .ok (.aload_n 0, 1) := by decide +kernel
theorem dX6_findKnown_4 : decode cX6_findKnown 4 = .ok (.getfield 72, 3) := by decide +kernel
theorem dX6_findKnown_7 : decode cX6_findKnown 7 = .ok (.if_icmp .ge 28, 3) := by decide +kernel
theorem dX6_findKnown_10 : decode cX6_findKnown 10 = .ok (.aload_n 0, 1) := by decide +kernel
theorem dX6_findKnown_11 : decode cX6_findKnown 11 = .ok (.getfield 47, 3) := by decide +kernel
theorem dX6_findKnown_14 : decode cX6_findKnown 14 = .ok (.iload_n 1, 1) := by decide +kernel
theorem dX6_findKnown_15 : decode cX6_findKnown 15 = .ok (.aload_n 0, 1) := by decide +kernel
theorem dX6_findKnown_16 : decode cX6_findKnown 16 = .ok (.getfield 13, 3) := by decide +kernel
theorem dX6_findKnown_19 : decode cX6_findKnown 19 = .ok (.iload_n 1, 1) := by decide +kernel
theorem dX6_findKnown_20 : decode cX6_findKnown 20 = .ok (.iaload, 1) := by decide +kernel
theorem dX6_findKnown_21 : decode cX6_findKnown 21 = .ok (.iastore, 1) := by decide +kernel
theorem dX6_findKnown_22 : decode cX6_findKnown 22 = .ok (.aload_n 0, 1) := by decide +kernel
theorem dX6_findKnown_23 : decode cX6_findKnown 23 = .ok (.getfield 53, 3) := by decide +kernel
theorem dX6_findKnown_26 : decode cX6_findKnown 26 = .ok (.iload_n 1, 1) := by decide +kernel
theorem dX6_findKnown_27 : decode cX6_findKnown 27 = .ok (.iload_n 1, 1) := by decide +kernel
theorem dX6_findKnown_28 : decode cX6_findKnown 28 = .ok (.iastore, 1) := by decide +kernel
theorem dX6_findKnown_29 : decode cX6_findKnown 29 = .ok (.iinc 1 1, 3) := by decide +kernel
theorem dX6_findKnown_32 : decode cX6_findKnown 32 = .ok (.goto (-30), 3) := by decide +kernel
theorem dX6_findKnown_35 : decode cX6_findKnown 35 = .ok (.iconst 0, 1) := by decide +kernel
theorem dX6_findKnown_36 : decode cX6_findKnown 36 = .ok (.istore_n 1, 1) := by decide +kernel
theorem dX6_findKnown_37 : decode cX6_findKnown 37 = .ok (.iload_n 1, 1) := by decide +kernel
theorem dX6_findKnown_38 : decode cX6_findKnown 38 = .ok (.aload_n 0, 1) := by decide +kernel
theorem dX6_findKnown_39 : decode cX6_findKnown 39 = .ok (.getfield 102, 3) := by decide +kernel
theorem dX6_findKnown_42 : decode cX6_findKnown 42 = .ok (.if_icmp .ge 50, 3) := by decide +kernel
theorem dX6_findKnown_45 : decode cX6_findKnown 45 = .ok (.aload_n 0, 1) := by decide +kernel
theorem dX6_findKnown_46 : decode cX6_findKnown 46 = .ok (.getfield 47, 3) := by decide +kernel
theorem dX6_findKnown_49 : decode cX6_findKnown 49 = .ok (.aload_n 0, 1) := by decide +kernel
theorem dX6_findKnown_50 : decode cX6_findKnown 50 = .ok (.getfield 22, 3) := by decide +kernel
theorem dX6_findKnown_53 : decode cX6_findKnown 53 = .ok (.iload_n 1, 1) := by decide +kernel
theorem dX6_findKnown_54 : decode cX6_findKnown 54 = .ok (.iaload, 1) := by decide +kernel
theorem dX6_findKnown_55 : decode cX6_findKnown 55 = .ok (.dup2, 1) := by decide +kernel
theorem dX6_findKnown_56 : decode cX6_findKnown 56 = .ok (.iaload, 1) := by decide +kernel
theorem dX6_findKnown_57 : decode cX6_findKnown 57 = .ok (.aload_n 0, 1) := by decide +kernel
theorem dX6_findKnown_58 : decode cX6_findKnown 58 = .ok (.getfield 153, 3) := by decide +kernel
theorem dX6_findKnown_61 : decode cX6_findKnown 61 = .ok (.iload_n 1, 1) := by decide +kernel
theorem dX6_findKnown_62 : decode cX6_findKnown 62 = .ok (.ishr, 1) := by decide +kernel
theorem dX6_findKnown_63 : decode cX6_findKnown 63 = .ok (.iconst 1, 1) := by decide +kernel
theorem dX6_findKnown_64 : decode cX6_findKnown 64 = .ok (.iand, 1) := by decide +kernel
theorem dX6_findKnown_65 : decode cX6_findKnown 65 = .ok (.iconst 1, 1) := by decide +kernel
theorem dX6_findKnown_66 : decode cX6_findKnown 66 = .ok (.if_icmp .ne 7, 3) := by decide +kernel
theorem dX6_findKnown_69 : decode cX6_findKnown 69 = .ok (.iconst 0, 1) := by decide +kernel
theorem dX6_findKnown_70 : decode cX6_findKnown 70 = .ok (.goto 14, 3) := by decide +kernel
theorem dX6_findKnown_73 : decode cX6_findKnown 73 = .ok (.aload_n 0, 1) := by decide +kernel
theorem dX6_findKnown_74 : decode cX6_findKnown 74 = .ok (.getfield 13, 3) := by decide +kernel
theorem dX6_findKnown_77 : decode cX6_findKnown 77 = .ok (.aload_n 0, 1) := by decide +kernel
theorem dX6_findKnown_78 : decode cX6_findKnown 78 = .ok (.getfield 25, 3) := by decide +kernel
theorem dX6_findKnown_81 : decode cX6_findKnown 81 = .ok (.iload_n 1, 1) := by decide +kernel
theorem dX6_findKnown_82 : decode cX6_findKnown 82 = .ok (.iaload, 1) := by decide +kernel
theorem dX6_findKnown_83 : decode cX6_findKnown 83 = .ok (.iaload, 1) := by decide +kernel
theorem dX6_findKnown_84 : decode cX6_findKnown 84 = .ok (.ior, 1) := by decide +kernel
theorem dX6_findKnown_85 : decode cX6_findKnown 85 = .ok (.iastore, 1) := by decide +kernel
theorem dX6_findKnown_86 : decode cX6_findKnown 86 = .ok (.iinc 1 1, 3) := by decide +kernel
theorem dX6_findKnown_89 : decode cX6_findKnown 89 = .ok (.goto (-52), 3) := by decide +kernel
theorem dX6_findKnown_92 : decode cX6_findKnown 92 = .ok (.iconst 0, 1) := by decide +kernel
theorem dX6_findKnown_93 : decode cX6_findKnown 93 = .ok (.istore_n 1, 1) := by decide +kernel
theorem dX6_findKnown_94 : decode cX6_findKnown 94 = .ok (.iload_n 1, 1) := by decide +kernel
theorem dX6_findKnown_95 : decode cX6_findKnown 95 = .ok (.aload_n 0, 1) := by decide +kernel
theorem dX6_findKnown_96 : decode cX6_findKnown 96 = .ok (.getfield 116, 3) := by decide +kernel
theorem dX6_findKnown_99 : decode cX6_findKnown 99 = .ok (.if_icmp .ge 80, 3) := by decide +kernel
theorem dX6_findKnown_102 : decode cX6_findKnown 102 = .ok (.aload_n 0, 1) := by decide +kernel
theorem dX6_findKnown_103 : decode cX6_findKnown 103 = .ok (.getfield 53, 3) := by decide +kernel
theorem dX6_findKnown_106 : decode cX6_findKnown 106 = .ok (.aload_n 0, 1) := by decide +kernel
theorem dX6_findKnown_107 : decode cX6_findKnown 107 = .ok (.getfield 28, 3) := by decide +kernel
theorem dX6_findKnown_110 : decode cX6_findKnown 110 = .ok (.iload_n 1, 1) := by decide +kernel
theorem dX6_findKnown_111 : decode cX6_findKnown 111 = .ok (.iaload, 1) := by decide +kernel
theorem dX6_findKnown_112 : decode cX6_findKnown 112 = .ok (.iaload, 1) := by decide +kernel
theorem dX6_findKnown_113 : decode cX6_findKnown 113 = .ok (.istore_n 2, 1) := by decide +kernel
theorem dX6_findKnown_114 : decode cX6_findKnown 114 = .ok (.aload_n 0, 1) := by decide +kernel
theorem dX6_findKnown_115 : decode cX6_findKnown 115 = .ok (.getfield 53, 3) := by decide +kernel
theorem dX6_findKnown_118 : decode cX6_findKnown 118 = .ok (.aload_n 0, 1) := by decide +kernel
theorem dX6_findKnown_119 : decode cX6_findKnown 119 = .ok (.getfield 31, 3) := by decide +kernel
theorem dX6_findKnown_122 : decode cX6_findKnown 122 = .ok (.iload_n 1, 1) := by decide +kernel
theorem dX6_findKnown_123 : decode cX6_findKnown 123 = .ok (.iaload, 1) := by decide +kernel
theorem dX6_findKnown_124 : decode cX6_findKnown 124 = .ok (.iaload, 1) := by decide +kernel
theorem dX6_findKnown_125 : decode cX6_findKnown 125 = .ok (.istore_n 3, 1) := by decide +kernel
theorem dX6_findKnown_126 : decode cX6_findKnown 126 = .ok (.iconst 0, 1) := by decide +kernel
theorem dX6_findKnown_127 : decode cX6_findKnown 127 = .ok (.istore 4, 2) := by decide +kernel
theorem dX6_findKnown_129 : decode cX6_findKnown 129 = .ok (.iload 4, 2) := by decide +kernel
theorem dX6_findKnown_131 : decode cX6_findKnown 131 = .ok (.aload_n 0, 1) := by decide +kernel
theorem dX6_findKnown_132 : decode cX6_findKnown 132 = .ok (.getfield 72, 3) := by decide +kernel
theorem dX6_findKnown_135 : decode cX6_findKnown 135 = .ok (.if_icmp .ge 38, 3) := by decide +kernel
theorem dX6_findKnown_138 : decode cX6_findKnown 138 = .ok (.aload_n 0, 1) := by decide +kernel
theorem dX6_findKnown_139 : decode cX6_findKnown 139 = .ok (.getfield 53, 3) := by decide +kernel
theorem dX6_findKnown_142 : decode cX6_findKnown 142 = .ok (.iload 4, 2) := by decide +kernel
theorem dX6_findKnown_144 : decode cX6_findKnown 144 = .ok (.aload_n 0, 1) := by decide +kernel
theorem dX6_findKnown_145 : decode cX6_findKnown 145 = .ok (.getfield 53, 3) := by decide +kernel
theorem dX6_findKnown_148 : decode cX6_findKnown 148 = .ok (.iload 4, 2) := by decide +kernel
theorem dX6_findKnown_150 : decode cX6_findKnown 150 = .ok (.iaload, 1) := by decide +kernel
theorem dX6_findKnown_151 : decode cX6_findKnown 151 = .ok (.iload_n 2, 1) := by decide +kernel
theorem dX6_findKnown_152 : decode cX6_findKnown 152 = .ok (.if_icmp .ne 7, 3) := by decide +kernel
theorem dX6_findKnown_155 : decode cX6_findKnown 155 = .ok (.iload_n 3, 1) := by decide +kernel
theorem dX6_findKnown_156 : decode cX6_findKnown 156 = .ok (.goto 10, 3) := by decide +kernel
theorem dX6_findKnown_159 : decode cX6_findKnown 159 = .ok (.aload_n 0, 1) := by decide +kernel
theorem dX6_findKnown_160 : decode cX6_findKnown 160 = .ok (.getfield 53, 3) := by decide +kernel
theorem dX6_findKnown_163 : decode cX6_findKnown 163 = .ok (.iload 4, 2) := by decide +kernel
theorem dX6_findKnown_165 : decode cX6_findKnown 165 = .ok (.iaload, 1) := by decide +kernel
theorem dX6_findKnown_166 : decode cX6_findKnown 166 = .ok (.iastore, 1) := by decide +kernel
theorem dX6_findKnown_167 : decode cX6_findKnown 167 = .ok (.iinc 4 1, 3) := by decide +kernel
theorem dX6_findKnown_170 : decode cX6_findKnown 170 = .ok (.goto (-41), 3) := by decide +kernel
theorem dX6_findKnown_173 : decode cX6_findKnown 173 = .ok (.iinc 1 1, 3) := by decide +kernel
theorem dX6_findKnown_176 : decode cX6_findKnown 176 = .ok (.goto (-82), 3) := by decide +kernel
theorem dX6_findKnown_179 : decode cX6_findKnown 179 = .ok (.iconst 0, 1) := by decide +kernel
theorem dX6_findKnown_180 : decode cX6_findKnown 180 = .ok (.istore_n 1, 1) := by decide +kernel
theorem dX6_findKnown_181 : decode cX6_findKnown 181 = .ok (.iload_n 1, 1) := by decide +kernel
theorem dX6_findKnown_182 : decode cX6_findKnown 182 = .ok (.aload_n 0, 1) := by decide +kernel
theorem dX6_findKnown_183 : decode cX6_findKnown 183 = .ok (.getfield 72, 3) := by decide +kernel
theorem dX6_findKnown_186 : decode cX6_findKnown 186 = .ok (.if_icmp .ge 66, 3) := by decide +kernel
theorem dX6_findKnown_189 : decode cX6_findKnown 189 = .ok (.aload_n 0, 1) := by decide +kernel
theorem dX6_findKnown_190 : decode cX6_findKnown 190 = .ok (.getfield 50, 3) := by decide +kernel
theorem dX6_findKnown_193 : decode cX6_findKnown 193 = .ok (.iload_n 1, 1) := by decide +kernel
theorem dX6_findKnown_194 : decode cX6_findKnown 194 = .ok (.iconst 0, 1) := by decide +kernel
theorem dX6_findKnown_195 : decode cX6_findKnown 195 = .ok (.iastore, 1) := by decide +kernel
theorem dX6_findKnown_196 : decode cX6_findKnown 196 = .ok (.iconst 0, 1) := by decide +kernel
theorem dX6_findKnown_197 : decode cX6_findKnown 197 = .ok (.istore_n 2, 1) := by decide +kernel
theorem dX6_findKnown_198 : decode cX6_findKnown 198 = .ok (.iload_n 2, 1) := by decide +kernel
theorem dX6_findKnown_199 : decode cX6_findKnown 199 = .ok (.aload_n 0, 1) := by decide +kernel
theorem dX6_findKnown_200 : decode cX6_findKnown 200 = .ok (.getfield 72, 3) := by decide +kernel
theorem dX6_findKnown_203 : decode cX6_findKnown 203 = .ok (.if_icmp .ge 43, 3) := by decide +kernel
theorem dX6_findKnown_206 : decode cX6_findKnown 206 = .ok (.aload_n 0, 1) := by decide +kernel
theorem dX6_findKnown_207 : decode cX6_findKnown 207 = .ok (.getfield 50, 3) := by decide +kernel
theorem dX6_findKnown_210 : decode cX6_findKnown 210 = .ok (.iload_n 1, 1) := by decide +kernel
theorem dX6_findKnown_211 : decode cX6_findKnown 211 = .ok (.dup2, 1) := by decide +kernel
theorem dX6_findKnown_212 : decode cX6_findKnown 212 = .ok (.iaload, 1) := by decide +kernel
theorem dX6_findKnown_213 : decode cX6_findKnown 213 = .ok (.aload_n 0, 1) := by decide +kernel
theorem dX6_findKnown_214 : decode cX6_findKnown 214 = .ok (.getfield 53, 3) := by decide +kernel
theorem dX6_findKnown_217 : decode cX6_findKnown 217 = .ok (.iload_n 2, 1) := by decide +kernel
theorem dX6_findKnown_218 : decode cX6_findKnown 218 = .ok (.iaload, 1) := by decide +kernel
theorem dX6_findKnown_219 : decode cX6_findKnown 219 = .ok (.aload_n 0, 1) := by decide +kernel
theorem dX6_findKnown_220 : decode cX6_findKnown 220 = .ok (.getfield 53, 3) := by decide +kernel
theorem dX6_findKnown_223 : decode cX6_findKnown 223 = .ok (.iload_n 1, 1) := by decide +kernel
theorem dX6_findKnown_224 : decode cX6_findKnown 224 = .ok (.iaload, 1) := by decide +kernel
theorem dX6_findKnown_225 : decode cX6_findKnown 225 = .ok (.if_icmp .ne 12, 3) := by decide +kernel
theorem dX6_findKnown_228 : decode cX6_findKnown 228 = .ok (.aload_n 0, 1) := by decide +kernel
theorem dX6_findKnown_229 : decode cX6_findKnown 229 = .ok (.getfield 47, 3) := by decide +kernel
theorem dX6_findKnown_232 : decode cX6_findKnown 232 = .ok (.iload_n 2, 1) := by decide +kernel
theorem dX6_findKnown_233 : decode cX6_findKnown 233 = .ok (.iaload, 1) := by decide +kernel
theorem dX6_findKnown_234 : decode cX6_findKnown 234 = .ok (.goto 4, 3) := by decide +kernel
theorem dX6_findKnown_237 : decode cX6_findKnown 237 = .ok (.iconst 0, 1) := by decide +kernel
theorem dX6_findKnown_238 : decode cX6_findKnown 238 = .ok (.ior, 1) := by decide +kernel
theorem dX6_findKnown_239 : decode cX6_findKnown 239 = .ok (.iastore, 1) := by decide +kernel
theorem dX6_findKnown_240 : decode cX6_findKnown 240 = .ok (.iinc 2 1, 3) := by decide +kernel
theorem dX6_findKnown_243 : decode cX6_findKnown 243 = .ok (.goto (-45), 3) := by decide +kernel
theorem dX6_findKnown_246 : decode cX6_findKnown 246 = .ok (.iinc 1 1, 3) := by decide +kernel
theorem dX6_findKnown_249 : decode cX6_findKnown 249 = .ok (.goto (-68), 3) := by decide +kernel
theorem dX6_findKnown_252 : decode cX6_findKnown 252 = .ok (.return_, 1) := by decide +kernel
theorem dX6_guessedFrom_0 : decode cX6_guessedFrom 0 = .ok (.iload_n 1, 1) := by decide +kernel
theorem dX6_guessedFrom_1 : decode cX6_guessedFrom 1 = .ok (.istore_n 2, 1) := by decide +kernel
theorem dX6_guessedFrom_2 : decode cX6_guessedFrom 2 = .ok (.iconst (-1), 1) := by decide +kernel
theorem dX6_guessedFrom_3 : decode cX6_guessedFrom 3 = .ok (.istore_n 3, 1) := by decide +kernel
theorem dX6_guessedFrom_4 : decode cX6_guessedFrom 4 = .ok (.iload_n 3, 1) := by decide +kernel
theorem dX6_guessedFrom_5 : decode cX6_guessedFrom 5 = .ok (.iload_n 2, 1) := by decide +kernel
theorem dX6_guessedFrom_6 : decode cX6_guessedFrom 6 = .ok (.if_icmp .eq 56, 3) := by decide +kernel
theorem dX6_guessedFrom_9 : decode cX6_guessedFrom 9 = .ok (.iload_n 2, 1) := by decide +kernel
theorem dX6_guessedFrom_10 : decode cX6_guessedFrom 10 = .ok (.istore_n 3, 1) := by decide +kernel
theorem dX6_guessedFrom_11 : decode cX6_guessedFrom 11 = .ok (.iconst 0, 1) := by decide +kernel
theorem dX6_guessedFrom_12 : decode cX6_guessedFrom 12 = .ok (.istore 4, 2) := by decide +kernel
theorem dX6_guessedFrom_14 : decode cX6_guessedFrom 14 = .ok (.iload 4, 2) := by decide +kernel
theorem dX6_guessedFrom_16 : decode cX6_guessedFrom 16 = .ok (.aload_n 0, 1) := by decide +kernel
theorem dX6_guessedFrom_17 : decode cX6_guessedFrom 17 = .ok (.getfield 86, 3) := by decide +kernel
theorem dX6_guessedFrom_20 : decode cX6_guessedFrom 20 = .ok (.if_icmp .ge 39, 3) := by decide +kernel
theorem dX6_guessedFrom_23 : decode cX6_guessedFrom 23 = .ok (.iload_n 2, 1) := by decide +kernel
theorem dX6_guessedFrom_24 : decode cX6_guessedFrom 24 = .ok (.aload_n 0, 1) := by decide +kernel
theorem dX6_guessedFrom_25 : decode cX6_guessedFrom 25 = .ok (.getfield 34, 3) := by decide +kernel
theorem dX6_guessedFrom_28 : decode cX6_guessedFrom 28 = .ok (.iload 4, 2) := by decide +kernel
theorem dX6_guessedFrom_30 : decode cX6_guessedFrom 30 = .ok (.iaload, 1) := by decide +kernel
theorem dX6_guessedFrom_31 : decode cX6_guessedFrom 31 = .ok (.iload_n 2, 1) := by decide +kernel
theorem dX6_guessedFrom_32 : decode cX6_guessedFrom 32 = .ok (.iconst (-1), 1) := by decide +kernel
theorem dX6_guessedFrom_33 : decode cX6_guessedFrom 33 = .ok (.ixor, 1) := by decide +kernel
theorem dX6_guessedFrom_34 : decode cX6_guessedFrom 34 = .ok (.iand, 1) := by decide +kernel
theorem dX6_guessedFrom_35 : decode cX6_guessedFrom 35 = .ok (.ifCond .ne 15, 3) := by decide +kernel
theorem dX6_guessedFrom_38 : decode cX6_guessedFrom 38 = .ok (.iconst 1, 1) := by decide +kernel
theorem dX6_guessedFrom_39 : decode cX6_guessedFrom 39 = .ok (.aload_n 0, 1) := by decide +kernel
theorem dX6_guessedFrom_40 : decode cX6_guessedFrom 40 = .ok (.getfield 37, 3) := by decide +kernel
theorem dX6_guessedFrom_43 : decode cX6_guessedFrom 43 = .ok (.iload 4, 2) := by decide +kernel
theorem dX6_guessedFrom_45 : decode cX6_guessedFrom 45 = .ok (.iaload, 1) := by decide +kernel
theorem dX6_guessedFrom_46 : decode cX6_guessedFrom 46 = .ok (.ishl, 1) := by decide +kernel
theorem dX6_guessedFrom_47 : decode cX6_guessedFrom 47 = .ok (.goto 4, 3) := by decide +kernel
theorem dX6_guessedFrom_50 : decode cX6_guessedFrom 50 = .ok (.iconst 0, 1) := by decide +kernel
theorem dX6_guessedFrom_51 : decode cX6_guessedFrom 51 = .ok (.ior, 1) := by decide +kernel
theorem dX6_guessedFrom_52 : decode cX6_guessedFrom 52 = .ok (.istore_n 2, 1) := by decide +kernel
theorem dX6_guessedFrom_53 : decode cX6_guessedFrom 53 = .ok (.iinc 4 1, 3) := by decide +kernel
theorem dX6_guessedFrom_56 : decode cX6_guessedFrom 56 = .ok (.goto (-42), 3) := by decide +kernel
theorem dX6_guessedFrom_59 : decode cX6_guessedFrom 59 = .ok (.goto (-55), 3) := by decide +kernel
theorem dX6_guessedFrom_62 : decode cX6_guessedFrom 62 = .ok (.iload_n 2, 1) := by decide +kernel
theorem dX6_guessedFrom_63 : decode cX6_guessedFrom 63 = .ok (.ireturn, 1) := by decide +kernel
set_option maxRecDepth 20000 in
theorem ggX6_knownBy_X6_guessedFrom : GoodIn wsX6_knownBy wsX6_guessedFrom := goodIn_r _ [8, 9, 10, 11, 12, 13, 14, 15, 16, 17, 18, 19, 20, 21, 22, 23, 24, 25, 26, 27, 28, 29, 30, 31, 32, 33, 34, 35, 36, 37, 38, 39, 40, 41, 42] (by decide +kernel) (by decide +kernel)
set_option maxRecDepth 20000 in
theorem gX6_knownBy_X6_guessedFrom : GoodIn wsX6_knownBy (wsV RX6 156 RX6 yX6_guessedFrom wsX6_guessedFrom) := goodIn_app (goodIn_of _ (by decide +kernel)) ggX6_knownBy_X6_guessedFrom
theorem dX6_knownBy_0 : decode cX6_knownBy 0 = .ok (.iload_n 2, 1) := by decide +kernel
theorem dX6_knownBy_1 : decode cX6_knownBy 1 = .ok (.ifCond .eq 10, 3) := by decide +kernel
theorem dX6_knownBy_4 : decode cX6_knownBy 4 = .ok (.aload_n 0, 1) := by decide +kernel
theorem dX6_knownBy_5 : decode cX6_knownBy 5 = .ok (.getfield 83, 3) := by decide +kernel
theorem dX6_knownBy_8 : decode cX6_knownBy 8 = .ok (.goto 4, 3) := by decide +kernel
theorem dX6_knownBy_11 : decode cX6_knownBy 11 = .ok (.iconst 0, 1) := by decide +kernel
theorem dX6_knownBy_12 : decode cX6_knownBy 12 = .ok (.istore_n 3, 1) := by decide +kernel
theorem dX6_knownBy_13 : decode cX6_knownBy 13 = .ok (.iconst 0, 1) := by decide +kernel
theorem dX6_knownBy_14 : decode cX6_knownBy 14 = .ok (.istore 4, 2) := by decide +kernel
theorem dX6_knownBy_16 : decode cX6_knownBy 16 = .ok (.iload 4, 2) := by decide +kernel
theorem dX6_knownBy_18 : decode cX6_knownBy 18 = .ok (.aload_n 0, 1) := by decide +kernel
theorem dX6_knownBy_19 : decode cX6_knownBy 19 = .ok (.getfield 72, 3) := by decide +kernel
theorem dX6_knownBy_22 : decode cX6_knownBy 22 = .ok (.if_icmp .ge 33, 3) := by decide +kernel
theorem dX6_knownBy_25 : decode cX6_knownBy 25 = .ok (.iload_n 3, 1) := by decide +kernel
theorem dX6_knownBy_26 : decode cX6_knownBy 26 = .ok (.iload_n 1, 1) := by decide +kernel
theorem dX6_knownBy_27 : decode cX6_knownBy 27 = .ok (.iload 4, 2) := by decide +kernel
theorem dX6_knownBy_29 : decode cX6_knownBy 29 = .ok (.ishr, 1) := by decide +kernel
theorem dX6_knownBy_30 : decode cX6_knownBy 30 = .ok (.iconst 1, 1) := by decide +kernel
theorem dX6_knownBy_31 : decode cX6_knownBy 31 = .ok (.iand, 1) := by decide +kernel
theorem dX6_knownBy_32 : decode cX6_knownBy 32 = .ok (.iconst 1, 1) := by decide +kernel
theorem dX6_knownBy_33 : decode cX6_knownBy 33 = .ok (.if_icmp .ne 13, 3) := by decide +kernel
theorem dX6_knownBy_36 : decode cX6_knownBy 36 = .ok (.aload_n 0, 1) := by decide +kernel
theorem dX6_knownBy_37 : decode cX6_knownBy 37 = .ok (.getfield 50, 3) := by decide +kernel
theorem dX6_knownBy_40 : decode cX6_knownBy 40 = .ok (.iload 4, 2) := by decide +kernel
theorem dX6_knownBy_42 : decode cX6_knownBy 42 = .ok (.iaload, 1) := by decide +kernel
theorem dX6_knownBy_43 : decode cX6_knownBy 43 = .ok (.goto 4, 3) := by decide +kernel
theorem dX6_knownBy_46 : decode cX6_knownBy 46 = .ok (.iconst 0, 1) := by decide +kernel
theorem dX6_knownBy_47 : decode cX6_knownBy 47 = .ok (.ior, 1) := by decide +kernel
theorem dX6_knownBy_48 : decode cX6_knownBy 48 = .ok (.istore_n 3, 1) := by decide +kernel
theorem dX6_knownBy_49 : decode cX6_knownBy 49 = .ok (.iinc 4 1, 3) := by decide +kernel
theorem dX6_knownBy_52 : decode cX6_knownBy 52 = .ok (.goto (-36), 3) := by decide +kernel
theorem dX6_knownBy_55 : decode cX6_knownBy 55 = .ok (.aload_n 0, 1) := by decide +kernel
theorem dX6_knownBy_56 : decode cX6_knownBy 56 = .ok (.iload_n 3, 1) := by decide +kernel
theorem dX6_knownBy_57 : decode cX6_knownBy 57 = .ok (.invokevirtual 156, 3) := by decide +kernel
theorem dX6_knownBy_60 : decode cX6_knownBy 60 = .ok (.ireturn, 1) := by decide +kernel
set_option maxRecDepth 20000 in
theorem ggX6_knows_X6_isHand : GoodIn wsX6_knows wsX6_isHand := goodIn_r _ [8, 9, 37, 38, 39, 40, 41, 42, 43, 44, 45, 46, 47, 48, 49, 50, 51, 52, 53, 54, 55, 56, 57, 58, 59, 60, 61, 62, 63, 64, 65, 66, 67] (by decide +kernel) (by decide +kernel)
set_option maxRecDepth 20000 in
theorem gX6_knows_X6_isHand : GoodIn wsX6_knows (wsV RX6 99 RX6 yX6_isHand wsX6_isHand) := goodIn_app (goodIn_of _ (by decide +kernel)) ggX6_knows_X6_isHand
set_option maxRecDepth 20000 in
theorem ggX6_knows_X6_no : GoodIn wsX6_knows wsX6_no := goodIn_r _ [13, 14, 37, 38, 39, 40, 41, 42, 43, 44, 45, 46, 47, 48, 49, 50, 51, 52, 53, 54, 55, 56, 57, 58, 59, 60, 61, 62, 63, 64, 65, 66, 67] (by decide +kernel) (by decide +kernel)
set_option maxRecDepth 20000 in
theorem gX6_knows_X6_no : GoodIn wsX6_knows (wsV RX6 79 RX6 yX6_no wsX6_no) := goodIn_app (goodIn_of _ (by decide +kernel)) ggX6_knows_X6_no
set_option maxRecDepth 20000 in
theorem ggX6_knows_X6_isIn : GoodIn wsX6_knows wsX6_isIn := goodIn_r _ [17] (by decide +kernel) (by decide +kernel)
set_option maxRecDepth 20000 in
theorem gX6_knows_X6_isIn : GoodIn wsX6_knows (va_wsS RX6 159 yX6_isIn wsX6_isIn) := goodIn_app (goodIn_of _ (by decide +kernel)) ggX6_knows_X6_isIn
set_option maxRecDepth 20000 in
theorem ggX6_knows_X6_findKnown : GoodIn wsX6_knows wsX6_findKnown := goodIn_r _ [21, 9, 2, 1, 22, 23, 24, 25, 26, 27, 28, 29, 3, 37, 38, 39, 40, 41, 42, 43, 44, 45, 46, 47, 48, 49, 50, 51, 52, 53, 54, 55, 56, 57, 58, 59, 60, 61, 62, 63, 64, 65, 66, 67] (by decide +kernel) (by decide +kernel)
set_option maxRecDepth 20000 in
theorem gX6_knows_X6_findKnown : GoodIn wsX6_knows (wsV RX6 163 RX6 yX6_findKnown wsX6_findKnown) := goodIn_app (goodIn_of _ (by decide +kernel)) ggX6_knows_X6_findKnown
set_option maxRecDepth 20000 in
theorem ggX6_knows_X6_guessedFrom : GoodIn wsX6_knows wsX6_guessedFrom := goodIn_r _ [33, 34, 35, 36, 37, 38, 39, 40, 41, 42, 43, 44, 45, 46, 47, 48, 49, 50, 51, 52, 53, 54, 55, 56, 57, 58, 59, 60, 61, 62, 63, 64, 65, 66, 67] (by decide +kernel) (by decide +kernel)
set_option maxRecDepth 20000 in
theorem gX6_knows_X6_guessedFrom : GoodIn wsX6_knows (wsV RX6 156 RX6 yX6_guessedFrom wsX6_guessedFrom) := goodIn_app (goodIn_of _ (by decide +kernel)) ggX6_knows_X6_guessedFrom
theorem dX6_knows_0 : decode cX6_knows 0 = .ok (.aload_n 0, 1) := by decide +kernel
theorem dX6_knows_1 : decode cX6_knows 1 = .ok (.iload_n 1, 1) := by decide +kernel
theorem dX6_knows_2 : decode cX6_knows 2 = .ok (.invokevirtual 99, 3) := by decide +kernel
theorem dX6_knows_5 : decode cX6_knows 5 = .ok (.ifCond .ne 9, 3) := by decide +kernel
theorem dX6_knows_8 : decode cX6_knows 8 = .ok (.aload_n 0, 1) := by decide +kernel
theorem dX6_knows_9 : decode cX6_knows 9 = .ok (.iconst (-1), 1) := by decide +kernel
theorem dX6_knows_10 : decode cX6_knows 10 = .ok (.invokevirtual 79, 3) := by decide +kernel
theorem dX6_knows_13 : decode cX6_knows 13 = .ok (.ireturn, 1) := by decide +kernel
theorem dX6_knows_14 : decode cX6_knows 14 = .ok (.iload_n 2, 1) := by decide +kernel
theorem dX6_knows_15 : decode cX6_knows 15 = .ok (.iconst 0, 1) := by decide +kernel
theorem dX6_knows_16 : decode cX6_knows 16 = .ok (.iconst 3, 1) := by decide +kernel
theorem dX6_knows_17 : decode cX6_knows 17 = .ok (.invokestatic 159, 3) := by decide +kernel
theorem dX6_knows_20 : decode cX6_knows 20 = .ok (.ifCond .ne 10, 3) := by decide +kernel
theorem dX6_knows_23 : decode cX6_knows 23 = .ok (.aload_n 0, 1) := by decide +kernel
theorem dX6_knows_24 : decode cX6_knows 24 = .ok (.bipush (-2), 2) := by decide +kernel
theorem dX6_knows_26 : decode cX6_knows 26 = .ok (.invokevirtual 79, 3) := by decide +kernel
theorem dX6_knows_29 : decode cX6_knows 29 = .ok (.ireturn, 1) := by decide +kernel
theorem dX6_knows_30 : decode cX6_knows 30 = .ok (.aload_n 0, 1) := by decide +kernel
theorem dX6_knows_31 : decode cX6_knows 31 = .ok (.invokevirtual 163, 3) := by decide +kernel
theorem dX6_knows_34 : decode cX6_knows 34 = .ok (.iload_n 2, 1) := by decide +kernel
theorem dX6_knows_35 : decode cX6_knows 35 = .ok (.ifCond .ne 12, 3) := by decide +kernel
theorem dX6_knows_38 : decode cX6_knows 38 = .ok (.aload_n 0, 1) := by decide +kernel
theorem dX6_knows_39 : decode cX6_knows 39 = .ok (.getfield 13, 3) := by decide +kernel
theorem dX6_knows_42 : decode cX6_knows 42 = .ok (.iload_n 1, 1) := by decide +kernel
theorem dX6_knows_43 : decode cX6_knows 43 = .ok (.iaload, 1) := by decide +kernel
theorem dX6_knows_44 : decode cX6_knows 44 = .ok (.goto 41, 3) := by decide +kernel
theorem dX6_knows_47 : decode cX6_knows 47 = .ok (.iload_n 2, 1) := by decide +kernel
theorem dX6_knows_48 : decode cX6_knows 48 = .ok (.iconst 1, 1) := by decide +kernel
theorem dX6_knows_49 : decode cX6_knows 49 = .ok (.if_icmp .ne 12, 3) := by decide +kernel
theorem dX6_knows_52 : decode cX6_knows 52 = .ok (.aload_n 0, 1) := by decide +kernel
theorem dX6_knows_53 : decode cX6_knows 53 = .ok (.getfield 47, 3) := by decide +kernel
theorem dX6_knows_56 : decode cX6_knows 56 = .ok (.iload_n 1, 1) := by decide +kernel
theorem dX6_knows_57 : decode cX6_knows 57 = .ok (.iaload, 1) := by decide +kernel
theorem dX6_knows_58 : decode cX6_knows 58 = .ok (.goto 27, 3) := by decide +kernel
theorem dX6_knows_61 : decode cX6_knows 61 = .ok (.iload_n 2, 1) := by decide +kernel
theorem dX6_knows_62 : decode cX6_knows 62 = .ok (.iconst 2, 1) := by decide +kernel
theorem dX6_knows_63 : decode cX6_knows 63 = .ok (.if_icmp .ne 12, 3) := by decide +kernel
theorem dX6_knows_66 : decode cX6_knows 66 = .ok (.aload_n 0, 1) := by decide +kernel
theorem dX6_knows_67 : decode cX6_knows 67 = .ok (.getfield 50, 3) := by decide +kernel
theorem dX6_knows_70 : decode cX6_knows 70 = .ok (.iload_n 1, 1) := by decide +kernel
theorem dX6_knows_71 : decode cX6_knows 71 = .ok (.iaload, 1) := by decide +kernel
theorem dX6_knows_72 : decode cX6_knows 72 = .ok (.goto 13, 3) := by decide +kernel
theorem dX6_knows_75 : decode cX6_knows 75 = .ok (.aload_n 0, 1) := by decide +kernel
theorem dX6_knows_76 : decode cX6_knows 76 = .ok (.aload_n 0, 1) := by decide +kernel
theorem dX6_knows_77 : decode cX6_knows 77 = .ok (.getfield 50, 3) := by decide +kernel
theorem dX6_knows_80 : decode cX6_knows 80 = .ok (.iload_n 1, 1) := by decide +kernel
theorem dX6_knows_81 : decode cX6_knows 81 = .ok (.iaload, 1) := by decide +kernel
theorem dX6_knows_82 : decode cX6_knows 82 = .ok (.invokevirtual 156, 3) := by decide +kernel
theorem dX6_knows_85 : decode cX6_knows 85 = .ok (.ireturn, 1) := by decide +kernel
set_option maxRecDepth 20000 in
theorem ggX6_known_X6_no : GoodIn wsX6_known wsX6_no := goodIn_r _ [6, 7, 35, 36, 37, 38, 39, 40, 41, 42, 43, 44, 45, 46, 47, 48, 49, 50, 51, 52, 53, 54, 55, 56, 57, 58, 59, 60, 61, 62, 63, 64, 65] (by decide +kernel) (by decide +kernel)
set_option maxRecDepth 20000 in
theorem gX6_known_X6_no : GoodIn wsX6_known (wsV RX6 79 RX6 yX6_no wsX6_no) := goodIn_app (goodIn_of _ (by decide +kernel)) ggX6_known_X6_no
set_option maxRecDepth 20000 in
theorem ggX6_known_X6_findKnown : GoodIn wsX6_known wsX6_findKnown := goodIn_r _ [11, 1, 12, 13, 14, 15, 16, 17, 18, 19, 20, 21, 22, 35, 36, 37, 38, 39, 40, 41, 42, 43, 44, 45, 46, 47, 48, 49, 50, 51, 52, 53, 54, 55, 56, 57, 58, 59, 60, 61, 62, 63, 64, 65] (by decide +kernel) (by decide +kernel)
set_option maxRecDepth 20000 in
theorem gX6_known_X6_findKnown : GoodIn wsX6_known (wsV RX6 163 RX6 yX6_findKnown wsX6_findKnown) := goodIn_app (goodIn_of _ (by decide +kernel)) ggX6_known_X6_findKnown
set_option maxRecDepth 20000 in
theorem ggX6_known_X6_knownBy : GoodIn wsX6_known wsX6_knownBy := goodIn_r _ [26, 27, 1, 22, 28, 29, 30, 5, 31, 32, 33, 34, 35, 36, 37, 38, 39, 40, 41, 42, 43, 44, 45, 46, 47, 48, 49, 50, 51, 52, 53, 54, 55, 56, 57, 58, 59, 60, 61, 62, 63, 64, 65] (by decide +kernel) (by decide +kernel)
set_option maxRecDepth 20000 in
theorem gX6_known_X6_knownBy : GoodIn wsX6_known (wsV RX6 166 RX6 yX6_knownBy wsX6_knownBy) := goodIn_app (goodIn_of _ (by decide +kernel)) ggX6_known_X6_knownBy
theorem dX6_known_0 : decode cX6_known 0 = .ok (.iload_n 1, 1) := by decide +kernel
theorem dX6_known_1 : decode cX6_known 1 = .ok (.ifCond .lt 12, 3) := by decide +kernel
theorem dX6_known_4 : decode cX6_known 4 = .ok (.iload_n 1, 1) := by decide +kernel
theorem dX6_known_5 : decode cX6_known 5 = .ok (.aload_n 0, 1) := by decide +kernel
theorem dX6_known_6 : decode cX6_known 6 = .ok (.getfield 72, 3) := by decide +kernel
theorem dX6_known_9 : decode cX6_known 9 = .ok (.ishr, 1) := by decide +kernel
theorem dX6_known_10 : decode cX6_known 10 = .ok (.ifCond .eq 9, 3) := by decide +kernel
theorem dX6_known_13 : decode cX6_known 13 = .ok (.aload_n 0, 1) := by decide +kernel
theorem dX6_known_14 : decode cX6_known 14 = .ok (.iconst (-1), 1) := by decide +kernel
theorem dX6_known_15 : decode cX6_known 15 = .ok (.invokevirtual 79, 3) := by decide +kernel
theorem dX6_known_18 : decode cX6_known 18 = .ok (.ireturn, 1) := by decide +kernel
theorem dX6_known_19 : decode cX6_known 19 = .ok (.aload_n 0, 1) := by decide +kernel
theorem dX6_known_20 : decode cX6_known 20 = .ok (.invokevirtual 163, 3) := by decide +kernel
theorem dX6_known_23 : decode cX6_known 23 = .ok (.aload_n 0, 1) := by decide +kernel
theorem dX6_known_24 : decode cX6_known 24 = .ok (.iload_n 1, 1) := by decide +kernel
theorem dX6_known_25 : decode cX6_known 25 = .ok (.iload_n 2, 1) := by decide +kernel
theorem dX6_known_26 : decode cX6_known 26 = .ok (.invokevirtual 166, 3) := by decide +kernel
theorem dX6_known_29 : decode cX6_known 29 = .ok (.ireturn, 1) := by decide +kernel
theorem dX6_overSet_0 : decode cX6_overSet 0 = .ok (.iconst 0, 1) := by decide +kernel
theorem dX6_overSet_1 : decode cX6_overSet 1 = .ok (.istore_n 1, 1) := by decide +kernel
theorem dX6_overSet_2 : decode cX6_overSet 2 = .ok (.iconst 0, 1) := by decide +kernel
theorem dX6_overSet_3 : decode cX6_overSet 3 = .ok (.istore_n 2, 1) := by decide +kernel
theorem dX6_overSet_4 : decode cX6_overSet 4 = .ok (.iload_n 2, 1) := by decide +kernel
theorem dX6_overSet_5 : decode cX6_overSet 5 = .ok (.aload_n 0, 1) := by decide +kernel
theorem dX6_overSet_6 : decode cX6_overSet 6 = .ok (.getfield 72, 3) := by decide +kernel
theorem dX6_overSet_9 : decode cX6_overSet 9 = .ok (.if_icmp .ge 20, 3) := by decide +kernel
theorem dX6_overSet_12 : decode cX6_overSet 12 = .ok (.iload_n 1, 1) := by decide +kernel
theorem dX6_overSet_13 : decode cX6_overSet 13 = .ok (.aload_n 0, 1) := by decide +kernel
theorem dX6_overSet_14 : decode cX6_overSet 14 = .ok (.getfield 19, 3) := by decide +kernel
theorem dX6_overSet_17 : decode cX6_overSet 17 = .ok (.iload_n 2, 1) := by decide +kernel
theorem dX6_overSet_18 : decode cX6_overSet 18 = .ok (.iaload, 1) := by decide +kernel
theorem dX6_overSet_19 : decode cX6_overSet 19 = .ok (.iload_n 2, 1) := by decide +kernel
theorem dX6_overSet_20 : decode cX6_overSet 20 = .ok (.ishl, 1) := by decide +kernel
theorem dX6_overSet_21 : decode cX6_overSet 21 = .ok (.ior, 1) := by decide +kernel
theorem dX6_overSet_22 : decode cX6_overSet 22 = .ok (.istore_n 1, 1) := by decide +kernel
theorem dX6_overSet_23 : decode cX6_overSet 23 = .ok (.iinc 2 1, 3) := by decide +kernel
theorem dX6_overSet_26 : decode cX6_overSet 26 = .ok (.goto (-22), 3) := by decide +kernel
theorem dX6_overSet_29 : decode cX6_overSet 29 = .ok (.iload_n 1, 1) := by decide +kernel
theorem dX6_overSet_30 : decode cX6_overSet 30 = .ok (.ireturn, 1) := by decide +kernel
set_option maxRecDepth 20000 in
theorem ggX6_houseSet_X6_overSet : GoodIn wsX6_houseSet wsX6_overSet := goodIn_r _ [6, 1, 7, 8, 9, 10, 11, 12, 13, 14, 15, 16, 17, 18, 19, 20, 21, 22, 23, 24, 25, 26, 27, 28, 29, 30, 31, 32, 33, 34, 35, 36, 37, 38] (by decide +kernel) (by decide +kernel)
set_option maxRecDepth 20000 in
theorem gX6_houseSet_X6_overSet : GoodIn wsX6_houseSet (wsV RX6 170 RX6 yX6_overSet wsX6_overSet) := goodIn_app (goodIn_of _ (by decide +kernel)) ggX6_houseSet_X6_overSet
theorem dX6_houseSet_0 : decode cX6_houseSet 0 = .ok (.iconst 1, 1) := by decide +kernel
theorem dX6_houseSet_1 : decode cX6_houseSet 1 = .ok (.aload_n 0, 1) := by decide +kernel
theorem dX6_houseSet_2 : decode cX6_houseSet 2 = .ok (.getfield 72, 3) := by decide +kernel
theorem dX6_houseSet_5 : decode cX6_houseSet 5 = .ok (.ishl, 1) := by decide +kernel
theorem dX6_houseSet_6 : decode cX6_houseSet 6 = .ok (.iconst 1, 1) := by decide +kernel
theorem dX6_houseSet_7 : decode cX6_houseSet 7 = .ok (.isub, 1) := by decide +kernel
theorem dX6_houseSet_8 : decode cX6_houseSet 8 = .ok (.aload_n 0, 1) := by decide +kernel
theorem dX6_houseSet_9 : decode cX6_houseSet 9 = .ok (.invokevirtual 170, 3) := by decide +kernel
theorem dX6_houseSet_12 : decode cX6_houseSet 12 = .ok (.iconst (-1), 1) := by decide +kernel
theorem dX6_houseSet_13 : decode cX6_houseSet 13 = .ok (.ixor, 1) := by decide +kernel
theorem dX6_houseSet_14 : decode cX6_houseSet 14 = .ok (.iand, 1) := by decide +kernel
theorem dX6_houseSet_15 : decode cX6_houseSet 15 = .ok (.ireturn, 1) := by decide +kernel
set_option maxRecDepth 20000 in
theorem ggX6_losesIt_X6_knownBy : GoodIn wsX6_losesIt wsX6_knownBy := goodIn_r _ [5, 6, 7, 8, 9, 10, 11, 4, 12, 13, 14, 15, 21, 22, 23, 24, 25, 26, 27, 28, 29, 30, 31, 32, 33, 34, 35, 36, 37, 38, 39, 40, 41, 42, 43, 44, 45, 46, 47, 48, 49, 50, 51] (by decide +kernel) (by decide +kernel)
set_option maxRecDepth 20000 in
theorem gX6_losesIt_X6_knownBy : GoodIn wsX6_losesIt (wsV RX6 166 RX6 yX6_knownBy wsX6_knownBy) := goodIn_app (goodIn_of _ (by decide +kernel)) ggX6_losesIt_X6_knownBy
set_option maxRecDepth 20000 in
theorem ggX6_losesIt_X6_all : GoodIn wsX6_losesIt wsX6_all := goodIn_r _ [19, 20, 21, 22, 23, 24, 25, 26, 27, 28, 29, 30, 31, 32, 33, 34, 35, 36, 37, 38, 39, 40, 41, 42, 43, 44, 45, 46, 47, 48, 49, 50, 51] (by decide +kernel) (by decide +kernel)
set_option maxRecDepth 20000 in
theorem gX6_losesIt_X6_all : GoodIn wsX6_losesIt (wsV RX6 68 RX6 yX6_all wsX6_all) := goodIn_app (goodIn_of _ (by decide +kernel)) ggX6_losesIt_X6_all
theorem dX6_losesIt_0 : decode cX6_losesIt 0 = .ok (.aload_n 0, 1) := by decide +kernel
theorem dX6_losesIt_1 : decode cX6_losesIt 1 = .ok (.iload_n 2, 1) := by decide +kernel
theorem dX6_losesIt_2 : decode cX6_losesIt 2 = .ok (.iload_n 1, 1) := by decide +kernel
theorem dX6_losesIt_3 : decode cX6_losesIt 3 = .ok (.iconst (-1), 1) := by decide +kernel
theorem dX6_losesIt_4 : decode cX6_losesIt 4 = .ok (.ixor, 1) := by decide +kernel
theorem dX6_losesIt_5 : decode cX6_losesIt 5 = .ok (.iand, 1) := by decide +kernel
theorem dX6_losesIt_6 : decode cX6_losesIt 6 = .ok (.iconst 1, 1) := by decide +kernel
theorem dX6_losesIt_7 : decode cX6_losesIt 7 = .ok (.invokevirtual 166, 3) := by decide +kernel
theorem dX6_losesIt_10 : decode cX6_losesIt 10 = .ok (.aload_n 0, 1) := by decide +kernel
theorem dX6_losesIt_11 : decode cX6_losesIt 11 = .ok (.invokevirtual 68, 3) := by decide +kernel
theorem dX6_losesIt_14 : decode cX6_losesIt 14 = .ok (.if_icmp .eq 7, 3) := by decide +kernel
theorem dX6_losesIt_17 : decode cX6_losesIt 17 = .ok (.iconst 1, 1) := by decide +kernel
theorem dX6_losesIt_18 : decode cX6_losesIt 18 = .ok (.goto 4, 3) := by decide +kernel
theorem dX6_losesIt_21 : decode cX6_losesIt 21 = .ok (.iconst 0, 1) := by decide +kernel
theorem dX6_losesIt_22 : decode cX6_losesIt 22 = .ok (.ireturn, 1) := by decide +kernel
set_option maxRecDepth 20000 in
theorem ggX6_carriesIt_X6_knownBy : GoodIn wsX6_carriesIt wsX6_knownBy := goodIn_r _ [6, 7, 1, 8, 9, 10, 11, 5, 12, 13, 14, 15, 21, 22, 23, 24, 25, 26, 27, 28, 29, 30, 31, 32, 33, 34, 35, 36, 37, 38, 39, 40, 41, 42, 43, 44, 45, 46, 47, 48, 49, 50, 51] (by decide +kernel) (by decide +kernel)
set_option maxRecDepth 20000 in
theorem gX6_carriesIt_X6_knownBy : GoodIn wsX6_carriesIt (wsV RX6 166 RX6 yX6_knownBy wsX6_knownBy) := goodIn_app (goodIn_of _ (by decide +kernel)) ggX6_carriesIt_X6_knownBy
set_option maxRecDepth 20000 in
theorem ggX6_carriesIt_X6_all : GoodIn wsX6_carriesIt wsX6_all := goodIn_r _ [19, 20, 21, 22, 23, 24, 25, 26, 27, 28, 29, 30, 31, 32, 33, 34, 35, 36, 37, 38, 39, 40, 41, 42, 43, 44, 45, 46, 47, 48, 49, 50, 51] (by decide +kernel) (by decide +kernel)
set_option maxRecDepth 20000 in
theorem gX6_carriesIt_X6_all : GoodIn wsX6_carriesIt (wsV RX6 68 RX6 yX6_all wsX6_all) := goodIn_app (goodIn_of _ (by decide +kernel)) ggX6_carriesIt_X6_all
theorem dX6_carriesIt_0 : decode cX6_carriesIt 0 = .ok (.aload_n 0, 1) := by decide +kernel
theorem dX6_carriesIt_1 : decode cX6_carriesIt 1 = .ok (.iload_n 1, 1) := by decide +kernel
theorem dX6_carriesIt_2 : decode cX6_carriesIt 2 = .ok (.iconst 1, 1) := by decide +kernel
theorem dX6_carriesIt_3 : decode cX6_carriesIt 3 = .ok (.aload_n 0, 1) := by decide +kernel
theorem dX6_carriesIt_4 : decode cX6_carriesIt 4 = .ok (.getfield 72, 3) := by decide +kernel
theorem dX6_carriesIt_7 : decode cX6_carriesIt 7 = .ok (.ishl, 1) := by decide +kernel
theorem dX6_carriesIt_8 : decode cX6_carriesIt 8 = .ok (.iconst 1, 1) := by decide +kernel
theorem dX6_carriesIt_9 : decode cX6_carriesIt 9 = .ok (.isub, 1) := by decide +kernel
theorem dX6_carriesIt_10 : decode cX6_carriesIt 10 = .ok (.iload_n 2, 1) := by decide +kernel
theorem dX6_carriesIt_11 : decode cX6_carriesIt 11 = .ok (.iconst (-1), 1) := by decide +kernel
theorem dX6_carriesIt_12 : decode cX6_carriesIt 12 = .ok (.ixor, 1) := by decide +kernel
theorem dX6_carriesIt_13 : decode cX6_carriesIt 13 = .ok (.iand, 1) := by decide +kernel
theorem dX6_carriesIt_14 : decode cX6_carriesIt 14 = .ok (.ior, 1) := by decide +kernel
theorem dX6_carriesIt_15 : decode cX6_carriesIt 15 = .ok (.iconst 0, 1) := by decide +kernel
theorem dX6_carriesIt_16 : decode cX6_carriesIt 16 = .ok (.invokevirtual 166, 3) := by decide +kernel
theorem dX6_carriesIt_19 : decode cX6_carriesIt 19 = .ok (.aload_n 0, 1) := by decide +kernel
theorem dX6_carriesIt_20 : decode cX6_carriesIt 20 = .ok (.invokevirtual 68, 3) := by decide +kernel
theorem dX6_carriesIt_23 : decode cX6_carriesIt 23 = .ok (.if_icmp .ne 7, 3) := by decide +kernel
theorem dX6_carriesIt_26 : decode cX6_carriesIt 26 = .ok (.iconst 1, 1) := by decide +kernel
theorem dX6_carriesIt_27 : decode cX6_carriesIt 27 = .ok (.goto 4, 3) := by decide +kernel
theorem dX6_carriesIt_30 : decode cX6_carriesIt 30 = .ok (.iconst 0, 1) := by decide +kernel
theorem dX6_carriesIt_31 : decode cX6_carriesIt 31 = .ok (.ireturn, 1) := by decide +kernel
set_option maxRecDepth 20000 in
theorem ggX6_holdsAgainst_X6_houseSet : GoodIn wsX6_holdsAgainst wsX6_houseSet := goodIn_r _ [6, 1, 7, 8, 9, 5, 10, 11, 41, 42, 43, 44, 45, 46, 47, 48, 49, 50, 51, 52, 53, 54, 55, 56, 57, 58, 59, 60, 61, 62, 63, 64, 65, 66, 67, 68, 69, 70, 71] (by decide +kernel) (by decide +kernel)
set_option maxRecDepth 20000 in
theorem gX6_holdsAgainst_X6_houseSet : GoodIn wsX6_holdsAgainst (wsV RX6 173 RX6 yX6_houseSet wsX6_houseSet) := goodIn_app (goodIn_of _ (by decide +kernel)) ggX6_holdsAgainst_X6_houseSet
set_option maxRecDepth 20000 in
theorem ggX6_holdsAgainst_X6_bits : GoodIn wsX6_holdsAgainst wsX6_bits := goodIn_r _ [14] (by decide +kernel) (by decide +kernel)
set_option maxRecDepth 20000 in
theorem gX6_holdsAgainst_X6_bits : GoodIn wsX6_holdsAgainst (va_wsS RX6 176 yX6_bits wsX6_bits) := goodIn_app (goodIn_of _ (by decide +kernel)) ggX6_holdsAgainst_X6_bits
set_option maxRecDepth 20000 in
theorem ggX6_holdsAgainst_X6_carriesIt : GoodIn wsX6_holdsAgainst wsX6_carriesIt := goodIn_r _ [18, 1, 19, 20, 21, 5, 22, 23, 24, 25, 26, 27, 28, 29, 30, 31, 32, 33, 34, 35, 36, 41, 42, 43, 44, 45, 46, 47, 48, 49, 50, 51, 52, 53, 54, 55, 56, 57, 58, 59, 60, 61, 62, 63, 64, 65, 66, 67, 68, 69, 70, 71] (by decide +kernel) (by decide +kernel)
set_option maxRecDepth 20000 in
theorem gX6_holdsAgainst_X6_carriesIt : GoodIn wsX6_holdsAgainst (wsV RX6 179 RX6 yX6_carriesIt wsX6_carriesIt) := goodIn_app (goodIn_of _ (by decide +kernel)) ggX6_holdsAgainst_X6_carriesIt
set_option maxRecDepth 20000 in
theorem ggX6_holdsAgainst_X6_losesIt : GoodIn wsX6_holdsAgainst wsX6_losesIt := goodIn_r _ [40, 19, 20, 21, 5, 22, 23, 1, 24, 25, 26, 27, 28, 29, 30, 31, 32, 33, 34, 35, 36, 41, 42, 43, 44, 45, 46, 47, 48, 49, 50, 51, 52, 53, 54, 55, 56, 57, 58, 59, 60, 61, 62, 63, 64, 65, 66, 67, 68, 69, 70, 71] (by decide +kernel) (by decide +kernel)
set_option maxRecDepth 20000 in
theorem gX6_holdsAgainst_X6_losesIt : GoodIn wsX6_holdsAgainst (wsV RX6 182 RX6 yX6_losesIt wsX6_losesIt) := goodIn_app (goodIn_of _ (by decide +kernel)) ggX6_holdsAgainst_X6_losesIt
theorem dX6_holdsAgainst_0 : decode cX6_holdsAgainst 0 = .ok (.aload_n 0, 1) := by decide +kernel
theorem dX6_holdsAgainst_1 : decode cX6_holdsAgainst 1 = .ok (.invokevirtual 173, 3) := by decide +kernel
theorem dX6_holdsAgainst_4 : decode cX6_holdsAgainst 4 = .ok (.istore_n 3, 1) := by decide +kernel
theorem dX6_holdsAgainst_5 : decode cX6_holdsAgainst 5 = .ok (.iload_n 1, 1) := by decide +kernel
theorem dX6_holdsAgainst_6 : decode cX6_holdsAgainst 6 = .ok (.iload_n 3, 1) := by decide +kernel
theorem dX6_holdsAgainst_7 : decode cX6_holdsAgainst 7 = .ok (.invokestatic 176, 3) := by decide +kernel
theorem dX6_holdsAgainst_10 : decode cX6_holdsAgainst 10 = .ok (.if_icmp .ge 7, 3) := by decide +kernel
theorem dX6_holdsAgainst_13 : decode cX6_holdsAgainst 13 = .ok (.iload_n 1, 1) := by decide +kernel
theorem dX6_holdsAgainst_14 : decode cX6_holdsAgainst 14 = .ok (.goto 7, 3) := by decide +kernel
theorem dX6_holdsAgainst_17 : decode cX6_holdsAgainst 17 = .ok (.iload_n 3, 1) := by decide +kernel
theorem dX6_holdsAgainst_18 : decode cX6_holdsAgainst 18 = .ok (.invokestatic 176, 3) := by decide +kernel
theorem dX6_holdsAgainst_21 : decode cX6_holdsAgainst 21 = .ok (.istore 4, 2) := by decide +kernel
theorem dX6_holdsAgainst_23 : decode cX6_holdsAgainst 23 = .ok (.iconst 0, 1) := by decide +kernel
theorem dX6_holdsAgainst_24 : decode cX6_holdsAgainst 24 = .ok (.istore 5, 2) := by decide +kernel
theorem dX6_holdsAgainst_26 : decode cX6_holdsAgainst 26 = .ok (.iload 5, 2) := by decide +kernel
theorem dX6_holdsAgainst_28 : decode cX6_holdsAgainst 28 = .ok (.iconst 1, 1) := by decide +kernel
theorem dX6_holdsAgainst_29 : decode cX6_holdsAgainst 29 = .ok (.aload_n 0, 1) := by decide +kernel
theorem dX6_holdsAgainst_30 : decode cX6_holdsAgainst 30 = .ok (.getfield 72, 3) := by decide +kernel
theorem dX6_holdsAgainst_33 : decode cX6_holdsAgainst 33 = .ok (.ishl, 1) := by decide +kernel
theorem dX6_holdsAgainst_34 : decode cX6_holdsAgainst 34 = .ok (.if_icmp .ge 60, 3) := by decide +kernel
theorem dX6_holdsAgainst_37 : decode cX6_holdsAgainst 37 = .ok (.iload 5, 2) := by decide +kernel
theorem dX6_holdsAgainst_39 : decode cX6_holdsAgainst 39 = .ok (.iload_n 3, 1) := by decide +kernel
theorem dX6_holdsAgainst_40 : decode cX6_holdsAgainst 40 = .ok (.iconst (-1), 1) := by decide +kernel
theorem dX6_holdsAgainst_41 : decode cX6_holdsAgainst 41 = .ok (.ixor, 1) := by decide +kernel
theorem dX6_holdsAgainst_42 : decode cX6_holdsAgainst 42 = .ok (.iand, 1) := by decide +kernel
theorem dX6_holdsAgainst_43 : decode cX6_holdsAgainst 43 = .ok (.ifCond .ne 45, 3) := by decide +kernel
theorem dX6_holdsAgainst_46 : decode cX6_holdsAgainst 46 = .ok (.iload 5, 2) := by decide +kernel
theorem dX6_holdsAgainst_48 : decode cX6_holdsAgainst 48 = .ok (.invokestatic 176, 3) := by decide +kernel
theorem dX6_holdsAgainst_51 : decode cX6_holdsAgainst 51 = .ok (.iload 4, 2) := by decide +kernel
theorem dX6_holdsAgainst_53 : decode cX6_holdsAgainst 53 = .ok (.if_icmp .eq 6, 3) := by decide +kernel
theorem dX6_holdsAgainst_56 : decode cX6_holdsAgainst 56 = .ok (.goto 32, 3) := by decide +kernel
theorem dX6_holdsAgainst_59 : decode cX6_holdsAgainst 59 = .ok (.iload_n 2, 1) := by decide +kernel
theorem dX6_holdsAgainst_60 : decode cX6_holdsAgainst 60 = .ok (.ifCond .eq 16, 3) := by decide +kernel
theorem dX6_holdsAgainst_63 : decode cX6_holdsAgainst 63 = .ok (.aload_n 0, 1) := by decide +kernel
theorem dX6_holdsAgainst_64 : decode cX6_holdsAgainst 64 = .ok (.iload 5, 2) := by decide +kernel
theorem dX6_holdsAgainst_66 : decode cX6_holdsAgainst 66 = .ok (.iload_n 3, 1) := by decide +kernel
theorem dX6_holdsAgainst_67 : decode cX6_holdsAgainst 67 = .ok (.invokevirtual 179, 3) := by decide +kernel
theorem dX6_holdsAgainst_70 : decode cX6_holdsAgainst 70 = .ok (.ifCond .eq 18, 3) := by decide +kernel
theorem dX6_holdsAgainst_73 : decode cX6_holdsAgainst 73 = .ok (.goto 13, 3) := by decide +kernel
theorem dX6_holdsAgainst_76 : decode cX6_holdsAgainst 76 = .ok (.aload_n 0, 1) := by decide +kernel
theorem dX6_holdsAgainst_77 : decode cX6_holdsAgainst 77 = .ok (.iload 5, 2) := by decide +kernel
theorem dX6_holdsAgainst_79 : decode cX6_holdsAgainst 79 = .ok (.iload_n 3, 1) := by decide +kernel
theorem dX6_holdsAgainst_80 : decode cX6_holdsAgainst 80 = .ok (.invokevirtual 182, 3) := by decide +kernel
theorem dX6_holdsAgainst_83 : decode cX6_holdsAgainst 83 = .ok (.ifCond .eq 5, 3) := by decide +kernel
theorem dX6_holdsAgainst_86 : decode cX6_holdsAgainst 86 = .ok (.iconst 0, 1) := by decide +kernel
theorem dX6_holdsAgainst_87 : decode cX6_holdsAgainst 87 = .ok (.ireturn, 1) := by decide +kernel
theorem dX6_holdsAgainst_88 : decode cX6_holdsAgainst 88 = .ok (.iinc 5 1, 3) := by decide +kernel
theorem dX6_holdsAgainst_91 : decode cX6_holdsAgainst 91 = .ok (.goto (-65), 3) := by decide +kernel
theorem dX6_holdsAgainst_94 : decode cX6_holdsAgainst 94 = .ok (.iconst 1, 1) := by decide +kernel
theorem dX6_holdsAgainst_95 : decode cX6_holdsAgainst 95 = .ok (.ireturn, 1) := by decide +kernel
set_option maxRecDepth 20000 in
theorem ggX6_holds_X6_findKnown : GoodIn wsX6_holds wsX6_findKnown := goodIn_r _ [5, 6, 7, 8, 9, 10, 11, 12, 13, 14, 15, 16, 17, 59, 60, 61, 62, 63, 64, 65, 66, 67, 68, 69, 70, 71, 72, 73, 74, 75, 76, 77, 78, 79, 80, 81, 82, 83, 84, 85, 86, 87, 88, 89] (by decide +kernel) (by decide +kernel)
set_option maxRecDepth 20000 in
theorem gX6_holds_X6_findKnown : GoodIn wsX6_holds (wsV RX6 163 RX6 yX6_findKnown wsX6_findKnown) := goodIn_app (goodIn_of _ (by decide +kernel)) ggX6_holds_X6_findKnown
set_option maxRecDepth 20000 in
theorem ggX6_holds_X6_holdsAgainst : GoodIn wsX6_holds wsX6_holdsAgainst := goodIn_r _ [21, 6, 22, 23, 24, 4, 25, 26, 27, 28, 29, 30, 31, 32, 33, 34, 35, 36, 37, 38, 39, 40, 41, 42, 17, 43, 44, 45, 46, 47, 48, 49, 50, 51, 52, 53, 54, 55, 56, 57, 58, 59, 60, 61, 62, 63, 64, 65, 66, 67, 68, 69, 70, 71, 72, 73, 74, 75, 76, 77, 78, 79, 80, 81, 82, 83, 84, 85, 86, 87, 88, 89] (by decide +kernel) (by decide +kernel)
set_option maxRecDepth 20000 in
theorem gX6_holds_X6_holdsAgainst : GoodIn wsX6_holds (wsV RX6 185 RX6 yX6_holdsAgainst wsX6_holdsAgainst) := goodIn_app (goodIn_of _ (by decide +kernel)) ggX6_holds_X6_holdsAgainst
theorem dX6_holds_0 : decode cX6_holds 0 = .ok (.aload_n 0, 1) := by decide +kernel
theorem dX6_holds_1 : decode cX6_holds 1 = .ok (.invokevirtual 163, 3) := by decide +kernel
theorem dX6_holds_4 : decode cX6_holds 4 = .ok (.aload_n 0, 1) := by decide +kernel
theorem dX6_holds_5 : decode cX6_holds 5 = .ok (.iload_n 1, 1) := by decide +kernel
theorem dX6_holds_6 : decode cX6_holds 6 = .ok (.iconst 0, 1) := by decide +kernel
theorem dX6_holds_7 : decode cX6_holds 7 = .ok (.invokevirtual 185, 3) := by decide +kernel
theorem dX6_holds_10 : decode cX6_holds 10 = .ok (.ifCond .eq 16, 3) := by decide +kernel
theorem dX6_holds_13 : decode cX6_holds 13 = .ok (.aload_n 0, 1) := by decide +kernel
theorem dX6_holds_14 : decode cX6_holds 14 = .ok (.iload_n 2, 1) := by decide +kernel
theorem dX6_holds_15 : decode cX6_holds 15 = .ok (.iconst 1, 1) := by decide +kernel
theorem dX6_holds_16 : decode cX6_holds 16 = .ok (.invokevirtual 185, 3) := by decide +kernel
theorem dX6_holds_19 : decode cX6_holds 19 = .ok (.ifCond .eq 7, 3) := by decide +kernel
theorem dX6_holds_22 : decode cX6_holds 22 = .ok (.iconst 1, 1) := by decide +kernel
theorem dX6_holds_23 : decode cX6_holds 23 = .ok (.goto 4, 3) := by decide +kernel
theorem dX6_holds_26 : decode cX6_holds 26 = .ok (.iconst 0, 1) := by decide +kernel
theorem dX6_holds_27 : decode cX6_holds 27 = .ok (.ireturn, 1) := by decide +kernel
set_option maxRecDepth 20000 in
theorem ggX6_stays_X6_bound : GoodIn wsX6_stays wsX6_bound := goodIn_r _ [4] (by decide +kernel) (by decide +kernel)
set_option maxRecDepth 20000 in
theorem gX6_stays_X6_bound : GoodIn wsX6_stays (va_wsS RX6 75 yX6_bound wsX6_bound) := goodIn_app (goodIn_of _ (by decide +kernel)) ggX6_stays_X6_bound
set_option maxRecDepth 20000 in
theorem ggX6_stays_X6_no : GoodIn wsX6_stays wsX6_no := goodIn_r _ [8, 9, 67, 68, 69, 70, 71, 72, 73, 74, 75, 76, 77, 78, 79, 80, 81, 82, 83, 84, 85, 86, 87, 88, 89, 90, 91, 92, 93, 94, 95, 96, 97] (by decide +kernel) (by decide +kernel)
set_option maxRecDepth 20000 in
theorem gX6_stays_X6_no : GoodIn wsX6_stays (wsV RX6 79 RX6 yX6_no wsX6_no) := goodIn_app (goodIn_of _ (by decide +kernel)) ggX6_stays_X6_no
set_option maxRecDepth 20000 in
theorem ggX6_stays_X6_findKnown : GoodIn wsX6_stays wsX6_findKnown := goodIn_r _ [13, 14, 15, 16, 17, 18, 19, 20, 21, 22, 23, 24, 25, 67, 68, 69, 70, 71, 72, 73, 74, 75, 76, 77, 78, 79, 80, 81, 82, 83, 84, 85, 86, 87, 88, 89, 90, 91, 92, 93, 94, 95, 96, 97] (by decide +kernel) (by decide +kernel)
set_option maxRecDepth 20000 in
theorem gX6_stays_X6_findKnown : GoodIn wsX6_stays (wsV RX6 163 RX6 yX6_findKnown wsX6_findKnown) := goodIn_app (goodIn_of _ (by decide +kernel)) ggX6_stays_X6_findKnown
set_option maxRecDepth 20000 in
theorem ggX6_stays_X6_holdsAgainst : GoodIn wsX6_stays wsX6_holdsAgainst := goodIn_r _ [29, 14, 30, 31, 32, 3, 33, 34, 35, 36, 37, 38, 39, 40, 41, 42, 43, 44, 45, 46, 47, 48, 49, 50, 25, 51, 52, 53, 54, 55, 56, 57, 58, 59, 60, 61, 62, 63, 64, 65, 66, 67, 68, 69, 70, 71, 72, 73, 74, 75, 76, 77, 78, 79, 80, 81, 82, 83, 84, 85, 86, 87, 88, 89, 90, 91, 92, 93, 94, 95, 96, 97] (by decide +kernel) (by decide +kernel)
set_option maxRecDepth 20000 in
theorem gX6_stays_X6_holdsAgainst : GoodIn wsX6_stays (wsV RX6 185 RX6 yX6_holdsAgainst wsX6_holdsAgainst) := goodIn_app (goodIn_of _ (by decide +kernel)) ggX6_stays_X6_holdsAgainst
theorem dX6_stays_0 : decode cX6_stays 0 = .ok (.iload_n 1, 1) := by decide +kernel
theorem dX6_stays_1 : decode cX6_stays 1 = .ok (.iconst 0, 1) := by decide +kernel
theorem dX6_stays_2 : decode cX6_stays 2 = .ok (.bipush 8, 2) := by decide +kernel
theorem dX6_stays_4 : decode cX6_stays 4 = .ok (.invokestatic 75, 3) := by decide +kernel
theorem dX6_stays_7 : decode cX6_stays 7 = .ok (.istore_n 2, 1) := by decide +kernel
theorem dX6_stays_8 : decode cX6_stays 8 = .ok (.iload_n 2, 1) := by decide +kernel
theorem dX6_stays_9 : decode cX6_stays 9 = .ok (.ifCond .eq 9, 3) := by decide +kernel
theorem dX6_stays_12 : decode cX6_stays 12 = .ok (.aload_n 0, 1) := by decide +kernel
theorem dX6_stays_13 : decode cX6_stays 13 = .ok (.iload_n 2, 1) := by decide +kernel
theorem dX6_stays_14 : decode cX6_stays 14 = .ok (.invokevirtual 79, 3) := by decide +kernel
theorem dX6_stays_17 : decode cX6_stays 17 = .ok (.ireturn, 1) := by decide +kernel
theorem dX6_stays_18 : decode cX6_stays 18 = .ok (.aload_n 0, 1) := by decide +kernel
theorem dX6_stays_19 : decode cX6_stays 19 = .ok (.invokevirtual 163, 3) := by decide +kernel
theorem dX6_stays_22 : decode cX6_stays 22 = .ok (.aload_n 0, 1) := by decide +kernel
theorem dX6_stays_23 : decode cX6_stays 23 = .ok (.iload_n 1, 1) := by decide +kernel
theorem dX6_stays_24 : decode cX6_stays 24 = .ok (.iconst 0, 1) := by decide +kernel
theorem dX6_stays_25 : decode cX6_stays 25 = .ok (.invokevirtual 185, 3) := by decide +kernel
theorem dX6_stays_28 : decode cX6_stays 28 = .ok (.ifCond .eq 7, 3) := by decide +kernel
theorem dX6_stays_31 : decode cX6_stays 31 = .ok (.iconst 1, 1) := by decide +kernel
theorem dX6_stays_32 : decode cX6_stays 32 = .ok (.goto 4, 3) := by decide +kernel
theorem dX6_stays_35 : decode cX6_stays 35 = .ok (.iconst 0, 1) := by decide +kernel
theorem dX6_stays_36 : decode cX6_stays 36 = .ok (.ireturn, 1) := by decide +kernel
set_option maxRecDepth 20000 in
theorem ggX6_safe_X6_bound : GoodIn wsX6_safe wsX6_bound := goodIn_r _ [4] (by decide +kernel) (by decide +kernel)
set_option maxRecDepth 20000 in
theorem gX6_safe_X6_bound : GoodIn wsX6_safe (va_wsS RX6 75 yX6_bound wsX6_bound) := goodIn_app (goodIn_of _ (by decide +kernel)) ggX6_safe_X6_bound
set_option maxRecDepth 20000 in
theorem ggX6_safe_X6_no : GoodIn wsX6_safe wsX6_no := goodIn_r _ [8, 9, 67, 68, 69, 70, 71, 72, 73, 74, 75, 76, 77, 78, 79, 80, 81, 82, 83, 84, 85, 86, 87, 88, 89, 90, 91, 92, 93, 94, 95, 96, 97] (by decide +kernel) (by decide +kernel)
set_option maxRecDepth 20000 in
theorem gX6_safe_X6_no : GoodIn wsX6_safe (wsV RX6 79 RX6 yX6_no wsX6_no) := goodIn_app (goodIn_of _ (by decide +kernel)) ggX6_safe_X6_no
set_option maxRecDepth 20000 in
theorem ggX6_safe_X6_findKnown : GoodIn wsX6_safe wsX6_findKnown := goodIn_r _ [13, 14, 15, 16, 17, 18, 19, 20, 21, 22, 23, 24, 25, 67, 68, 69, 70, 71, 72, 73, 74, 75, 76, 77, 78, 79, 80, 81, 82, 83, 84, 85, 86, 87, 88, 89, 90, 91, 92, 93, 94, 95, 96, 97] (by decide +kernel) (by decide +kernel)
set_option maxRecDepth 20000 in
theorem gX6_safe_X6_findKnown : GoodIn wsX6_safe (wsV RX6 163 RX6 yX6_findKnown wsX6_findKnown) := goodIn_app (goodIn_of _ (by decide +kernel)) ggX6_safe_X6_findKnown
set_option maxRecDepth 20000 in
theorem ggX6_safe_X6_holdsAgainst : GoodIn wsX6_safe wsX6_holdsAgainst := goodIn_r _ [29, 14, 30, 31, 32, 3, 33, 34, 35, 36, 37, 38, 39, 40, 41, 42, 43, 44, 45, 46, 47, 48, 49, 50, 25, 51, 52, 53, 54, 55, 56, 57, 58, 59, 60, 61, 62, 63, 64, 65, 66, 67, 68, 69, 70, 71, 72, 73, 74, 75, 76, 77, 78, 79, 80, 81, 82, 83, 84, 85, 86, 87, 88, 89, 90, 91, 92, 93, 94, 95, 96, 97] (by decide +kernel) (by decide +kernel)
set_option maxRecDepth 20000 in
theorem gX6_safe_X6_holdsAgainst : GoodIn wsX6_safe (wsV RX6 185 RX6 yX6_holdsAgainst wsX6_holdsAgainst) := goodIn_app (goodIn_of _ (by decide +kernel)) ggX6_safe_X6_holdsAgainst
theorem dX6_safe_0 : decode cX6_safe 0 = .ok (.iload_n 1, 1) := by decide +kernel
theorem dX6_safe_1 : decode cX6_safe 1 = .ok (.iconst 0, 1) := by decide +kernel
theorem dX6_safe_2 : decode cX6_safe 2 = .ok (.bipush 8, 2) := by decide +kernel
theorem dX6_safe_4 : decode cX6_safe 4 = .ok (.invokestatic 75, 3) := by decide +kernel
theorem dX6_safe_7 : decode cX6_safe 7 = .ok (.istore_n 2, 1) := by decide +kernel
theorem dX6_safe_8 : decode cX6_safe 8 = .ok (.iload_n 2, 1) := by decide +kernel
theorem dX6_safe_9 : decode cX6_safe 9 = .ok (.ifCond .eq 9, 3) := by decide +kernel
theorem dX6_safe_12 : decode cX6_safe 12 = .ok (.aload_n 0, 1) := by decide +kernel
theorem dX6_safe_13 : decode cX6_safe 13 = .ok (.iload_n 2, 1) := by decide +kernel
theorem dX6_safe_14 : decode cX6_safe 14 = .ok (.invokevirtual 79, 3) := by decide +kernel
theorem dX6_safe_17 : decode cX6_safe 17 = .ok (.ireturn, 1) := by decide +kernel
theorem dX6_safe_18 : decode cX6_safe 18 = .ok (.aload_n 0, 1) := by decide +kernel
theorem dX6_safe_19 : decode cX6_safe 19 = .ok (.invokevirtual 163, 3) := by decide +kernel
theorem dX6_safe_22 : decode cX6_safe 22 = .ok (.aload_n 0, 1) := by decide +kernel
theorem dX6_safe_23 : decode cX6_safe 23 = .ok (.iload_n 1, 1) := by decide +kernel
theorem dX6_safe_24 : decode cX6_safe 24 = .ok (.iconst 1, 1) := by decide +kernel
theorem dX6_safe_25 : decode cX6_safe 25 = .ok (.invokevirtual 185, 3) := by decide +kernel
theorem dX6_safe_28 : decode cX6_safe 28 = .ok (.ifCond .eq 7, 3) := by decide +kernel
theorem dX6_safe_31 : decode cX6_safe 31 = .ok (.iconst 1, 1) := by decide +kernel
theorem dX6_safe_32 : decode cX6_safe 32 = .ok (.goto 4, 3) := by decide +kernel
theorem dX6_safe_35 : decode cX6_safe 35 = .ok (.iconst 0, 1) := by decide +kernel
theorem dX6_safe_36 : decode cX6_safe 36 = .ok (.ireturn, 1) := by decide +kernel
set_option maxRecDepth 20000 in
theorem ggX6_fewest_X6_findKnown : GoodIn wsX6_fewest wsX6_findKnown := goodIn_r _ [6, 1, 7, 8, 9, 10, 11, 12, 13, 14, 15, 16, 17, 55, 56, 57, 58, 59, 60, 61, 62, 63, 64, 65, 66, 67, 68, 69, 70, 71, 72, 73, 74, 75, 76, 77, 78, 79, 80, 81, 82, 83, 84, 85] (by decide +kernel) (by decide +kernel)
set_option maxRecDepth 20000 in
theorem gX6_fewest_X6_findKnown : GoodIn wsX6_fewest (wsV RX6 163 RX6 yX6_findKnown wsX6_findKnown) := goodIn_app (goodIn_of _ (by decide +kernel)) ggX6_fewest_X6_findKnown
set_option maxRecDepth 20000 in
theorem ggX6_fewest_X6_houseSet : GoodIn wsX6_fewest wsX6_houseSet := goodIn_r _ [21, 1, 22, 23, 24, 5, 25, 26, 55, 56, 57, 58, 59, 60, 61, 62, 63, 64, 65, 66, 67, 68, 69, 70, 71, 72, 73, 74, 75, 76, 77, 78, 79, 80, 81, 82, 83, 84, 85] (by decide +kernel) (by decide +kernel)
set_option maxRecDepth 20000 in
theorem gX6_fewest_X6_houseSet : GoodIn wsX6_fewest (wsV RX6 173 RX6 yX6_houseSet wsX6_houseSet) := goodIn_app (goodIn_of _ (by decide +kernel)) ggX6_fewest_X6_houseSet
set_option maxRecDepth 20000 in
theorem ggX6_fewest_X6_bits : GoodIn wsX6_fewest wsX6_bits := goodIn_r _ [29] (by decide +kernel) (by decide +kernel)
set_option maxRecDepth 20000 in
theorem gX6_fewest_X6_bits : GoodIn wsX6_fewest (va_wsS RX6 176 yX6_bits wsX6_bits) := goodIn_app (goodIn_of _ (by decide +kernel)) ggX6_fewest_X6_bits
set_option maxRecDepth 20000 in
theorem ggX6_fewest_X6_carriesIt : GoodIn wsX6_fewest wsX6_carriesIt := goodIn_r _ [33, 1, 34, 35, 36, 5, 37, 38, 17, 39, 40, 41, 42, 43, 44, 45, 46, 47, 48, 49, 50, 55, 56, 57, 58, 59, 60, 61, 62, 63, 64, 65, 66, 67, 68, 69, 70, 71, 72, 73, 74, 75, 76, 77, 78, 79, 80, 81, 82, 83, 84, 85] (by decide +kernel) (by decide +kernel)
set_option maxRecDepth 20000 in
theorem gX6_fewest_X6_carriesIt : GoodIn wsX6_fewest (wsV RX6 179 RX6 yX6_carriesIt wsX6_carriesIt) := goodIn_app (goodIn_of _ (by decide +kernel)) ggX6_fewest_X6_carriesIt
set_option maxRecDepth 20000 in
theorem ggX6_fewest_X6_losesIt : GoodIn wsX6_fewest wsX6_losesIt := goodIn_r _ [54, 34, 35, 36, 5, 37, 38, 1, 17, 39, 40, 41, 42, 43, 44, 45, 46, 47, 48, 49, 50, 55, 56, 57, 58, 59, 60, 61, 62, 63, 64, 65, 66, 67, 68, 69, 70, 71, 72, 73, 74, 75, 76, 77, 78, 79, 80, 81, 82, 83, 84, 85] (by decide +kernel) (by decide +kernel)
set_option maxRecDepth 20000 in
theorem gX6_fewest_X6_losesIt : GoodIn wsX6_fewest (wsV RX6 182 RX6 yX6_losesIt wsX6_losesIt) := goodIn_app (goodIn_of _ (by decide +kernel)) ggX6_fewest_X6_losesIt
theorem dX6_fewest_0 : decode cX6_fewest 0 = .ok (.aload_n 0, 1) := by decide +kernel
theorem dX6_fewest_1 : decode cX6_fewest 1 = .ok (.invokevirtual 163, 3) := by decide +kernel
theorem dX6_fewest_4 : decode cX6_fewest 4 = .ok (.aload_n 0, 1) := by decide +kernel
theorem dX6_fewest_5 : decode cX6_fewest 5 = .ok (.invokevirtual 173, 3) := by decide +kernel
theorem dX6_fewest_8 : decode cX6_fewest 8 = .ok (.istore_n 2, 1) := by decide +kernel
theorem dX6_fewest_9 : decode cX6_fewest 9 = .ok (.bipush (-9), 2) := by decide +kernel
theorem dX6_fewest_11 : decode cX6_fewest 11 = .ok (.istore_n 3, 1) := by decide +kernel
theorem dX6_fewest_12 : decode cX6_fewest 12 = .ok (.iconst 0, 1) := by decide +kernel
theorem dX6_fewest_13 : decode cX6_fewest 13 = .ok (.istore 4, 2) := by decide +kernel
theorem dX6_fewest_15 : decode cX6_fewest 15 = .ok (.iload 4, 2) := by decide +kernel
theorem dX6_fewest_17 : decode cX6_fewest 17 = .ok (.iconst 1, 1) := by decide +kernel
theorem dX6_fewest_18 : decode cX6_fewest 18 = .ok (.aload_n 0, 1) := by decide +kernel
theorem dX6_fewest_19 : decode cX6_fewest 19 = .ok (.getfield 72, 3) := by decide +kernel
theorem dX6_fewest_22 : decode cX6_fewest 22 = .ok (.ishl, 1) := by decide +kernel
theorem dX6_fewest_23 : decode cX6_fewest 23 = .ok (.if_icmp .ge 67, 3) := by decide +kernel
theorem dX6_fewest_26 : decode cX6_fewest 26 = .ok (.iload 4, 2) := by decide +kernel
theorem dX6_fewest_28 : decode cX6_fewest 28 = .ok (.iload_n 2, 1) := by decide +kernel
theorem dX6_fewest_29 : decode cX6_fewest 29 = .ok (.iconst (-1), 1) := by decide +kernel
theorem dX6_fewest_30 : decode cX6_fewest 30 = .ok (.ixor, 1) := by decide +kernel
theorem dX6_fewest_31 : decode cX6_fewest 31 = .ok (.iand, 1) := by decide +kernel
theorem dX6_fewest_32 : decode cX6_fewest 32 = .ok (.ifCond .ne 52, 3) := by decide +kernel
theorem dX6_fewest_35 : decode cX6_fewest 35 = .ok (.iload_n 3, 1) := by decide +kernel
theorem dX6_fewest_36 : decode cX6_fewest 36 = .ok (.ifCond .lt 18, 3) := by decide +kernel
theorem dX6_fewest_39 : decode cX6_fewest 39 = .ok (.iload 4, 2) := by decide +kernel
theorem dX6_fewest_41 : decode cX6_fewest 41 = .ok (.invokestatic 176, 3) := by decide +kernel
theorem dX6_fewest_44 : decode cX6_fewest 44 = .ok (.iload_n 3, 1) := by decide +kernel
theorem dX6_fewest_45 : decode cX6_fewest 45 = .ok (.invokestatic 176, 3) := by decide +kernel
theorem dX6_fewest_48 : decode cX6_fewest 48 = .ok (.if_icmp .lt 6, 3) := by decide +kernel
theorem dX6_fewest_51 : decode cX6_fewest 51 = .ok (.goto 33, 3) := by decide +kernel
theorem dX6_fewest_54 : decode cX6_fewest 54 = .ok (.iload_n 1, 1) := by decide +kernel
theorem dX6_fewest_55 : decode cX6_fewest 55 = .ok (.ifCond .eq 16, 3) := by decide +kernel
theorem dX6_fewest_58 : decode cX6_fewest 58 = .ok (.aload_n 0, 1) := by decide +kernel
theorem dX6_fewest_59 : decode cX6_fewest 59 = .ok (.iload 4, 2) := by decide +kernel
theorem dX6_fewest_61 : decode cX6_fewest 61 = .ok (.iload_n 2, 1) := by decide +kernel
theorem dX6_fewest_62 : decode cX6_fewest 62 = .ok (.invokevirtual 179, 3) := by decide +kernel
theorem dX6_fewest_65 : decode cX6_fewest 65 = .ok (.ifCond .eq 19, 3) := by decide +kernel
theorem dX6_fewest_68 : decode cX6_fewest 68 = .ok (.goto 13, 3) := by decide +kernel
theorem dX6_fewest_71 : decode cX6_fewest 71 = .ok (.aload_n 0, 1) := by decide +kernel
theorem dX6_fewest_72 : decode cX6_fewest 72 = .ok (.iload 4, 2) := by decide +kernel
theorem dX6_fewest_74 : decode cX6_fewest 74 = .ok (.iload_n 2, 1) := by decide +kernel
theorem dX6_fewest_75 : decode cX6_fewest 75 = .ok (.invokevirtual 182, 3) := by decide +kernel
theorem dX6_fewest_78 : decode cX6_fewest 78 = .ok (.ifCond .eq 6, 3) := by decide +kernel
theorem dX6_fewest_81 : decode cX6_fewest 81 = .ok (.iload 4, 2) := by decide +kernel
theorem dX6_fewest_83 : decode cX6_fewest 83 = .ok (.istore_n 3, 1) := by decide +kernel
theorem dX6_fewest_84 : decode cX6_fewest 84 = .ok (.iinc 4 1, 3) := by decide +kernel
theorem dX6_fewest_87 : decode cX6_fewest 87 = .ok (.goto (-72), 3) := by decide +kernel
theorem dX6_fewest_90 : decode cX6_fewest 90 = .ok (.iload_n 3, 1) := by decide +kernel
theorem dX6_fewest_91 : decode cX6_fewest 91 = .ok (.ireturn, 1) := by decide +kernel
set_option maxRecDepth 20000 in
theorem ggX6_losers_X6_fewest : GoodIn wsX6_losers wsX6_fewest := goodIn_r _ [5, 6, 7, 8, 9, 4, 10, 11, 12, 13, 14, 15, 16, 17, 18, 19, 20, 21, 22, 23, 24, 25, 26, 27, 28, 29, 30, 31, 32, 33, 34, 35, 36, 37, 38, 39, 40, 41, 42, 43, 44, 45, 46, 47, 48, 49, 50, 51, 52, 53, 54, 55, 56, 57, 58, 59, 60, 61, 62, 63, 64, 65, 66, 67, 68, 69, 70, 71, 72, 73, 74, 75, 76, 77, 78, 79, 80, 81, 82, 83, 84, 85, 86, 87, 88, 89] (by decide +kernel) (by decide +kernel)
set_option maxRecDepth 20000 in
theorem gX6_losers_X6_fewest : GoodIn wsX6_losers (wsV RX6 189 RX6 yX6_fewest wsX6_fewest) := goodIn_app (goodIn_of _ (by decide +kernel)) ggX6_losers_X6_fewest
theorem dX6_losers_0 : decode cX6_losers 0 = .ok (.aload_n 0, 1) := by decide +kernel
theorem dX6_losers_1 : decode cX6_losers 1 = .ok (.iconst 0, 1) := by decide +kernel
theorem dX6_losers_2 : decode cX6_losers 2 = .ok (.invokevirtual 189, 3) := by decide +kernel
theorem dX6_losers_5 : decode cX6_losers 5 = .ok (.ireturn, 1) := by decide +kernel
set_option maxRecDepth 20000 in
theorem ggX6_carriers_X6_fewest : GoodIn wsX6_carriers wsX6_fewest := goodIn_r _ [5, 6, 7, 8, 9, 4, 10, 11, 12, 13, 14, 15, 16, 17, 18, 19, 20, 21, 22, 23, 24, 25, 26, 27, 28, 29, 30, 31, 32, 33, 34, 35, 36, 37, 38, 39, 40, 41, 42, 43, 44, 45, 46, 47, 48, 49, 50, 51, 52, 53, 54, 55, 56, 57, 58, 59, 60, 61, 62, 63, 64, 65, 66, 67, 68, 69, 70, 71, 72, 73, 74, 75, 76, 77, 78, 79, 80, 81, 82, 83, 84, 85, 86, 87, 88, 89] (by decide +kernel) (by decide +kernel)
set_option maxRecDepth 20000 in
theorem gX6_carriers_X6_fewest : GoodIn wsX6_carriers (wsV RX6 189 RX6 yX6_fewest wsX6_fewest) := goodIn_app (goodIn_of _ (by decide +kernel)) ggX6_carriers_X6_fewest
theorem dX6_carriers_0 : decode cX6_carriers 0 = .ok (.aload_n 0, 1) := by decide +kernel
theorem dX6_carriers_1 : decode cX6_carriers 1 = .ok (.iconst 1, 1) := by decide +kernel
theorem dX6_carriers_2 : decode cX6_carriers 2 = .ok (.invokevirtual 189, 3) := by decide +kernel
theorem dX6_carriers_5 : decode cX6_carriers 5 = .ok (.ireturn, 1) := by decide +kernel
set_option maxRecDepth 20000 in
theorem ggX6_keys_X6_findKnown : GoodIn wsX6_keys wsX6_findKnown := goodIn_r _ [6, 1, 7, 8, 9, 10, 11, 12, 13, 14, 15, 16, 17, 48, 49, 50, 51, 52, 53, 54, 55, 56, 57, 58, 59, 60, 61, 62, 63, 64, 65, 66, 67, 68, 69, 70, 71, 72, 73, 74, 75, 76, 77, 78] (by decide +kernel) (by decide +kernel)
set_option maxRecDepth 20000 in
theorem gX6_keys_X6_findKnown : GoodIn wsX6_keys (wsV RX6 163 RX6 yX6_findKnown wsX6_findKnown) := goodIn_app (goodIn_of _ (by decide +kernel)) ggX6_keys_X6_findKnown
set_option maxRecDepth 20000 in
theorem ggX6_keys_X6_houseSet : GoodIn wsX6_keys wsX6_houseSet := goodIn_r _ [21, 1, 22, 23, 24, 5, 25, 26, 48, 49, 50, 51, 52, 53, 54, 55, 56, 57, 58, 59, 60, 61, 62, 63, 64, 65, 66, 67, 68, 69, 70, 71, 72, 73, 74, 75, 76, 77, 78] (by decide +kernel) (by decide +kernel)
set_option maxRecDepth 20000 in
theorem gX6_keys_X6_houseSet : GoodIn wsX6_keys (wsV RX6 173 RX6 yX6_houseSet wsX6_houseSet) := goodIn_app (goodIn_of _ (by decide +kernel)) ggX6_keys_X6_houseSet
set_option maxRecDepth 20000 in
theorem ggX6_keys_X6_losesIt : GoodIn wsX6_keys wsX6_losesIt := goodIn_r _ [30, 31, 32, 33, 5, 34, 35, 1, 17, 36, 37, 38, 39, 40, 41, 42, 43, 44, 45, 46, 47, 48, 49, 50, 51, 52, 53, 54, 55, 56, 57, 58, 59, 60, 61, 62, 63, 64, 65, 66, 67, 68, 69, 70, 71, 72, 73, 74, 75, 76, 77, 78] (by decide +kernel) (by decide +kernel)
set_option maxRecDepth 20000 in
theorem gX6_keys_X6_losesIt : GoodIn wsX6_keys (wsV RX6 182 RX6 yX6_losesIt wsX6_losesIt) := goodIn_app (goodIn_of _ (by decide +kernel)) ggX6_keys_X6_losesIt
theorem dX6_keys_0 : decode cX6_keys 0 = .ok (.aload_n 0, 1) := by decide +kernel
theorem dX6_keys_1 : decode cX6_keys 1 = .ok (.invokevirtual 163, 3) := by decide +kernel
theorem dX6_keys_4 : decode cX6_keys 4 = .ok (.aload_n 0, 1) := by decide +kernel
theorem dX6_keys_5 : decode cX6_keys 5 = .ok (.invokevirtual 173, 3) := by decide +kernel
theorem dX6_keys_8 : decode cX6_keys 8 = .ok (.istore_n 1, 1) := by decide +kernel
theorem dX6_keys_9 : decode cX6_keys 9 = .ok (.iconst 0, 1) := by decide +kernel
theorem dX6_keys_10 : decode cX6_keys 10 = .ok (.istore_n 2, 1) := by decide +kernel
theorem dX6_keys_11 : decode cX6_keys 11 = .ok (.iconst 0, 1) := by decide +kernel
theorem dX6_keys_12 : decode cX6_keys 12 = .ok (.istore_n 3, 1) := by decide +kernel
theorem dX6_keys_13 : decode cX6_keys 13 = .ok (.iload_n 3, 1) := by decide +kernel
theorem dX6_keys_14 : decode cX6_keys 14 = .ok (.aload_n 0, 1) := by decide +kernel
theorem dX6_keys_15 : decode cX6_keys 15 = .ok (.getfield 72, 3) := by decide +kernel
theorem dX6_keys_18 : decode cX6_keys 18 = .ok (.if_icmp .ge 39, 3) := by decide +kernel
theorem dX6_keys_21 : decode cX6_keys 21 = .ok (.iload_n 2, 1) := by decide +kernel
theorem dX6_keys_22 : decode cX6_keys 22 = .ok (.iload_n 1, 1) := by decide +kernel
theorem dX6_keys_23 : decode cX6_keys 23 = .ok (.iload_n 3, 1) := by decide +kernel
theorem dX6_keys_24 : decode cX6_keys 24 = .ok (.ishr, 1) := by decide +kernel
theorem dX6_keys_25 : decode cX6_keys 25 = .ok (.iconst 1, 1) := by decide +kernel
theorem dX6_keys_26 : decode cX6_keys 26 = .ok (.iand, 1) := by decide +kernel
theorem dX6_keys_27 : decode cX6_keys 27 = .ok (.iconst 1, 1) := by decide +kernel
theorem dX6_keys_28 : decode cX6_keys 28 = .ok (.if_icmp .ne 20, 3) := by decide +kernel
theorem dX6_keys_31 : decode cX6_keys 31 = .ok (.aload_n 0, 1) := by decide +kernel
theorem dX6_keys_32 : decode cX6_keys 32 = .ok (.iconst 1, 1) := by decide +kernel
theorem dX6_keys_33 : decode cX6_keys 33 = .ok (.iload_n 3, 1) := by decide +kernel
theorem dX6_keys_34 : decode cX6_keys 34 = .ok (.ishl, 1) := by decide +kernel
theorem dX6_keys_35 : decode cX6_keys 35 = .ok (.iload_n 1, 1) := by decide +kernel
theorem dX6_keys_36 : decode cX6_keys 36 = .ok (.invokevirtual 182, 3) := by decide +kernel
theorem dX6_keys_39 : decode cX6_keys 39 = .ok (.ifCond .eq 9, 3) := by decide +kernel
theorem dX6_keys_42 : decode cX6_keys 42 = .ok (.iconst 1, 1) := by decide +kernel
theorem dX6_keys_43 : decode cX6_keys 43 = .ok (.iload_n 3, 1) := by decide +kernel
theorem dX6_keys_44 : decode cX6_keys 44 = .ok (.ishl, 1) := by decide +kernel
theorem dX6_keys_45 : decode cX6_keys 45 = .ok (.goto 4, 3) := by decide +kernel
theorem dX6_keys_48 : decode cX6_keys 48 = .ok (.iconst 0, 1) := by decide +kernel
theorem dX6_keys_49 : decode cX6_keys 49 = .ok (.ior, 1) := by decide +kernel
theorem dX6_keys_50 : decode cX6_keys 50 = .ok (.istore_n 2, 1) := by decide +kernel
theorem dX6_keys_51 : decode cX6_keys 51 = .ok (.iinc 3 1, 3) := by decide +kernel
theorem dX6_keys_54 : decode cX6_keys 54 = .ok (.goto (-41), 3) := by decide +kernel
theorem dX6_keys_57 : decode cX6_keys 57 = .ok (.iload_n 2, 1) := by decide +kernel
theorem dX6_keys_58 : decode cX6_keys 58 = .ok (.ireturn, 1) := by decide +kernel
theorem dX6_notTwo_0 : decode cX6_notTwo 0 = .ok (.iload_n 0, 1) := by decide +kernel
theorem dX6_notTwo_1 : decode cX6_notTwo 1 = .ok (.ifCond .lt 7, 3) := by decide +kernel
theorem dX6_notTwo_4 : decode cX6_notTwo 4 = .ok (.iload_n 1, 1) := by decide +kernel
theorem dX6_notTwo_5 : decode cX6_notTwo 5 = .ok (.ifCond .ge 8, 3) := by decide +kernel
theorem dX6_notTwo_8 : decode cX6_notTwo 8 = .ok (.bipush (-4), 2) := by decide +kernel
theorem dX6_notTwo_10 : decode cX6_notTwo 10 = .ok (.goto 21, 3) := by decide +kernel
theorem dX6_notTwo_13 : decode cX6_notTwo 13 = .ok (.iload_n 0, 1) := by decide +kernel
theorem dX6_notTwo_14 : decode cX6_notTwo 14 = .ok (.bipush 8, 2) := by decide +kernel
theorem dX6_notTwo_16 : decode cX6_notTwo 16 = .ok (.if_icmp .gt 9, 3) := by decide +kernel
theorem dX6_notTwo_19 : decode cX6_notTwo 19 = .ok (.iload_n 1, 1) := by decide +kernel
theorem dX6_notTwo_20 : decode cX6_notTwo 20 = .ok (.bipush 8, 2) := by decide +kernel
theorem dX6_notTwo_22 : decode cX6_notTwo 22 = .ok (.if_icmp .le 8, 3) := by decide +kernel
theorem dX6_notTwo_25 : decode cX6_notTwo 25 = .ok (.bipush (-6), 2) := by decide +kernel
theorem dX6_notTwo_27 : decode cX6_notTwo 27 = .ok (.goto 4, 3) := by decide +kernel
theorem dX6_notTwo_30 : decode cX6_notTwo 30 = .ok (.iconst 0, 1) := by decide +kernel
theorem dX6_notTwo_31 : decode cX6_notTwo 31 = .ok (.ireturn, 1) := by decide +kernel
set_option maxRecDepth 20000 in
theorem ggX6_monday_X6_isHand : GoodIn wsX6_monday wsX6_isHand := goodIn_r _ [7, 8, 75, 76, 77, 78, 79, 80, 81, 82, 83, 84, 85, 86, 87, 88, 89, 90, 91, 92, 93, 94, 95, 96, 97, 98, 99, 100, 101, 102, 103, 104, 105] (by decide +kernel) (by decide +kernel)
set_option maxRecDepth 20000 in
theorem gX6_monday_X6_isHand : GoodIn wsX6_monday (wsV RX6 99 RX6 yX6_isHand wsX6_isHand) := goodIn_app (goodIn_of _ (by decide +kernel)) ggX6_monday_X6_isHand
set_option maxRecDepth 20000 in
theorem ggX6_monday_X6_no : GoodIn wsX6_monday wsX6_no := goodIn_r _ [12, 13, 75, 76, 77, 78, 79, 80, 81, 82, 83, 84, 85, 86, 87, 88, 89, 90, 91, 92, 93, 94, 95, 96, 97, 98, 99, 100, 101, 102, 103, 104, 105] (by decide +kernel) (by decide +kernel)
set_option maxRecDepth 20000 in
theorem gX6_monday_X6_no : GoodIn wsX6_monday (wsV RX6 79 RX6 yX6_no wsX6_no) := goodIn_app (goodIn_of _ (by decide +kernel)) ggX6_monday_X6_no
set_option maxRecDepth 20000 in
theorem ggX6_monday_X6_notTwo : GoodIn wsX6_monday wsX6_notTwo := goodIn_r _ [16] (by decide +kernel) (by decide +kernel)
set_option maxRecDepth 20000 in
theorem gX6_monday_X6_notTwo : GoodIn wsX6_monday (va_wsS RX6 193 yX6_notTwo wsX6_notTwo) := goodIn_app (goodIn_of _ (by decide +kernel)) ggX6_monday_X6_notTwo
set_option maxRecDepth 20000 in
theorem ggX6_monday_X6_all : GoodIn wsX6_monday wsX6_all := goodIn_r _ [20, 21, 75, 76, 77, 78, 79, 80, 81, 82, 83, 84, 85, 86, 87, 88, 89, 90, 91, 92, 93, 94, 95, 96, 97, 98, 99, 100, 101, 102, 103, 104, 105] (by decide +kernel) (by decide +kernel)
set_option maxRecDepth 20000 in
theorem gX6_monday_X6_all : GoodIn wsX6_monday (wsV RX6 68 RX6 yX6_all wsX6_all) := goodIn_app (goodIn_of _ (by decide +kernel)) ggX6_monday_X6_all
set_option maxRecDepth 20000 in
theorem ggX6_monday_X6_bits : GoodIn wsX6_monday wsX6_bits := goodIn_r _ [24] (by decide +kernel) (by decide +kernel)
set_option maxRecDepth 20000 in
theorem gX6_monday_X6_bits : GoodIn wsX6_monday (va_wsS RX6 176 yX6_bits wsX6_bits) := goodIn_app (goodIn_of _ (by decide +kernel)) ggX6_monday_X6_bits
set_option maxRecDepth 20000 in
theorem ggX6_monday_X6_holds : GoodIn wsX6_monday wsX6_holds := goodIn_r _ [28, 29, 30, 31, 6, 32, 8, 33, 2, 34, 35, 36, 37, 38, 39, 40, 41, 42, 43, 44, 45, 46, 47, 48, 49, 50, 51, 52, 53, 54, 1, 22, 23, 24, 55, 56, 57, 58, 59, 60, 61, 62, 63, 64, 65, 66, 67, 68, 69, 70, 17, 18, 19, 20, 21, 71, 72, 73, 74, 75, 76, 77, 78, 79, 80, 81, 82, 83, 84, 85, 86, 87, 88, 89, 90, 91, 92, 93, 94, 95, 96, 97, 98, 99, 100, 101, 102, 103, 104, 105] (by decide +kernel) (by decide +kernel)
set_option maxRecDepth 20000 in
theorem gX6_monday_X6_holds : GoodIn wsX6_monday (wsV RX6 196 RX6 yX6_holds wsX6_holds) := goodIn_app (goodIn_of _ (by decide +kernel)) ggX6_monday_X6_holds
theorem dX6_monday_0 : decode cX6_monday 0 = .ok (.aload_n 0, 1) := by decide +kernel
theorem dX6_monday_1 : decode cX6_monday 1 = .ok (.iload_n 1, 1) := by decide +kernel
theorem dX6_monday_2 : decode cX6_monday 2 = .ok (.invokevirtual 99, 3) := by decide +kernel
theorem dX6_monday_5 : decode cX6_monday 5 = .ok (.ifCond .ne 9, 3) := by decide +kernel
theorem dX6_monday_8 : decode cX6_monday 8 = .ok (.aload_n 0, 1) := by decide +kernel
theorem dX6_monday_9 : decode cX6_monday 9 = .ok (.iconst (-1), 1) := by decide +kernel
theorem dX6_monday_10 : decode cX6_monday 10 = .ok (.invokevirtual 79, 3) := by decide +kernel
theorem dX6_monday_13 : decode cX6_monday 13 = .ok (.ireturn, 1) := by decide +kernel
theorem dX6_monday_14 : decode cX6_monday 14 = .ok (.aload_n 0, 1) := by decide +kernel
theorem dX6_monday_15 : decode cX6_monday 15 = .ok (.getfield 19, 3) := by decide +kernel
theorem dX6_monday_18 : decode cX6_monday 18 = .ok (.iload_n 1, 1) := by decide +kernel
theorem dX6_monday_19 : decode cX6_monday 19 = .ok (.iaload, 1) := by decide +kernel
theorem dX6_monday_20 : decode cX6_monday 20 = .ok (.iconst 1, 1) := by decide +kernel
theorem dX6_monday_21 : decode cX6_monday 21 = .ok (.if_icmp .ne 8, 3) := by decide +kernel
theorem dX6_monday_24 : decode cX6_monday 24 = .ok (.bipush (-3), 2) := by decide +kernel
theorem dX6_monday_26 : decode cX6_monday 26 = .ok (.goto 8, 3) := by decide +kernel
theorem dX6_monday_29 : decode cX6_monday 29 = .ok (.iload_n 2, 1) := by decide +kernel
theorem dX6_monday_30 : decode cX6_monday 30 = .ok (.iload_n 3, 1) := by decide +kernel
theorem dX6_monday_31 : decode cX6_monday 31 = .ok (.invokestatic 193, 3) := by decide +kernel
theorem dX6_monday_34 : decode cX6_monday 34 = .ok (.istore 4, 2) := by decide +kernel
theorem dX6_monday_36 : decode cX6_monday 36 = .ok (.iload 4, 2) := by decide +kernel
theorem dX6_monday_38 : decode cX6_monday 38 = .ok (.ifCond .eq 10, 3) := by decide +kernel
theorem dX6_monday_41 : decode cX6_monday 41 = .ok (.aload_n 0, 1) := by decide +kernel
theorem dX6_monday_42 : decode cX6_monday 42 = .ok (.iload 4, 2) := by decide +kernel
theorem dX6_monday_44 : decode cX6_monday 44 = .ok (.invokevirtual 79, 3) := by decide +kernel
theorem dX6_monday_47 : decode cX6_monday 47 = .ok (.ireturn, 1) := by decide +kernel
theorem dX6_monday_48 : decode cX6_monday 48 = .ok (.aload_n 0, 1) := by decide +kernel
theorem dX6_monday_49 : decode cX6_monday 49 = .ok (.getfield 13, 3) := by decide +kernel
theorem dX6_monday_52 : decode cX6_monday 52 = .ok (.iload_n 1, 1) := by decide +kernel
theorem dX6_monday_53 : decode cX6_monday 53 = .ok (.iaload, 1) := by decide +kernel
theorem dX6_monday_54 : decode cX6_monday 54 = .ok (.istore 5, 2) := by decide +kernel
theorem dX6_monday_56 : decode cX6_monday 56 = .ok (.bipush (-9), 2) := by decide +kernel
theorem dX6_monday_58 : decode cX6_monday 58 = .ok (.istore 6, 2) := by decide +kernel
theorem dX6_monday_60 : decode cX6_monday 60 = .ok (.iconst 0, 1) := by decide +kernel
theorem dX6_monday_61 : decode cX6_monday 61 = .ok (.istore 7, 2) := by decide +kernel
theorem dX6_monday_63 : decode cX6_monday 63 = .ok (.iload 7, 2) := by decide +kernel
theorem dX6_monday_65 : decode cX6_monday 65 = .ok (.aload_n 0, 1) := by decide +kernel
theorem dX6_monday_66 : decode cX6_monday 66 = .ok (.invokevirtual 68, 3) := by decide +kernel
theorem dX6_monday_69 : decode cX6_monday 69 = .ok (.if_icmp .gt 62, 3) := by decide +kernel
theorem dX6_monday_72 : decode cX6_monday 72 = .ok (.iload 7, 2) := by decide +kernel
theorem dX6_monday_74 : decode cX6_monday 74 = .ok (.iload 5, 2) := by decide +kernel
theorem dX6_monday_76 : decode cX6_monday 76 = .ok (.iand, 1) := by decide +kernel
theorem dX6_monday_77 : decode cX6_monday 77 = .ok (.ifCond .ne 48, 3) := by decide +kernel
theorem dX6_monday_80 : decode cX6_monday 80 = .ok (.iload 6, 2) := by decide +kernel
theorem dX6_monday_82 : decode cX6_monday 82 = .ok (.ifCond .lt 19, 3) := by decide +kernel
theorem dX6_monday_85 : decode cX6_monday 85 = .ok (.iload 7, 2) := by decide +kernel
theorem dX6_monday_87 : decode cX6_monday 87 = .ok (.invokestatic 176, 3) := by decide +kernel
theorem dX6_monday_90 : decode cX6_monday 90 = .ok (.iload 6, 2) := by decide +kernel
theorem dX6_monday_92 : decode cX6_monday 92 = .ok (.invokestatic 176, 3) := by decide +kernel
theorem dX6_monday_95 : decode cX6_monday 95 = .ok (.if_icmp .lt 6, 3) := by decide +kernel
theorem dX6_monday_98 : decode cX6_monday 98 = .ok (.goto 27, 3) := by decide +kernel
theorem dX6_monday_101 : decode cX6_monday 101 = .ok (.aload_n 0, 1) := by decide +kernel
theorem dX6_monday_102 : decode cX6_monday 102 = .ok (.getfield 13, 3) := by decide +kernel
theorem dX6_monday_105 : decode cX6_monday 105 = .ok (.iload_n 1, 1) := by decide +kernel
theorem dX6_monday_106 : decode cX6_monday 106 = .ok (.iload 5, 2) := by decide +kernel
theorem dX6_monday_108 : decode cX6_monday 108 = .ok (.iload 7, 2) := by decide +kernel
theorem dX6_monday_110 : decode cX6_monday 110 = .ok (.ior, 1) := by decide +kernel
theorem dX6_monday_111 : decode cX6_monday 111 = .ok (.iastore, 1) := by decide +kernel
theorem dX6_monday_112 : decode cX6_monday 112 = .ok (.aload_n 0, 1) := by decide +kernel
theorem dX6_monday_113 : decode cX6_monday 113 = .ok (.iload_n 2, 1) := by decide +kernel
theorem dX6_monday_114 : decode cX6_monday 114 = .ok (.iload_n 3, 1) := by decide +kernel
theorem dX6_monday_115 : decode cX6_monday 115 = .ok (.invokevirtual 196, 3) := by decide +kernel
theorem dX6_monday_118 : decode cX6_monday 118 = .ok (.ifCond .eq 7, 3) := by decide +kernel
theorem dX6_monday_121 : decode cX6_monday 121 = .ok (.iload 7, 2) := by decide +kernel
theorem dX6_monday_123 : decode cX6_monday 123 = .ok (.istore 6, 2) := by decide +kernel
theorem dX6_monday_125 : decode cX6_monday 125 = .ok (.iinc 7 1, 3) := by decide +kernel
theorem dX6_monday_128 : decode cX6_monday 128 = .ok (.goto (-65), 3) := by decide +kernel
theorem dX6_monday_131 : decode cX6_monday 131 = .ok (.aload_n 0, 1) := by decide +kernel
theorem dX6_monday_132 : decode cX6_monday 132 = .ok (.getfield 13, 3) := by decide +kernel
theorem dX6_monday_135 : decode cX6_monday 135 = .ok (.iload_n 1, 1) := by decide +kernel
theorem dX6_monday_136 : decode cX6_monday 136 = .ok (.iload 5, 2) := by decide +kernel
theorem dX6_monday_138 : decode cX6_monday 138 = .ok (.iastore, 1) := by decide +kernel
theorem dX6_monday_139 : decode cX6_monday 139 = .ok (.iload 6, 2) := by decide +kernel
theorem dX6_monday_141 : decode cX6_monday 141 = .ok (.ireturn, 1) := by decide +kernel
theorem dX6_mayTell_0 : decode cX6_mayTell 0 = .ok (.iload_n 1, 1) := by decide +kernel
theorem dX6_mayTell_1 : decode cX6_mayTell 1 = .ok (.bipush 10, 2) := by decide +kernel
theorem dX6_mayTell_3 : decode cX6_mayTell 3 = .ok (.irem, 1) := by decide +kernel
theorem dX6_mayTell_4 : decode cX6_mayTell 4 = .ok (.aload_n 0, 1) := by decide +kernel
theorem dX6_mayTell_5 : decode cX6_mayTell 5 = .ok (.getfield 40, 3) := by decide +kernel
theorem dX6_mayTell_8 : decode cX6_mayTell 8 = .ok (.if_icmp .ge 49, 3) := by decide +kernel
theorem dX6_mayTell_11 : decode cX6_mayTell 11 = .ok (.iload_n 1, 1) := by decide +kernel
theorem dX6_mayTell_12 : decode cX6_mayTell 12 = .ok (.bipush 10, 2) := by decide +kernel
theorem dX6_mayTell_14 : decode cX6_mayTell 14 = .ok (.idiv, 1) := by decide +kernel
theorem dX6_mayTell_15 : decode cX6_mayTell 15 = .ok (.aload_n 0, 1) := by decide +kernel
theorem dX6_mayTell_16 : decode cX6_mayTell 16 = .ok (.getfield 72, 3) := by decide +kernel
theorem dX6_mayTell_19 : decode cX6_mayTell 19 = .ok (.if_icmp .ge 38, 3) := by decide +kernel
theorem dX6_mayTell_22 : decode cX6_mayTell 22 = .ok (.aload_n 0, 1) := by decide +kernel
theorem dX6_mayTell_23 : decode cX6_mayTell 23 = .ok (.getfield 19, 3) := by decide +kernel
theorem dX6_mayTell_26 : decode cX6_mayTell 26 = .ok (.iload_n 1, 1) := by decide +kernel
theorem dX6_mayTell_27 : decode cX6_mayTell 27 = .ok (.bipush 10, 2) := by decide +kernel
theorem dX6_mayTell_29 : decode cX6_mayTell 29 = .ok (.idiv, 1) := by decide +kernel
theorem dX6_mayTell_30 : decode cX6_mayTell 30 = .ok (.iaload, 1) := by decide +kernel
theorem dX6_mayTell_31 : decode cX6_mayTell 31 = .ok (.ifCond .ne 26, 3) := by decide +kernel
theorem dX6_mayTell_34 : decode cX6_mayTell 34 = .ok (.aload_n 0, 1) := by decide +kernel
theorem dX6_mayTell_35 : decode cX6_mayTell 35 = .ok (.getfield 13, 3) := by decide +kernel
theorem dX6_mayTell_38 : decode cX6_mayTell 38 = .ok (.iload_n 1, 1) := by decide +kernel
theorem dX6_mayTell_39 : decode cX6_mayTell 39 = .ok (.bipush 10, 2) := by decide +kernel
theorem dX6_mayTell_41 : decode cX6_mayTell 41 = .ok (.idiv, 1) := by decide +kernel
theorem dX6_mayTell_42 : decode cX6_mayTell 42 = .ok (.iaload, 1) := by decide +kernel
theorem dX6_mayTell_43 : decode cX6_mayTell 43 = .ok (.iload_n 1, 1) := by decide +kernel
theorem dX6_mayTell_44 : decode cX6_mayTell 44 = .ok (.bipush 10, 2) := by decide +kernel
theorem dX6_mayTell_46 : decode cX6_mayTell 46 = .ok (.irem, 1) := by decide +kernel
theorem dX6_mayTell_47 : decode cX6_mayTell 47 = .ok (.ishr, 1) := by decide +kernel
theorem dX6_mayTell_48 : decode cX6_mayTell 48 = .ok (.iconst 1, 1) := by decide +kernel
theorem dX6_mayTell_49 : decode cX6_mayTell 49 = .ok (.iand, 1) := by decide +kernel
theorem dX6_mayTell_50 : decode cX6_mayTell 50 = .ok (.ifCond .ne 7, 3) := by decide +kernel
theorem dX6_mayTell_53 : decode cX6_mayTell 53 = .ok (.iconst 1, 1) := by decide +kernel
theorem dX6_mayTell_54 : decode cX6_mayTell 54 = .ok (.goto 4, 3) := by decide +kernel
theorem dX6_mayTell_57 : decode cX6_mayTell 57 = .ok (.iconst 0, 1) := by decide +kernel
theorem dX6_mayTell_58 : decode cX6_mayTell 58 = .ok (.ireturn, 1) := by decide +kernel
set_option maxRecDepth 20000 in
theorem ggX6_findMend_X6_holds : GoodIn wsX6_findMend wsX6_holds := goodIn_r _ [7, 8, 9, 10, 6, 11, 12, 13, 1, 14, 15, 16, 17, 18, 19, 20, 21, 22, 23, 24, 25, 26, 27, 28, 29, 30, 31, 32, 33, 34, 35, 36, 37, 38, 39, 40, 41, 42, 43, 44, 45, 46, 47, 48, 49, 50, 51, 52, 53, 54, 55, 56, 57, 58, 59, 60, 61, 62, 63, 68, 69, 70, 71, 72, 73, 74, 75, 76, 77, 78, 79, 80, 81, 82, 83, 84, 85, 86, 87, 88, 89, 90, 91, 92, 93, 94, 95, 96, 97, 98] (by decide +kernel) (by decide +kernel)
set_option maxRecDepth 20000 in
theorem gX6_findMend_X6_holds : GoodIn wsX6_findMend (wsV RX6 196 RX6 yX6_holds wsX6_holds) := goodIn_app (goodIn_of _ (by decide +kernel)) ggX6_findMend_X6_holds
set_option maxRecDepth 20000 in
theorem ggX6_findMend_X6_mayTell : GoodIn wsX6_findMend wsX6_mayTell := goodIn_r _ [67, 59, 12, 35, 1, 68, 69, 70, 71, 72, 73, 74, 75, 76, 77, 78, 79, 80, 81, 82, 83, 84, 85, 86, 87, 88, 89, 90, 91, 92, 93, 94, 95, 96, 97, 98] (by decide +kernel) (by decide +kernel)
set_option maxRecDepth 20000 in
theorem gX6_findMend_X6_mayTell : GoodIn wsX6_findMend (wsV RX6 199 RX6 yX6_mayTell wsX6_mayTell) := goodIn_app (goodIn_of _ (by decide +kernel)) ggX6_findMend_X6_mayTell
theorem dX6_findMend_0 : decode cX6_findMend 0 = .ok (.aload_n 0, 1) := by decide +kernel
theorem dX6_findMend_1 : decode cX6_findMend 1 = .ok (.iload_n 1, 1) := by decide +kernel
theorem dX6_findMend_2 : decode cX6_findMend 2 = .ok (.iload_n 2, 1) := by decide +kernel
theorem dX6_findMend_3 : decode cX6_findMend 3 = .ok (.invokevirtual 196, 3) := by decide +kernel
theorem dX6_findMend_6 : decode cX6_findMend 6 = .ok (.ifCond .eq 5, 3) := by decide +kernel
theorem dX6_findMend_9 : decode cX6_findMend 9 = .ok (.iconst 0, 1) := by decide +kernel
theorem dX6_findMend_10 : decode cX6_findMend 10 = .ok (.ireturn, 1) := by decide +kernel
theorem dX6_findMend_11 : decode cX6_findMend 11 = .ok (.iconst 0, 1) := by decide +kernel
theorem dX6_findMend_12 : decode cX6_findMend 12 = .ok (.istore_n 3, 1) := by decide +kernel
theorem dX6_findMend_13 : decode cX6_findMend 13 = .ok (.iload_n 3, 1) := by decide +kernel
theorem dX6_findMend_14 : decode cX6_findMend 14 = .ok (.bipush 80, 2) := by decide +kernel
theorem dX6_findMend_16 : decode cX6_findMend 16 = .ok (.if_icmp .ge 78, 3) := by decide +kernel
theorem dX6_findMend_19 : decode cX6_findMend 19 = .ok (.aload_n 0, 1) := by decide +kernel
theorem dX6_findMend_20 : decode cX6_findMend 20 = .ok (.iload_n 3, 1) := by decide +kernel
theorem dX6_findMend_21 : decode cX6_findMend 21 = .ok (.invokevirtual 199, 3) := by decide +kernel
theorem dX6_findMend_24 : decode cX6_findMend 24 = .ok (.ifCond .ne 6, 3) := by decide +kernel
theorem dX6_findMend_27 : decode cX6_findMend 27 = .ok (.goto 61, 3) := by decide +kernel
theorem dX6_findMend_30 : decode cX6_findMend 30 = .ok (.aload_n 0, 1) := by decide +kernel
theorem dX6_findMend_31 : decode cX6_findMend 31 = .ok (.getfield 13, 3) := by decide +kernel
theorem dX6_findMend_34 : decode cX6_findMend 34 = .ok (.iload_n 3, 1) := by decide +kernel
theorem dX6_findMend_35 : decode cX6_findMend 35 = .ok (.bipush 10, 2) := by decide +kernel
theorem dX6_findMend_37 : decode cX6_findMend 37 = .ok (.idiv, 1) := by decide +kernel
theorem dX6_findMend_38 : decode cX6_findMend 38 = .ok (.dup2, 1) := by decide +kernel
theorem dX6_findMend_39 : decode cX6_findMend 39 = .ok (.iaload, 1) := by decide +kernel
theorem dX6_findMend_40 : decode cX6_findMend 40 = .ok (.iconst 1, 1) := by decide +kernel
theorem dX6_findMend_41 : decode cX6_findMend 41 = .ok (.iload_n 3, 1) := by decide +kernel
theorem dX6_findMend_42 : decode cX6_findMend 42 = .ok (.bipush 10, 2) := by decide +kernel
theorem dX6_findMend_44 : decode cX6_findMend 44 = .ok (.irem, 1) := by decide +kernel
theorem dX6_findMend_45 : decode cX6_findMend 45 = .ok (.ishl, 1) := by decide +kernel
theorem dX6_findMend_46 : decode cX6_findMend 46 = .ok (.ixor, 1) := by decide +kernel
theorem dX6_findMend_47 : decode cX6_findMend 47 = .ok (.iastore, 1) := by decide +kernel
theorem dX6_findMend_48 : decode cX6_findMend 48 = .ok (.aload_n 0, 1) := by decide +kernel
theorem dX6_findMend_49 : decode cX6_findMend 49 = .ok (.iload_n 1, 1) := by decide +kernel
theorem dX6_findMend_50 : decode cX6_findMend 50 = .ok (.iload_n 2, 1) := by decide +kernel
theorem dX6_findMend_51 : decode cX6_findMend 51 = .ok (.invokevirtual 196, 3) := by decide +kernel
theorem dX6_findMend_54 : decode cX6_findMend 54 = .ok (.istore 4, 2) := by decide +kernel
theorem dX6_findMend_56 : decode cX6_findMend 56 = .ok (.aload_n 0, 1) := by decide +kernel
theorem dX6_findMend_57 : decode cX6_findMend 57 = .ok (.getfield 13, 3) := by decide +kernel
theorem dX6_findMend_60 : decode cX6_findMend 60 = .ok (.iload_n 3, 1) := by decide +kernel
theorem dX6_findMend_61 : decode cX6_findMend 61 = .ok (.bipush 10, 2) := by decide +kernel
theorem dX6_findMend_63 : decode cX6_findMend 63 = .ok (.idiv, 1) := by decide +kernel
theorem dX6_findMend_64 : decode cX6_findMend 64 = .ok (.dup2, 1) := by decide +kernel
theorem dX6_findMend_65 : decode cX6_findMend 65 = .ok (.iaload, 1) := by decide +kernel
theorem dX6_findMend_66 : decode cX6_findMend 66 = .ok (.iconst 1, 1) := by decide +kernel
theorem dX6_findMend_67 : decode cX6_findMend 67 = .ok (.iload_n 3, 1) := by decide +kernel
theorem dX6_findMend_68 : decode cX6_findMend 68 = .ok (.bipush 10, 2) := by decide +kernel
theorem dX6_findMend_70 : decode cX6_findMend 70 = .ok (.irem, 1) := by decide +kernel
theorem dX6_findMend_71 : decode cX6_findMend 71 = .ok (.ishl, 1) := by decide +kernel
theorem dX6_findMend_72 : decode cX6_findMend 72 = .ok (.ixor, 1) := by decide +kernel
theorem dX6_findMend_73 : decode cX6_findMend 73 = .ok (.iastore, 1) := by decide +kernel
theorem dX6_findMend_74 : decode cX6_findMend 74 = .ok (.aload_n 0, 1) := by decide +kernel
theorem dX6_findMend_75 : decode cX6_findMend 75 = .ok (.getfield 56, 3) := by decide +kernel
theorem dX6_findMend_78 : decode cX6_findMend 78 = .ok (.iconst 0, 1) := by decide +kernel
theorem dX6_findMend_79 : decode cX6_findMend 79 = .ok (.iload_n 3, 1) := by decide +kernel
theorem dX6_findMend_80 : decode cX6_findMend 80 = .ok (.iastore, 1) := by decide +kernel
theorem dX6_findMend_81 : decode cX6_findMend 81 = .ok (.iload 4, 2) := by decide +kernel
theorem dX6_findMend_83 : decode cX6_findMend 83 = .ok (.ifCond .eq 5, 3) := by decide +kernel
theorem dX6_findMend_86 : decode cX6_findMend 86 = .ok (.iconst 1, 1) := by decide +kernel
theorem dX6_findMend_87 : decode cX6_findMend 87 = .ok (.ireturn, 1) := by decide +kernel
theorem dX6_findMend_88 : decode cX6_findMend 88 = .ok (.iinc 3 1, 3) := by decide +kernel
theorem dX6_findMend_91 : decode cX6_findMend 91 = .ok (.goto (-78), 3) := by decide +kernel
theorem dX6_findMend_94 : decode cX6_findMend 94 = .ok (.iconst 0, 1) := by decide +kernel
theorem dX6_findMend_95 : decode cX6_findMend 95 = .ok (.istore_n 3, 1) := by decide +kernel
theorem dX6_findMend_96 : decode cX6_findMend 96 = .ok (.iload_n 3, 1) := by decide +kernel
theorem dX6_findMend_97 : decode cX6_findMend 97 = .ok (.bipush 80, 2) := by decide +kernel
theorem dX6_findMend_99 : decode cX6_findMend 99 = .ok (.if_icmp .ge 153, 3) := by decide +kernel
theorem dX6_findMend_102 : decode cX6_findMend 102 = .ok (.iload_n 3, 1) := by decide +kernel
theorem dX6_findMend_103 : decode cX6_findMend 103 = .ok (.iconst 1, 1) := by decide +kernel
theorem dX6_findMend_104 : decode cX6_findMend 104 = .ok (.iadd, 1) := by decide +kernel
theorem dX6_findMend_105 : decode cX6_findMend 105 = .ok (.istore 4, 2) := by decide +kernel
theorem dX6_findMend_107 : decode cX6_findMend 107 = .ok (.iload 4, 2) := by decide +kernel
theorem dX6_findMend_109 : decode cX6_findMend 109 = .ok (.bipush 80, 2) := by decide +kernel
theorem dX6_findMend_111 : decode cX6_findMend 111 = .ok (.if_icmp .ge 135, 3) := by decide +kernel
theorem dX6_findMend_114 : decode cX6_findMend 114 = .ok (.aload_n 0, 1) := by decide +kernel
theorem dX6_findMend_115 : decode cX6_findMend 115 = .ok (.iload_n 3, 1) := by decide +kernel
