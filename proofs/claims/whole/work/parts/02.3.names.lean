set_option maxRecDepth 20000 in
theorem gX5_losers_X5_fewestWhoGo : GoodIn wsX5_losers (wsV RX5 167 RX5 yX5_fewestWhoGo wsX5_fewestWhoGo) := goodIn_app (goodIn_of _ (by decide +kernel)) ggX5_losers_X5_fewestWhoGo
theorem dX5_losers_0 : decode cX5_losers 0 = .ok (.aload_n 0, 1) := by decide +kernel
theorem dX5_losers_1 : decode cX5_losers 1 = .ok (.getfield 21, 3) := by decide +kernel
theorem dX5_losers_4 : decode cX5_losers 4 = .ok (.invokevirtual 140, 3) := by decide +kernel
theorem dX5_losers_7 : decode cX5_losers 7 = .ok (.aload_n 0, 1) := by decide +kernel
theorem dX5_losers_8 : decode cX5_losers 8 = .ok (.iconst 0, 1) := by decide +kernel
theorem dX5_losers_9 : decode cX5_losers 9 = .ok (.invokevirtual 167, 3) := by decide +kernel
theorem dX5_losers_12 : decode cX5_losers 12 = .ok (.ireturn, 1) := by decide +kernel
set_option maxRecDepth 20000 in
theorem ggX5_carriers_X2_begin : GoodIn wsX5_carriers wsX2_begin := goodIn_r _ [6, 7, 8, 9, 10, 11, 12, 13, 14, 15, 16, 17, 18, 19, 20, 21, 22, 23, 24, 25, 26, 27, 28, 29, 30, 31, 32, 33, 34, 5, 35, 36, 37, 38, 39, 40, 41, 42, 43, 44, 45, 46, 47, 48, 49, 50, 51, 52, 53, 88, 89, 90, 91, 92, 93, 94, 95, 96, 97, 98, 99, 100, 101, 102, 103, 104, 105, 106, 107, 108, 109, 110] (by decide +kernel) (by decide +kernel)
set_option maxRecDepth 20000 in
theorem gX5_carriers_X2_begin : GoodIn wsX5_carriers (wsV RX5 140 RX2 yX2_begin wsX2_begin) := goodIn_app (goodIn_of _ (by decide +kernel)) ggX5_carriers_X2_begin
set_option maxRecDepth 20000 in
theorem ggX5_carriers_X5_fewestWhoGo : GoodIn wsX5_carriers wsX5_fewestWhoGo := goodIn_r _ [57, 58, 59, 1, 60, 61, 62, 63, 64, 65, 66, 67, 68, 69, 5, 70, 16, 71, 72, 73, 74, 50, 9, 19, 17, 15, 51, 52, 53, 75, 76, 77, 78, 7, 79, 38, 39, 40, 80, 81, 82, 83, 84, 85, 86, 87, 99, 100, 101, 102, 103, 104, 105, 106, 107, 88, 89, 90, 91, 92, 93, 94, 95, 96, 97, 98, 108, 109, 110] (by decide +kernel) (by decide +kernel)
set_option maxRecDepth 20000 in
theorem gX5_carriers_X5_fewestWhoGo : GoodIn wsX5_carriers (wsV RX5 167 RX5 yX5_fewestWhoGo wsX5_fewestWhoGo) := goodIn_app (goodIn_of _ (by decide +kernel)) ggX5_carriers_X5_fewestWhoGo
theorem dX5_carriers_0 : decode cX5_carriers 0 = .ok (.aload_n 0, 1) := by decide +kernel
theorem dX5_carriers_1 : decode cX5_carriers 1 = .ok (.getfield 21, 3) := by decide +kernel
theorem dX5_carriers_4 : decode cX5_carriers 4 = .ok (.invokevirtual 140, 3) := by decide +kernel
theorem dX5_carriers_7 : decode cX5_carriers 7 = .ok (.aload_n 0, 1) := by decide +kernel
theorem dX5_carriers_8 : decode cX5_carriers 8 = .ok (.iconst 1, 1) := by decide +kernel
theorem dX5_carriers_9 : decode cX5_carriers 9 = .ok (.invokevirtual 167, 3) := by decide +kernel
theorem dX5_carriers_12 : decode cX5_carriers 12 = .ok (.ireturn, 1) := by decide +kernel
set_option maxRecDepth 20000 in
theorem ggX5_keys_X2_begin : GoodIn wsX5_keys wsX2_begin := goodIn_r _ [8, 9, 10, 11, 12, 13, 14, 15, 16, 17, 18, 19, 20, 21, 22, 23, 24, 25, 26, 27, 28, 29, 30, 31, 32, 33, 34, 35, 36, 7, 37, 38, 39, 40, 41, 42, 43, 44, 45, 46, 47, 48, 49, 50, 51, 52, 53, 54, 55, 86, 87, 88, 89, 90, 91, 92, 93, 94, 95, 96, 77, 78, 79, 80, 81, 82, 83, 84, 85, 97, 98, 99] (by decide +kernel) (by decide +kernel)
set_option maxRecDepth 20000 in
theorem gX5_keys_X2_begin : GoodIn wsX5_keys (wsV RX5 140 RX2 yX2_begin wsX2_begin) := goodIn_app (goodIn_of _ (by decide +kernel)) ggX5_keys_X2_begin
set_option maxRecDepth 20000 in
theorem ggX5_keys_X2_isHere : GoodIn wsX5_keys wsX2_isHere := goodIn_r _ [59, 18, 43, 44, 45, 86, 87, 88, 89, 90, 91, 92, 93, 94, 95, 96] (by decide +kernel) (by decide +kernel)
set_option maxRecDepth 20000 in
theorem gX5_keys_X2_isHere : GoodIn wsX5_keys (wsV RX5 170 RX2 yX2_isHere wsX2_isHere) := goodIn_app (goodIn_of _ (by decide +kernel)) ggX5_keys_X2_isHere
set_option maxRecDepth 20000 in
theorem ggX5_keys_X2_happens : GoodIn wsX5_keys wsX2_happens := goodIn_r _ [63, 52, 18, 11, 21, 19, 17, 53, 54, 7, 55, 64, 65, 66, 67, 9, 68, 40, 41, 42, 86, 87, 88, 89, 90, 91, 92, 93, 94, 95, 96, 77, 78, 79, 80, 81, 82, 83, 84, 85, 97, 98, 99] (by decide +kernel) (by decide +kernel)
set_option maxRecDepth 20000 in
theorem gX5_keys_X2_happens : GoodIn wsX5_keys (wsV RX5 173 RX2 yX2_happens wsX2_happens) := goodIn_app (goodIn_of _ (by decide +kernel)) ggX5_keys_X2_happens
theorem dX5_keys_0 : decode cX5_keys 0 = .ok (.aload_n 0, 1) := by decide +kernel
theorem dX5_keys_1 : decode cX5_keys 1 = .ok (.getfield 21, 3) := by decide +kernel
theorem dX5_keys_4 : decode cX5_keys 4 = .ok (.invokevirtual 140, 3) := by decide +kernel
theorem dX5_keys_7 : decode cX5_keys 7 = .ok (.iconst 0, 1) := by decide +kernel
theorem dX5_keys_8 : decode cX5_keys 8 = .ok (.istore_n 1, 1) := by decide +kernel
theorem dX5_keys_9 : decode cX5_keys 9 = .ok (.iconst 0, 1) := by decide +kernel
theorem dX5_keys_10 : decode cX5_keys 10 = .ok (.istore_n 2, 1) := by decide +kernel
theorem dX5_keys_11 : decode cX5_keys 11 = .ok (.iload_n 2, 1) := by decide +kernel
theorem dX5_keys_12 : decode cX5_keys 12 = .ok (.aload_n 0, 1) := by decide +kernel
theorem dX5_keys_13 : decode cX5_keys 13 = .ok (.getfield 12, 3) := by decide +kernel
theorem dX5_keys_16 : decode cX5_keys 16 = .ok (.getfield 79, 3) := by decide +kernel
theorem dX5_keys_19 : decode cX5_keys 19 = .ok (.if_icmp .ge 40, 3) := by decide +kernel
theorem dX5_keys_22 : decode cX5_keys 22 = .ok (.aload_n 0, 1) := by decide +kernel
theorem dX5_keys_23 : decode cX5_keys 23 = .ok (.getfield 21, 3) := by decide +kernel
theorem dX5_keys_26 : decode cX5_keys 26 = .ok (.iload_n 2, 1) := by decide +kernel
theorem dX5_keys_27 : decode cX5_keys 27 = .ok (.invokevirtual 170, 3) := by decide +kernel
theorem dX5_keys_30 : decode cX5_keys 30 = .ok (.ifCond .eq 23, 3) := by decide +kernel
theorem dX5_keys_33 : decode cX5_keys 33 = .ok (.aload_n 0, 1) := by decide +kernel
theorem dX5_keys_34 : decode cX5_keys 34 = .ok (.getfield 21, 3) := by decide +kernel
theorem dX5_keys_37 : decode cX5_keys 37 = .ok (.iconst 0, 1) := by decide +kernel
theorem dX5_keys_38 : decode cX5_keys 38 = .ok (.iconst 1, 1) := by decide +kernel
theorem dX5_keys_39 : decode cX5_keys 39 = .ok (.iload_n 2, 1) := by decide +kernel
theorem dX5_keys_40 : decode cX5_keys 40 = .ok (.ishl, 1) := by decide +kernel
theorem dX5_keys_41 : decode cX5_keys 41 = .ok (.invokevirtual 173, 3) := by decide +kernel
theorem dX5_keys_44 : decode cX5_keys 44 = .ok (.ifCond .eq 9, 3) := by decide +kernel
theorem dX5_keys_47 : decode cX5_keys 47 = .ok (.iload_n 1, 1) := by decide +kernel
theorem dX5_keys_48 : decode cX5_keys 48 = .ok (.iconst 1, 1) := by decide +kernel
theorem dX5_keys_49 : decode cX5_keys 49 = .ok (.iload_n 2, 1) := by decide +kernel
theorem dX5_keys_50 : decode cX5_keys 50 = .ok (.ishl, 1) := by decide +kernel
theorem dX5_keys_51 : decode cX5_keys 51 = .ok (.ior, 1) := by decide +kernel
theorem dX5_keys_52 : decode cX5_keys 52 = .ok (.istore_n 1, 1) := by decide +kernel
theorem dX5_keys_53 : decode cX5_keys 53 = .ok (.iinc 2 1, 3) := by decide +kernel
theorem dX5_keys_56 : decode cX5_keys 56 = .ok (.goto (-45), 3) := by decide +kernel
theorem dX5_keys_59 : decode cX5_keys 59 = .ok (.iload_n 1, 1) := by decide +kernel
theorem dX5_keys_60 : decode cX5_keys 60 = .ok (.ireturn, 1) := by decide +kernel
set_option maxRecDepth 20000 in
theorem ggX5_monday_X1_isHand : GoodIn wsX5_monday wsX1_isHand := goodIn_r _ [8, 9, 142, 143, 144, 145, 146, 147, 148, 149, 150] (by decide +kernel) (by decide +kernel)
set_option maxRecDepth 20000 in
theorem gX5_monday_X1_isHand : GoodIn wsX5_monday (wsV RX5 85 RX1 yX1_isHand wsX1_isHand) := goodIn_app (goodIn_of _ (by decide +kernel)) ggX5_monday_X1_isHand
set_option maxRecDepth 20000 in
theorem ggX5_monday_X5_refuse : GoodIn wsX5_monday wsX5_refuse := goodIn_r _ [14, 15, 134, 135, 136, 137, 138, 139, 140, 141] (by decide +kernel) (by decide +kernel)
set_option maxRecDepth 20000 in
theorem gX5_monday_X5_refuse : GoodIn wsX5_monday (wsV RX5 49 RX5 yX5_refuse wsX5_refuse) := goodIn_app (goodIn_of _ (by decide +kernel)) ggX5_monday_X5_refuse
set_option maxRecDepth 20000 in
theorem ggX5_monday_X5_contains : GoodIn wsX5_monday wsX5_contains := goodIn_r _ [18] (by decide +kernel) (by decide +kernel)
set_option maxRecDepth 20000 in
theorem gX5_monday_X5_contains : GoodIn wsX5_monday (va_wsS RX5 131 yX5_contains wsX5_contains) := goodIn_app (goodIn_of _ (by decide +kernel)) ggX5_monday_X5_contains
set_option maxRecDepth 20000 in
theorem ggX5_monday_X5_outsideHands : GoodIn wsX5_monday wsX5_outsideHands := goodIn_r _ [21] (by decide +kernel) (by decide +kernel)
set_option maxRecDepth 20000 in
theorem gX5_monday_X5_outsideHands : GoodIn wsX5_monday (va_wsS RX5 176 yX5_outsideHands wsX5_outsideHands) := goodIn_app (goodIn_of _ (by decide +kernel)) ggX5_monday_X5_outsideHands
set_option maxRecDepth 20000 in
theorem ggX5_monday_X2_begin : GoodIn wsX5_monday wsX2_begin := goodIn_r _ [26, 27, 28, 29, 30, 31, 32, 33, 34, 35, 36, 37, 38, 39, 40, 41, 42, 7, 43, 9, 44, 45, 46, 47, 48, 49, 50, 51, 52, 25, 53, 54, 55, 56, 57, 58, 17, 13, 18, 59, 60, 61, 62, 63, 64, 65, 66, 67, 68, 151, 152, 153, 154, 155, 156, 157, 158, 159, 160, 161, 142, 143, 144, 145, 146, 147, 148, 149, 150, 162, 163, 164] (by decide +kernel) (by decide +kernel)
set_option maxRecDepth 20000 in
theorem gX5_monday_X2_begin : GoodIn wsX5_monday (wsV RX5 140 RX2 yX2_begin wsX2_begin) := goodIn_app (goodIn_of _ (by decide +kernel)) ggX5_monday_X2_begin
set_option maxRecDepth 20000 in
theorem ggX5_monday_X2_chooseLeavers : GoodIn wsX5_monday wsX2_chooseLeavers := goodIn_r _ [72, 73, 36, 74, 75, 76, 77, 78, 79, 80, 81, 82, 83, 84, 85, 86, 87, 88, 89, 90, 91, 92, 151, 152, 153, 154, 155, 156, 157, 158, 159, 160, 161, 165, 166, 167] (by decide +kernel) (by decide +kernel)
set_option maxRecDepth 20000 in
theorem gX5_monday_X2_chooseLeavers : GoodIn wsX5_monday (wsV RX5 155 RX2 yX2_chooseLeavers wsX2_chooseLeavers) := goodIn_app (goodIn_of _ (by decide +kernel)) ggX5_monday_X2_chooseLeavers
set_option maxRecDepth 20000 in
theorem ggX5_monday_X2_chooseTakers : GoodIn wsX5_monday wsX2_chooseTakers := goodIn_r _ [96, 97, 36, 74, 75, 76, 77, 78, 79, 80, 81, 82, 83, 84, 85, 86, 87, 88, 89, 90, 91, 92, 151, 152, 153, 154, 155, 156, 157, 158, 159, 160, 161, 165, 166, 167] (by decide +kernel) (by decide +kernel)
set_option maxRecDepth 20000 in
theorem gX5_monday_X2_chooseTakers : GoodIn wsX5_monday (wsV RX5 161 RX2 yX2_chooseTakers wsX2_chooseTakers) := goodIn_app (goodIn_of _ (by decide +kernel)) ggX5_monday_X2_chooseTakers
set_option maxRecDepth 20000 in
theorem ggX5_monday_X5_fewestToTell : GoodIn wsX5_monday wsX5_fewestToTell := goodIn_r _ [101, 3, 1, 102, 103, 104, 105, 106, 107, 25, 108, 97, 109, 110, 111, 112, 113, 114, 115, 116, 117, 118, 119, 65, 36, 29, 39, 37, 35, 66, 67, 68, 120, 121, 122, 123, 27, 124, 56, 57, 58, 125, 126, 127, 77, 128, 83, 129, 87, 88, 89, 90, 91, 92, 130, 131, 132, 133, 73, 134, 135, 136, 137, 138, 139, 140, 141, 142, 143, 144, 145, 146, 147, 148, 149, 150, 151, 152, 153, 154, 155, 156, 157, 158, 159, 160, 161, 165, 166, 167, 162, 163, 164] (by decide +kernel) (by decide +kernel)
set_option maxRecDepth 20000 in
theorem gX5_monday_X5_fewestToTell : GoodIn wsX5_monday (wsV RX5 180 RX5 yX5_fewestToTell wsX5_fewestToTell) := goodIn_app (goodIn_of _ (by decide +kernel)) ggX5_monday_X5_fewestToTell
theorem dX5_monday_0 : decode cX5_monday 0 = .ok (.aload_n 0, 1) := by decide +kernel
theorem dX5_monday_1 : decode cX5_monday 1 = .ok (.getfield 12, 3) := by decide +kernel
theorem dX5_monday_4 : decode cX5_monday 4 = .ok (.iload_n 1, 1) := by decide +kernel
theorem dX5_monday_5 : decode cX5_monday 5 = .ok (.invokevirtual 85, 3) := by decide +kernel
theorem dX5_monday_8 : decode cX5_monday 8 = .ok (.ifCond .ne 9, 3) := by decide +kernel
theorem dX5_monday_11 : decode cX5_monday 11 = .ok (.aload_n 0, 1) := by decide +kernel
theorem dX5_monday_12 : decode cX5_monday 12 = .ok (.iconst (-1), 1) := by decide +kernel
theorem dX5_monday_13 : decode cX5_monday 13 = .ok (.invokevirtual 49, 3) := by decide +kernel
theorem dX5_monday_16 : decode cX5_monday 16 = .ok (.ireturn, 1) := by decide +kernel
theorem dX5_monday_17 : decode cX5_monday 17 = .ok (.aload_n 0, 1) := by decide +kernel
theorem dX5_monday_18 : decode cX5_monday 18 = .ok (.getfield 12, 3) := by decide +kernel
theorem dX5_monday_21 : decode cX5_monday 21 = .ok (.getfield 101, 3) := by decide +kernel
theorem dX5_monday_24 : decode cX5_monday 24 = .ok (.iload_n 1, 1) := by decide +kernel
theorem dX5_monday_25 : decode cX5_monday 25 = .ok (.invokestatic 131, 3) := by decide +kernel
theorem dX5_monday_28 : decode cX5_monday 28 = .ok (.ifCond .eq 10, 3) := by decide +kernel
theorem dX5_monday_31 : decode cX5_monday 31 = .ok (.aload_n 0, 1) := by decide +kernel
theorem dX5_monday_32 : decode cX5_monday 32 = .ok (.bipush (-3), 2) := by decide +kernel
theorem dX5_monday_34 : decode cX5_monday 34 = .ok (.invokevirtual 49, 3) := by decide +kernel
theorem dX5_monday_37 : decode cX5_monday 37 = .ok (.ireturn, 1) := by decide +kernel
theorem dX5_monday_38 : decode cX5_monday 38 = .ok (.iload_n 2, 1) := by decide +kernel
theorem dX5_monday_39 : decode cX5_monday 39 = .ok (.iload_n 3, 1) := by decide +kernel
theorem dX5_monday_40 : decode cX5_monday 40 = .ok (.invokestatic 176, 3) := by decide +kernel
theorem dX5_monday_43 : decode cX5_monday 43 = .ok (.istore 4, 2) := by decide +kernel
theorem dX5_monday_45 : decode cX5_monday 45 = .ok (.iload 4, 2) := by decide +kernel
theorem dX5_monday_47 : decode cX5_monday 47 = .ok (.ifCond .eq 10, 3) := by decide +kernel
theorem dX5_monday_50 : decode cX5_monday 50 = .ok (.aload_n 0, 1) := by decide +kernel
theorem dX5_monday_51 : decode cX5_monday 51 = .ok (.iload 4, 2) := by decide +kernel
theorem dX5_monday_53 : decode cX5_monday 53 = .ok (.invokevirtual 49, 3) := by decide +kernel
theorem dX5_monday_56 : decode cX5_monday 56 = .ok (.ireturn, 1) := by decide +kernel
theorem dX5_monday_57 : decode cX5_monday 57 = .ok (.aload_n 0, 1) := by decide +kernel
theorem dX5_monday_58 : decode cX5_monday 58 = .ok (.getfield 21, 3) := by decide +kernel
theorem dX5_monday_61 : decode cX5_monday 61 = .ok (.invokevirtual 140, 3) := by decide +kernel
theorem dX5_monday_64 : decode cX5_monday 64 = .ok (.aload_n 0, 1) := by decide +kernel
theorem dX5_monday_65 : decode cX5_monday 65 = .ok (.getfield 21, 3) := by decide +kernel
theorem dX5_monday_68 : decode cX5_monday 68 = .ok (.iload_n 2, 1) := by decide +kernel
theorem dX5_monday_69 : decode cX5_monday 69 = .ok (.invokevirtual 155, 3) := by decide +kernel
theorem dX5_monday_72 : decode cX5_monday 72 = .ok (.aload_n 0, 1) := by decide +kernel
theorem dX5_monday_73 : decode cX5_monday 73 = .ok (.getfield 21, 3) := by decide +kernel
theorem dX5_monday_76 : decode cX5_monday 76 = .ok (.iload_n 3, 1) := by decide +kernel
theorem dX5_monday_77 : decode cX5_monday 77 = .ok (.invokevirtual 161, 3) := by decide +kernel
theorem dX5_monday_80 : decode cX5_monday 80 = .ok (.aload_n 0, 1) := by decide +kernel
theorem dX5_monday_81 : decode cX5_monday 81 = .ok (.iload_n 1, 1) := by decide +kernel
theorem dX5_monday_82 : decode cX5_monday 82 = .ok (.invokevirtual 180, 3) := by decide +kernel
theorem dX5_monday_85 : decode cX5_monday 85 = .ok (.ireturn, 1) := by decide +kernel
set_option maxRecDepth 20000 in
theorem ggX5_mend_X5_outsideHands : GoodIn wsX5_mend wsX5_outsideHands := goodIn_r _ [6] (by decide +kernel) (by decide +kernel)
set_option maxRecDepth 20000 in
theorem gX5_mend_X5_outsideHands : GoodIn wsX5_mend (va_wsS RX5 176 yX5_outsideHands wsX5_outsideHands) := goodIn_app (goodIn_of _ (by decide +kernel)) ggX5_mend_X5_outsideHands
set_option maxRecDepth 20000 in
theorem ggX5_mend_X5_refuse : GoodIn wsX5_mend wsX5_refuse := goodIn_r _ [10, 11, 150, 151, 152, 153, 154, 155, 156, 157] (by decide +kernel) (by decide +kernel)
set_option maxRecDepth 20000 in
theorem gX5_mend_X5_refuse : GoodIn wsX5_mend (wsV RX5 49 RX5 yX5_refuse wsX5_refuse) := goodIn_app (goodIn_of _ (by decide +kernel)) ggX5_mend_X5_refuse
set_option maxRecDepth 20000 in
theorem ggX5_mend_X2_begin : GoodIn wsX5_mend wsX2_begin := goodIn_r _ [16, 17, 18, 19, 20, 21, 22, 23, 24, 25, 26, 27, 28, 29, 30, 31, 32, 33, 34, 35, 36, 37, 38, 39, 40, 41, 42, 43, 44, 15, 45, 46, 47, 48, 49, 50, 51, 5, 52, 53, 54, 55, 56, 57, 58, 59, 60, 61, 62, 158, 159, 160, 161, 162, 163, 164, 165, 166, 167, 168, 169, 170, 171, 172, 173, 174, 175, 176, 177, 178, 179, 180] (by decide +kernel) (by decide +kernel)
set_option maxRecDepth 20000 in
theorem gX5_mend_X2_begin : GoodIn wsX5_mend (wsV RX5 140 RX2 yX2_begin wsX2_begin) := goodIn_app (goodIn_of _ (by decide +kernel)) ggX5_mend_X2_begin
set_option maxRecDepth 20000 in
theorem ggX5_mend_X2_chooseLeavers : GoodIn wsX5_mend wsX2_chooseLeavers := goodIn_r _ [66, 67, 26, 68, 69, 70, 71, 72, 73, 74, 75, 76, 77, 78, 79, 80, 81, 82, 83, 84, 85, 86, 158, 159, 160, 161, 162, 163, 164, 165, 166, 167, 168, 181, 182, 183] (by decide +kernel) (by decide +kernel)
set_option maxRecDepth 20000 in
theorem gX5_mend_X2_chooseLeavers : GoodIn wsX5_mend (wsV RX5 155 RX2 yX2_chooseLeavers wsX2_chooseLeavers) := goodIn_app (goodIn_of _ (by decide +kernel)) ggX5_mend_X2_chooseLeavers
set_option maxRecDepth 20000 in
theorem ggX5_mend_X2_chooseTakers : GoodIn wsX5_mend wsX2_chooseTakers := goodIn_r _ [90, 91, 26, 68, 69, 70, 71, 72, 73, 74, 75, 76, 77, 78, 79, 80, 81, 82, 83, 84, 85, 86, 158, 159, 160, 161, 162, 163, 164, 165, 166, 167, 168, 181, 182, 183] (by decide +kernel) (by decide +kernel)
set_option maxRecDepth 20000 in
theorem gX5_mend_X2_chooseTakers : GoodIn wsX5_mend (wsV RX5 161 RX2 yX2_chooseTakers wsX2_chooseTakers) := goodIn_app (goodIn_of _ (by decide +kernel)) ggX5_mend_X2_chooseTakers
set_option maxRecDepth 20000 in
theorem ggX5_mend_X5_fewestTellings : GoodIn wsX5_mend wsX5_fewestTellings := goodIn_r _ [95, 1, 2, 96, 97, 98, 15, 99, 91, 100, 101, 102, 103, 104, 105, 106, 107, 108, 109, 110, 59, 26, 19, 29, 27, 25, 60, 61, 62, 111, 112, 113, 114, 17, 115, 48, 49, 50, 116, 117, 118, 71, 119, 77, 120, 121, 122, 123, 67, 124, 125, 126, 5, 127, 128, 129, 130, 131, 132, 133, 134, 135, 51, 52, 136, 137, 138, 33, 139, 41, 140, 141, 142, 143, 144, 145, 146, 147, 148, 149, 150, 151, 152, 153, 154, 155, 156, 157, 158, 159, 160, 161, 162, 163, 164, 165, 166, 167, 168, 181, 182, 183, 169, 170, 171, 172, 173, 174, 175, 176, 177, 178, 179, 180] (by decide +kernel) (by decide +kernel)
set_option maxRecDepth 20000 in
theorem gX5_mend_X5_fewestTellings : GoodIn wsX5_mend (wsV RX5 183 RX5 yX5_fewestTellings wsX5_fewestTellings) := goodIn_app (goodIn_of _ (by decide +kernel)) ggX5_mend_X5_fewestTellings
theorem dX5_mend_0 : decode cX5_mend 0 = .ok (.iload_n 3, 1) := by decide +kernel
theorem dX5_mend_1 : decode cX5_mend 1 = .ok (.iconst (-1), 1) := by decide +kernel
theorem dX5_mend_2 : decode cX5_mend 2 = .ok (.if_icmp .ge 8, 3) := by decide +kernel
theorem dX5_mend_5 : decode cX5_mend 5 = .ok (.bipush (-4), 2) := by decide +kernel
theorem dX5_mend_7 : decode cX5_mend 7 = .ok (.goto 8, 3) := by decide +kernel
theorem dX5_mend_10 : decode cX5_mend 10 = .ok (.iload_n 1, 1) := by decide +kernel
theorem dX5_mend_11 : decode cX5_mend 11 = .ok (.iload_n 2, 1) := by decide +kernel
theorem dX5_mend_12 : decode cX5_mend 12 = .ok (.invokestatic 176, 3) := by decide +kernel
theorem dX5_mend_15 : decode cX5_mend 15 = .ok (.istore 4, 2) := by decide +kernel
theorem dX5_mend_17 : decode cX5_mend 17 = .ok (.iload 4, 2) := by decide +kernel
theorem dX5_mend_19 : decode cX5_mend 19 = .ok (.ifCond .eq 10, 3) := by decide +kernel
theorem dX5_mend_22 : decode cX5_mend 22 = .ok (.aload_n 0, 1) := by decide +kernel
theorem dX5_mend_23 : decode cX5_mend 23 = .ok (.iload 4, 2) := by decide +kernel
theorem dX5_mend_25 : decode cX5_mend 25 = .ok (.invokevirtual 49, 3) := by decide +kernel
theorem dX5_mend_28 : decode cX5_mend 28 = .ok (.ireturn, 1) := by decide +kernel
theorem dX5_mend_29 : decode cX5_mend 29 = .ok (.aload_n 0, 1) := by decide +kernel
theorem dX5_mend_30 : decode cX5_mend 30 = .ok (.getfield 21, 3) := by decide +kernel
theorem dX5_mend_33 : decode cX5_mend 33 = .ok (.invokevirtual 140, 3) := by decide +kernel
theorem dX5_mend_36 : decode cX5_mend 36 = .ok (.aload_n 0, 1) := by decide +kernel
theorem dX5_mend_37 : decode cX5_mend 37 = .ok (.getfield 21, 3) := by decide +kernel
theorem dX5_mend_40 : decode cX5_mend 40 = .ok (.iload_n 1, 1) := by decide +kernel
theorem dX5_mend_41 : decode cX5_mend 41 = .ok (.invokevirtual 155, 3) := by decide +kernel
theorem dX5_mend_44 : decode cX5_mend 44 = .ok (.aload_n 0, 1) := by decide +kernel
theorem dX5_mend_45 : decode cX5_mend 45 = .ok (.getfield 21, 3) := by decide +kernel
theorem dX5_mend_48 : decode cX5_mend 48 = .ok (.iload_n 2, 1) := by decide +kernel
theorem dX5_mend_49 : decode cX5_mend 49 = .ok (.invokevirtual 161, 3) := by decide +kernel
theorem dX5_mend_52 : decode cX5_mend 52 = .ok (.aload_n 0, 1) := by decide +kernel
theorem dX5_mend_53 : decode cX5_mend 53 = .ok (.invokevirtual 183, 3) := by decide +kernel
theorem dX5_mend_56 : decode cX5_mend 56 = .ok (.istore 5, 2) := by decide +kernel
theorem dX5_mend_58 : decode cX5_mend 58 = .ok (.iload_n 3, 1) := by decide +kernel
theorem dX5_mend_59 : decode cX5_mend 59 = .ok (.iconst (-1), 1) := by decide +kernel
theorem dX5_mend_60 : decode cX5_mend 60 = .ok (.if_icmp .ne 6, 3) := by decide +kernel
theorem dX5_mend_63 : decode cX5_mend 63 = .ok (.iload 5, 2) := by decide +kernel
theorem dX5_mend_65 : decode cX5_mend 65 = .ok (.ireturn, 1) := by decide +kernel
theorem dX5_mend_66 : decode cX5_mend 66 = .ok (.iload_n 3, 1) := by decide +kernel
theorem dX5_mend_67 : decode cX5_mend 67 = .ok (.iload 5, 2) := by decide +kernel
theorem dX5_mend_69 : decode cX5_mend 69 = .ok (.if_icmp .ge 21, 3) := by decide +kernel
theorem dX5_mend_72 : decode cX5_mend 72 = .ok (.iload_n 3, 1) := by decide +kernel
theorem dX5_mend_73 : decode cX5_mend 73 = .ok (.aload_n 0, 1) := by decide +kernel
theorem dX5_mend_74 : decode cX5_mend 74 = .ok (.getfield 39, 3) := by decide +kernel
theorem dX5_mend_77 : decode cX5_mend 77 = .ok (.arraylength, 1) := by decide +kernel
theorem dX5_mend_78 : decode cX5_mend 78 = .ok (.if_icmp .ge 12, 3) := by decide +kernel
theorem dX5_mend_81 : decode cX5_mend 81 = .ok (.aload_n 0, 1) := by decide +kernel
theorem dX5_mend_82 : decode cX5_mend 82 = .ok (.getfield 39, 3) := by decide +kernel
theorem dX5_mend_85 : decode cX5_mend 85 = .ok (.iload_n 3, 1) := by decide +kernel
theorem dX5_mend_86 : decode cX5_mend 86 = .ok (.iaload, 1) := by decide +kernel
theorem dX5_mend_87 : decode cX5_mend 87 = .ok (.goto 5, 3) := by decide +kernel
theorem dX5_mend_90 : decode cX5_mend 90 = .ok (.bipush (-9), 2) := by decide +kernel
theorem dX5_mend_92 : decode cX5_mend 92 = .ok (.ireturn, 1) := by decide +kernel
set_option maxRecDepth 20000 in
theorem ggX5_walls_X5_outside : GoodIn wsX5_walls wsX5_outside := goodIn_r _ [5] (by decide +kernel) (by decide +kernel)
set_option maxRecDepth 20000 in
theorem gX5_walls_X5_outside : GoodIn wsX5_walls (va_wsS RX5 64 yX5_outside wsX5_outside) := goodIn_app (goodIn_of _ (by decide +kernel)) ggX5_walls_X5_outside
set_option maxRecDepth 20000 in
theorem ggX5_walls_X5_refuse : GoodIn wsX5_walls wsX5_refuse := goodIn_r _ [9, 10, 119, 120, 121, 122, 123, 124, 125, 126] (by decide +kernel) (by decide +kernel)
set_option maxRecDepth 20000 in
theorem gX5_walls_X5_refuse : GoodIn wsX5_walls (wsV RX5 49 RX5 yX5_refuse wsX5_refuse) := goodIn_app (goodIn_of _ (by decide +kernel)) ggX5_walls_X5_refuse
set_option maxRecDepth 20000 in
theorem ggX5_walls_X2_begin : GoodIn wsX5_walls wsX2_begin := goodIn_r _ [15, 16, 17, 18, 19, 20, 21, 22, 23, 24, 25, 26, 27, 28, 29, 30, 31, 32, 33, 34, 35, 36, 37, 38, 39, 40, 41, 42, 43, 14, 44, 45, 46, 47, 48, 49, 50, 4, 51, 52, 53, 54, 55, 56, 57, 58, 59, 60, 61, 127, 128, 129, 130, 131, 132, 133, 134, 135, 136, 137, 138, 139, 140, 141, 142, 143, 144, 145, 146, 147, 148, 149] (by decide +kernel) (by decide +kernel)
set_option maxRecDepth 20000 in
theorem gX5_walls_X2_begin : GoodIn wsX5_walls (wsV RX5 140 RX2 yX2_begin wsX2_begin) := goodIn_app (goodIn_of _ (by decide +kernel)) ggX5_walls_X2_begin
set_option maxRecDepth 20000 in
theorem ggX5_walls_X2_chooseTakers : GoodIn wsX5_walls wsX2_chooseTakers := goodIn_r _ [65, 66, 25, 67, 68, 69, 70, 71, 72, 73, 74, 75, 76, 77, 78, 79, 80, 81, 82, 83, 84, 85, 127, 128, 129, 130, 131, 132, 133, 134, 135, 136, 137, 150, 151, 152] (by decide +kernel) (by decide +kernel)
set_option maxRecDepth 20000 in
theorem gX5_walls_X2_chooseTakers : GoodIn wsX5_walls (wsV RX5 161 RX2 yX2_chooseTakers wsX2_chooseTakers) := goodIn_app (goodIn_of _ (by decide +kernel)) ggX5_walls_X2_chooseTakers
set_option maxRecDepth 20000 in
theorem ggX5_walls_X5_fewestWalls : GoodIn wsX5_walls wsX5_fewestWalls := goodIn_r _ [89, 90, 91, 92, 1, 93, 53, 54, 14, 55, 56, 16, 57, 47, 48, 49, 23, 58, 45, 50, 4, 51, 59, 60, 61, 94, 95, 96, 97, 66, 98, 99, 100, 101, 102, 103, 104, 105, 106, 107, 108, 25, 18, 28, 26, 24, 109, 110, 111, 112, 113, 114, 115, 116, 70, 117, 76, 118, 80, 81, 82, 83, 84, 85, 119, 120, 121, 122, 123, 124, 125, 126, 138, 139, 140, 141, 142, 143, 144, 145, 146, 147, 148, 149, 127, 128, 129, 130, 131, 132, 133, 134, 135, 136, 137, 150, 151, 152] (by decide +kernel) (by decide +kernel)
set_option maxRecDepth 20000 in
theorem gX5_walls_X5_fewestWalls : GoodIn wsX5_walls (wsV RX5 187 RX5 yX5_fewestWalls wsX5_fewestWalls) := goodIn_app (goodIn_of _ (by decide +kernel)) ggX5_walls_X5_fewestWalls
theorem dX5_walls_0 : decode cX5_walls 0 = .ok (.iload_n 1, 1) := by decide +kernel
theorem dX5_walls_1 : decode cX5_walls 1 = .ok (.iconst 0, 1) := by decide +kernel
theorem dX5_walls_2 : decode cX5_walls 2 = .ok (.bipush 8, 2) := by decide +kernel
theorem dX5_walls_4 : decode cX5_walls 4 = .ok (.invokestatic 64, 3) := by decide +kernel
theorem dX5_walls_7 : decode cX5_walls 7 = .ok (.istore_n 2, 1) := by decide +kernel
theorem dX5_walls_8 : decode cX5_walls 8 = .ok (.iload_n 2, 1) := by decide +kernel
theorem dX5_walls_9 : decode cX5_walls 9 = .ok (.ifCond .eq 9, 3) := by decide +kernel
theorem dX5_walls_12 : decode cX5_walls 12 = .ok (.aload_n 0, 1) := by decide +kernel
theorem dX5_walls_13 : decode cX5_walls 13 = .ok (.iload_n 2, 1) := by decide +kernel
theorem dX5_walls_14 : decode cX5_walls 14 = .ok (.invokevirtual 49, 3) := by decide +kernel
theorem dX5_walls_17 : decode cX5_walls 17 = .ok (.ireturn, 1) := by decide +kernel
theorem dX5_walls_18 : decode cX5_walls 18 = .ok (.aload_n 0, 1) := by decide +kernel
theorem dX5_walls_19 : decode cX5_walls 19 = .ok (.getfield 21, 3) := by decide +kernel
theorem dX5_walls_22 : decode cX5_walls 22 = .ok (.invokevirtual 140, 3) := by decide +kernel
theorem dX5_walls_25 : decode cX5_walls 25 = .ok (.aload_n 0, 1) := by decide +kernel
theorem dX5_walls_26 : decode cX5_walls 26 = .ok (.getfield 21, 3) := by decide +kernel
theorem dX5_walls_29 : decode cX5_walls 29 = .ok (.iload_n 1, 1) := by decide +kernel
theorem dX5_walls_30 : decode cX5_walls 30 = .ok (.invokevirtual 161, 3) := by decide +kernel
theorem dX5_walls_33 : decode cX5_walls 33 = .ok (.aload_n 0, 1) := by decide +kernel
theorem dX5_walls_34 : decode cX5_walls 34 = .ok (.invokevirtual 187, 3) := by decide +kernel
theorem dX5_walls_37 : decode cX5_walls 37 = .ok (.ireturn, 1) := by decide +kernel
set_option maxRecDepth 20000 in
theorem ggX5_bank_X5_outside : GoodIn wsX5_bank wsX5_outside := goodIn_r _ [5] (by decide +kernel) (by decide +kernel)
set_option maxRecDepth 20000 in
theorem gX5_bank_X5_outside : GoodIn wsX5_bank (va_wsS RX5 64 yX5_outside wsX5_outside) := goodIn_app (goodIn_of _ (by decide +kernel)) ggX5_bank_X5_outside
set_option maxRecDepth 20000 in
theorem ggX5_bank_X5_refuse : GoodIn wsX5_bank wsX5_refuse := goodIn_r _ [9, 10, 119, 120, 121, 122, 123, 124, 125, 126] (by decide +kernel) (by decide +kernel)
set_option maxRecDepth 20000 in
theorem gX5_bank_X5_refuse : GoodIn wsX5_bank (wsV RX5 49 RX5 yX5_refuse wsX5_refuse) := goodIn_app (goodIn_of _ (by decide +kernel)) ggX5_bank_X5_refuse
set_option maxRecDepth 20000 in
theorem ggX5_bank_X2_begin : GoodIn wsX5_bank wsX2_begin := goodIn_r _ [15, 16, 17, 18, 19, 20, 21, 22, 23, 24, 25, 26, 27, 28, 29, 30, 31, 32, 33, 34, 35, 36, 37, 38, 39, 40, 41, 42, 43, 14, 44, 45, 46, 47, 48, 49, 50, 4, 51, 52, 53, 54, 55, 56, 57, 58, 59, 60, 61, 127, 128, 129, 130, 131, 132, 133, 134, 135, 136, 137, 138, 139, 140, 141, 142, 143, 144, 145, 146, 147, 148, 149] (by decide +kernel) (by decide +kernel)
set_option maxRecDepth 20000 in
theorem gX5_bank_X2_begin : GoodIn wsX5_bank (wsV RX5 140 RX2 yX2_begin wsX2_begin) := goodIn_app (goodIn_of _ (by decide +kernel)) ggX5_bank_X2_begin
set_option maxRecDepth 20000 in
theorem ggX5_bank_X2_chooseLeavers : GoodIn wsX5_bank wsX2_chooseLeavers := goodIn_r _ [65, 66, 25, 67, 68, 69, 70, 71, 72, 73, 74, 75, 76, 77, 78, 79, 80, 81, 82, 83, 84, 85, 127, 128, 129, 130, 131, 132, 133, 134, 135, 136, 137, 150, 151, 152] (by decide +kernel) (by decide +kernel)
set_option maxRecDepth 20000 in
theorem gX5_bank_X2_chooseLeavers : GoodIn wsX5_bank (wsV RX5 155 RX2 yX2_chooseLeavers wsX2_chooseLeavers) := goodIn_app (goodIn_of _ (by decide +kernel)) ggX5_bank_X2_chooseLeavers
set_option maxRecDepth 20000 in
theorem ggX5_bank_X5_fewestOnPaper : GoodIn wsX5_bank wsX5_fewestOnPaper := goodIn_r _ [89, 90, 91, 1, 92, 93, 37, 38, 32, 39, 40, 94, 80, 81, 82, 83, 84, 85, 95, 96, 97, 14, 98, 66, 99, 100, 101, 102, 103, 104, 105, 106, 107, 108, 109, 58, 25, 18, 28, 26, 24, 59, 60, 61, 110, 111, 112, 113, 16, 114, 47, 48, 49, 115, 116, 117, 70, 118, 76, 119, 120, 121, 122, 123, 124, 125, 126, 138, 139, 140, 141, 142, 143, 144, 145, 146, 127, 128, 129, 130, 131, 132, 133, 134, 135, 136, 137, 150, 151, 152, 147, 148, 149] (by decide +kernel) (by decide +kernel)
set_option maxRecDepth 20000 in
theorem gX5_bank_X5_fewestOnPaper : GoodIn wsX5_bank (wsV RX5 190 RX5 yX5_fewestOnPaper wsX5_fewestOnPaper) := goodIn_app (goodIn_of _ (by decide +kernel)) ggX5_bank_X5_fewestOnPaper
theorem dX5_bank_0 : decode cX5_bank 0 = .ok (.iload_n 1, 1) := by decide +kernel
theorem dX5_bank_1 : decode cX5_bank 1 = .ok (.iconst 0, 1) := by decide +kernel
theorem dX5_bank_2 : decode cX5_bank 2 = .ok (.bipush 8, 2) := by decide +kernel
theorem dX5_bank_4 : decode cX5_bank 4 = .ok (.invokestatic 64, 3) := by decide +kernel
theorem dX5_bank_7 : decode cX5_bank 7 = .ok (.istore_n 2, 1) := by decide +kernel
theorem dX5_bank_8 : decode cX5_bank 8 = .ok (.iload_n 2, 1) := by decide +kernel
theorem dX5_bank_9 : decode cX5_bank 9 = .ok (.ifCond .eq 9, 3) := by decide +kernel
theorem dX5_bank_12 : decode cX5_bank 12 = .ok (.aload_n 0, 1) := by decide +kernel
theorem dX5_bank_13 : decode cX5_bank 13 = .ok (.iload_n 2, 1) := by decide +kernel
theorem dX5_bank_14 : decode cX5_bank 14 = .ok (.invokevirtual 49, 3) := by decide +kernel
theorem dX5_bank_17 : decode cX5_bank 17 = .ok (.ireturn, 1) := by decide +kernel
theorem dX5_bank_18 : decode cX5_bank 18 = .ok (.aload_n 0, 1) := by decide +kernel
theorem dX5_bank_19 : decode cX5_bank 19 = .ok (.getfield 21, 3) := by decide +kernel
theorem dX5_bank_22 : decode cX5_bank 22 = .ok (.invokevirtual 140, 3) := by decide +kernel
theorem dX5_bank_25 : decode cX5_bank 25 = .ok (.aload_n 0, 1) := by decide +kernel
theorem dX5_bank_26 : decode cX5_bank 26 = .ok (.getfield 21, 3) := by decide +kernel
theorem dX5_bank_29 : decode cX5_bank 29 = .ok (.iload_n 1, 1) := by decide +kernel
theorem dX5_bank_30 : decode cX5_bank 30 = .ok (.invokevirtual 155, 3) := by decide +kernel
theorem dX5_bank_33 : decode cX5_bank 33 = .ok (.aload_n 0, 1) := by decide +kernel
theorem dX5_bank_34 : decode cX5_bank 34 = .ok (.invokevirtual 190, 3) := by decide +kernel
theorem dX5_bank_37 : decode cX5_bank 37 = .ok (.ireturn, 1) := by decide +kernel
set_option maxRecDepth 20000 in
theorem ggX5_giving_X5_refuse : GoodIn wsX5_giving wsX5_refuse := goodIn_r _ [7, 8, 143, 144, 145, 146, 147, 148, 149, 150] (by decide +kernel) (by decide +kernel)
set_option maxRecDepth 20000 in
theorem gX5_giving_X5_refuse : GoodIn wsX5_giving (wsV RX5 49 RX5 yX5_refuse wsX5_refuse) := goodIn_app (goodIn_of _ (by decide +kernel)) ggX5_giving_X5_refuse
set_option maxRecDepth 20000 in
theorem ggX5_giving_X5_outside : GoodIn wsX5_giving wsX5_outside := goodIn_r _ [11] (by decide +kernel) (by decide +kernel)
set_option maxRecDepth 20000 in
theorem gX5_giving_X5_outside : GoodIn wsX5_giving (va_wsS RX5 64 yX5_outside wsX5_outside) := goodIn_app (goodIn_of _ (by decide +kernel)) ggX5_giving_X5_outside
set_option maxRecDepth 20000 in
theorem ggX5_giving_X1_inHouse : GoodIn wsX5_giving wsX1_inHouse := goodIn_r _ [16, 17, 18, 151, 152, 153, 154, 155, 156, 157, 158, 159] (by decide +kernel) (by decide +kernel)
set_option maxRecDepth 20000 in
theorem gX5_giving_X1_inHouse : GoodIn wsX5_giving (wsV RX5 193 RX1 yX1_inHouse wsX1_inHouse) := goodIn_app (goodIn_of _ (by decide +kernel)) ggX5_giving_X1_inHouse
set_option maxRecDepth 20000 in
theorem ggX5_giving_X2_begin : GoodIn wsX5_giving wsX2_begin := goodIn_r _ [23, 24, 25, 26, 27, 28, 29, 30, 31, 32, 33, 34, 35, 36, 37, 13, 14, 15, 16, 17, 18, 38, 39, 40, 41, 42, 43, 44, 45, 22, 46, 47, 48, 49, 50, 51, 52, 6, 53, 54, 55, 56, 57, 58, 59, 60, 61, 62, 63, 160, 161, 162, 163, 164, 165, 166, 167, 168, 169, 170, 151, 152, 153, 154, 155, 156, 157, 158, 159, 171, 172, 173] (by decide +kernel) (by decide +kernel)
set_option maxRecDepth 20000 in
theorem gX5_giving_X2_begin : GoodIn wsX5_giving (wsV RX5 140 RX2 yX2_begin wsX2_begin) := goodIn_app (goodIn_of _ (by decide +kernel)) ggX5_giving_X2_begin
set_option maxRecDepth 20000 in
theorem ggX5_giving_X2_giveOut : GoodIn wsX5_giving wsX2_giveOut := goodIn_r _ [67, 33, 24, 31, 26, 68, 69, 70, 71, 72, 73, 74, 75, 76, 77, 22, 78, 52, 6, 53, 79, 80, 81, 82, 83, 84, 85, 86, 87, 88, 89, 90, 91, 160, 161, 162, 163, 164, 165, 166, 167, 168, 169, 170, 151, 152, 153, 154, 155, 156, 157, 158, 159] (by decide +kernel) (by decide +kernel)
set_option maxRecDepth 20000 in
theorem gX5_giving_X2_giveOut : GoodIn wsX5_giving (wsV RX5 196 RX2 yX2_giveOut wsX2_giveOut) := goodIn_app (goodIn_of _ (by decide +kernel)) ggX5_giving_X2_giveOut
set_option maxRecDepth 20000 in
theorem ggX5_giving_X2_chooseLeavers : GoodIn wsX5_giving wsX2_chooseLeavers := goodIn_r _ [95, 96, 33, 97, 98, 99, 100, 101, 102, 103, 104, 105, 106, 107, 108, 109, 69, 70, 71, 72, 73, 74, 160, 161, 162, 163, 164, 165, 166, 167, 168, 169, 170, 174, 175, 176] (by decide +kernel) (by decide +kernel)
set_option maxRecDepth 20000 in
theorem gX5_giving_X2_chooseLeavers : GoodIn wsX5_giving (wsV RX5 155 RX2 yX2_chooseLeavers wsX2_chooseLeavers) := goodIn_app (goodIn_of _ (by decide +kernel)) ggX5_giving_X2_chooseLeavers
set_option maxRecDepth 20000 in
theorem ggX5_giving_X2_chooseTakers : GoodIn wsX5_giving wsX2_chooseTakers := goodIn_r _ [113, 114, 33, 97, 98, 99, 100, 101, 102, 103, 104, 105, 106, 107, 108, 109, 69, 70, 71, 72, 73, 74, 160, 161, 162, 163, 164, 165, 166, 167, 168, 169, 170, 174, 175, 176] (by decide +kernel) (by decide +kernel)
set_option maxRecDepth 20000 in
theorem gX5_giving_X2_chooseTakers : GoodIn wsX5_giving (wsV RX5 161 RX2 yX2_chooseTakers wsX2_chooseTakers) := goodIn_app (goodIn_of _ (by decide +kernel)) ggX5_giving_X2_chooseTakers
set_option maxRecDepth 20000 in
theorem ggX5_giving_X2_isKept : GoodIn wsX5_giving wsX2_isKept := goodIn_r _ [118, 96, 119, 120, 121, 22, 122, 123, 124, 125, 126, 127, 128, 129, 60, 33, 26, 36, 34, 32, 61, 62, 63, 130, 131, 132, 133, 24, 134, 49, 50, 51, 135, 136, 137, 100, 138, 106, 160, 161, 162, 163, 164, 165, 166, 167, 168, 169, 170, 174, 175, 176, 151, 152, 153, 154, 155, 156, 157, 158, 159, 171, 172, 173] (by decide +kernel) (by decide +kernel)
set_option maxRecDepth 20000 in
theorem gX5_giving_X2_isKept : GoodIn wsX5_giving (wsV RX5 158 RX2 yX2_isKept wsX2_isKept) := goodIn_app (goodIn_of _ (by decide +kernel)) ggX5_giving_X2_isKept
set_option maxRecDepth 20000 in
theorem ggX5_giving_X2_isSafe : GoodIn wsX5_giving wsX2_isSafe := goodIn_r _ [142, 114, 119, 120, 121, 22, 122, 123, 124, 125, 126, 127, 128, 129, 60, 33, 26, 36, 34, 32, 61, 62, 63, 130, 131, 132, 133, 24, 134, 49, 50, 51, 135, 136, 137, 100, 138, 106, 160, 161, 162, 163, 164, 165, 166, 167, 168, 169, 170, 174, 175, 176, 151, 152, 153, 154, 155, 156, 157, 158, 159, 171, 172, 173] (by decide +kernel) (by decide +kernel)
set_option maxRecDepth 20000 in
theorem gX5_giving_X2_isSafe : GoodIn wsX5_giving (wsV RX5 164 RX2 yX2_isSafe wsX2_isSafe) := goodIn_app (goodIn_of _ (by decide +kernel)) ggX5_giving_X2_isSafe
theorem dX5_giving_0 : decode cX5_giving 0 = .ok (.iload_n 1, 1) := by decide +kernel
theorem dX5_giving_1 : decode cX5_giving 1 = .ok (.ifCond .lt 8, 3) := by decide +kernel
theorem dX5_giving_4 : decode cX5_giving 4 = .ok (.iload_n 1, 1) := by decide +kernel
theorem dX5_giving_5 : decode cX5_giving 5 = .ok (.iconst 5, 1) := by decide +kernel
theorem dX5_giving_6 : decode cX5_giving 6 = .ok (.if_icmp .lt 9, 3) := by decide +kernel
theorem dX5_giving_9 : decode cX5_giving 9 = .ok (.aload_n 0, 1) := by decide +kernel
theorem dX5_giving_10 : decode cX5_giving 10 = .ok (.iconst (-1), 1) := by decide +kernel
theorem dX5_giving_11 : decode cX5_giving 11 = .ok (.invokevirtual 49, 3) := by decide +kernel
theorem dX5_giving_14 : decode cX5_giving 14 = .ok (.ireturn, 1) := by decide +kernel
theorem dX5_giving_15 : decode cX5_giving 15 = .ok (.iload_n 2, 1) := by decide +kernel
theorem dX5_giving_16 : decode cX5_giving 16 = .ok (.ifCond .lt 8, 3) := by decide +kernel
theorem dX5_giving_19 : decode cX5_giving 19 = .ok (.iload_n 2, 1) := by decide +kernel
theorem dX5_giving_20 : decode cX5_giving 20 = .ok (.iconst 2, 1) := by decide +kernel
theorem dX5_giving_21 : decode cX5_giving 21 = .ok (.if_icmp .le 10, 3) := by decide +kernel
theorem dX5_giving_24 : decode cX5_giving 24 = .ok (.aload_n 0, 1) := by decide +kernel
theorem dX5_giving_25 : decode cX5_giving 25 = .ok (.bipush (-2), 2) := by decide +kernel
theorem dX5_giving_27 : decode cX5_giving 27 = .ok (.invokevirtual 49, 3) := by decide +kernel
theorem dX5_giving_30 : decode cX5_giving 30 = .ok (.ireturn, 1) := by decide +kernel
theorem dX5_giving_31 : decode cX5_giving 31 = .ok (.iload_n 3, 1) := by decide +kernel
theorem dX5_giving_32 : decode cX5_giving 32 = .ok (.iconst 0, 1) := by decide +kernel
theorem dX5_giving_33 : decode cX5_giving 33 = .ok (.bipush 8, 2) := by decide +kernel
theorem dX5_giving_35 : decode cX5_giving 35 = .ok (.invokestatic 64, 3) := by decide +kernel
theorem dX5_giving_38 : decode cX5_giving 38 = .ok (.istore 4, 2) := by decide +kernel
theorem dX5_giving_40 : decode cX5_giving 40 = .ok (.iload 4, 2) := by decide +kernel
theorem dX5_giving_42 : decode cX5_giving 42 = .ok (.ifCond .eq 10, 3) := by decide +kernel
theorem dX5_giving_45 : decode cX5_giving 45 = .ok (.aload_n 0, 1) := by decide +kernel
theorem dX5_giving_46 : decode cX5_giving 46 = .ok (.iload 4, 2) := by decide +kernel
theorem dX5_giving_48 : decode cX5_giving 48 = .ok (.invokevirtual 49, 3) := by decide +kernel
theorem dX5_giving_51 : decode cX5_giving 51 = .ok (.ireturn, 1) := by decide +kernel
theorem dX5_giving_52 : decode cX5_giving 52 = .ok (.aload_n 0, 1) := by decide +kernel
theorem dX5_giving_53 : decode cX5_giving 53 = .ok (.getfield 12, 3) := by decide +kernel
theorem dX5_giving_56 : decode cX5_giving 56 = .ok (.invokevirtual 193, 3) := by decide +kernel
theorem dX5_giving_59 : decode cX5_giving 59 = .ok (.ifCond .ne 10, 3) := by decide +kernel
theorem dX5_giving_62 : decode cX5_giving 62 = .ok (.aload_n 0, 1) := by decide +kernel
theorem dX5_giving_63 : decode cX5_giving 63 = .ok (.bipush (-3), 2) := by decide +kernel
theorem dX5_giving_65 : decode cX5_giving 65 = .ok (.invokevirtual 49, 3) := by decide +kernel
theorem dX5_giving_68 : decode cX5_giving 68 = .ok (.ireturn, 1) := by decide +kernel
theorem dX5_giving_69 : decode cX5_giving 69 = .ok (.aload_n 0, 1) := by decide +kernel
theorem dX5_giving_70 : decode cX5_giving 70 = .ok (.getfield 21, 3) := by decide +kernel
theorem dX5_giving_73 : decode cX5_giving 73 = .ok (.invokevirtual 140, 3) := by decide +kernel
theorem dX5_giving_76 : decode cX5_giving 76 = .ok (.aload_n 0, 1) := by decide +kernel
theorem dX5_giving_77 : decode cX5_giving 77 = .ok (.getfield 21, 3) := by decide +kernel
theorem dX5_giving_80 : decode cX5_giving 80 = .ok (.iload_n 1, 1) := by decide +kernel
theorem dX5_giving_81 : decode cX5_giving 81 = .ok (.invokevirtual 196, 3) := by decide +kernel
theorem dX5_giving_84 : decode cX5_giving 84 = .ok (.istore 5, 2) := by decide +kernel
theorem dX5_giving_86 : decode cX5_giving 86 = .ok (.iload_n 2, 1) := by decide +kernel
theorem dX5_giving_87 : decode cX5_giving 87 = .ok (.ifCond .ne 6, 3) := by decide +kernel
theorem dX5_giving_90 : decode cX5_giving 90 = .ok (.iload 5, 2) := by decide +kernel
theorem dX5_giving_92 : decode cX5_giving 92 = .ok (.ireturn, 1) := by decide +kernel
theorem dX5_giving_93 : decode cX5_giving 93 = .ok (.aload_n 0, 1) := by decide +kernel
theorem dX5_giving_94 : decode cX5_giving 94 = .ok (.getfield 21, 3) := by decide +kernel
theorem dX5_giving_97 : decode cX5_giving 97 = .ok (.iload_n 3, 1) := by decide +kernel
theorem dX5_giving_98 : decode cX5_giving 98 = .ok (.invokevirtual 155, 3) := by decide +kernel
theorem dX5_giving_101 : decode cX5_giving 101 = .ok (.aload_n 0, 1) := by decide +kernel
theorem dX5_giving_102 : decode cX5_giving 102 = .ok (.getfield 21, 3) := by decide +kernel
theorem dX5_giving_105 : decode cX5_giving 105 = .ok (.iload_n 3, 1) := by decide +kernel
theorem dX5_giving_106 : decode cX5_giving 106 = .ok (.invokevirtual 161, 3) := by decide +kernel
theorem dX5_giving_109 : decode cX5_giving 109 = .ok (.iload_n 2, 1) := by decide +kernel
theorem dX5_giving_110 : decode cX5_giving 110 = .ok (.iconst 1, 1) := by decide +kernel
theorem dX5_giving_111 : decode cX5_giving 111 = .ok (.if_icmp .ne 13, 3) := by decide +kernel
theorem dX5_giving_114 : decode cX5_giving 114 = .ok (.aload_n 0, 1) := by decide +kernel
theorem dX5_giving_115 : decode cX5_giving 115 = .ok (.getfield 21, 3) := by decide +kernel
theorem dX5_giving_118 : decode cX5_giving 118 = .ok (.invokevirtual 158, 3) := by decide +kernel
theorem dX5_giving_121 : decode cX5_giving 121 = .ok (.goto 10, 3) := by decide +kernel
theorem dX5_giving_124 : decode cX5_giving 124 = .ok (.aload_n 0, 1) := by decide +kernel
theorem dX5_giving_125 : decode cX5_giving 125 = .ok (.getfield 21, 3) := by decide +kernel
theorem dX5_giving_128 : decode cX5_giving 128 = .ok (.invokevirtual 164, 3) := by decide +kernel
theorem dX5_giving_131 : decode cX5_giving 131 = .ok (.istore 6, 2) := by decide +kernel
theorem dX5_giving_133 : decode cX5_giving 133 = .ok (.iload 6, 2) := by decide +kernel
theorem dX5_giving_135 : decode cX5_giving 135 = .ok (.ifCond .eq 7, 3) := by decide +kernel
theorem dX5_giving_138 : decode cX5_giving 138 = .ok (.iconst 1, 1) := by decide +kernel
theorem dX5_giving_139 : decode cX5_giving 139 = .ok (.goto 4, 3) := by decide +kernel
theorem dX5_giving_142 : decode cX5_giving 142 = .ok (.iconst 0, 1) := by decide +kernel
theorem dX5_giving_143 : decode cX5_giving 143 = .ok (.ireturn, 1) := by decide +kernel
set_option maxRecDepth 20000 in
theorem ggX5_finest_X5_outsideHands : GoodIn wsX5_finest wsX5_outsideHands := goodIn_r _ [6] (by decide +kernel) (by decide +kernel)
set_option maxRecDepth 20000 in
theorem gX5_finest_X5_outsideHands : GoodIn wsX5_finest (va_wsS RX5 176 yX5_outsideHands wsX5_outsideHands) := goodIn_app (goodIn_of _ (by decide +kernel)) ggX5_finest_X5_outsideHands
set_option maxRecDepth 20000 in
theorem ggX5_finest_X5_refuse : GoodIn wsX5_finest wsX5_refuse := goodIn_r _ [10, 11, 143, 144, 145, 146, 147, 148, 149, 150] (by decide +kernel) (by decide +kernel)
set_option maxRecDepth 20000 in
theorem gX5_finest_X5_refuse : GoodIn wsX5_finest (wsV RX5 49 RX5 yX5_refuse wsX5_refuse) := goodIn_app (goodIn_of _ (by decide +kernel)) ggX5_finest_X5_refuse
set_option maxRecDepth 20000 in
theorem ggX5_finest_X1_inHouse : GoodIn wsX5_finest wsX1_inHouse := goodIn_r _ [16, 17, 18, 151, 152, 153, 154, 155, 156, 157, 158, 159] (by decide +kernel) (by decide +kernel)
set_option maxRecDepth 20000 in
theorem gX5_finest_X1_inHouse : GoodIn wsX5_finest (wsV RX5 193 RX1 yX1_inHouse wsX1_inHouse) := goodIn_app (goodIn_of _ (by decide +kernel)) ggX5_finest_X1_inHouse
set_option maxRecDepth 20000 in
theorem ggX5_finest_X2_begin : GoodIn wsX5_finest wsX2_begin := goodIn_r _ [23, 24, 25, 26, 27, 28, 29, 30, 31, 32, 33, 34, 35, 36, 37, 13, 14, 15, 16, 17, 18, 38, 39, 40, 41, 42, 43, 44, 45, 22, 46, 47, 48, 49, 50, 51, 52, 5, 53, 54, 55, 56, 57, 58, 59, 60, 61, 62, 63, 160, 161, 162, 163, 164, 165, 166, 167, 168, 169, 170, 151, 152, 153, 154, 155, 156, 157, 158, 159, 171, 172, 173] (by decide +kernel) (by decide +kernel)
set_option maxRecDepth 20000 in
theorem gX5_finest_X2_begin : GoodIn wsX5_finest (wsV RX5 140 RX2 yX2_begin wsX2_begin) := goodIn_app (goodIn_of _ (by decide +kernel)) ggX5_finest_X2_begin
set_option maxRecDepth 20000 in
theorem ggX5_finest_X2_chooseLeavers : GoodIn wsX5_finest wsX2_chooseLeavers := goodIn_r _ [67, 68, 33, 69, 70, 71, 72, 73, 74, 75, 76, 77, 78, 79, 80, 81, 82, 83, 84, 85, 86, 87, 160, 161, 162, 163, 164, 165, 166, 167, 168, 169, 170, 174, 175, 176] (by decide +kernel) (by decide +kernel)
set_option maxRecDepth 20000 in
theorem gX5_finest_X2_chooseLeavers : GoodIn wsX5_finest (wsV RX5 155 RX2 yX2_chooseLeavers wsX2_chooseLeavers) := goodIn_app (goodIn_of _ (by decide +kernel)) ggX5_finest_X2_chooseLeavers
set_option maxRecDepth 20000 in
theorem ggX5_finest_X2_chooseTakers : GoodIn wsX5_finest wsX2_chooseTakers := goodIn_r _ [91, 92, 33, 69, 70, 71, 72, 73, 74, 75, 76, 77, 78, 79, 80, 81, 82, 83, 84, 85, 86, 87, 160, 161, 162, 163, 164, 165, 166, 167, 168, 169, 170, 174, 175, 176] (by decide +kernel) (by decide +kernel)
set_option maxRecDepth 20000 in
theorem gX5_finest_X2_chooseTakers : GoodIn wsX5_finest (wsV RX5 161 RX2 yX2_chooseTakers wsX2_chooseTakers) := goodIn_app (goodIn_of _ (by decide +kernel)) ggX5_finest_X2_chooseTakers
set_option maxRecDepth 20000 in
theorem ggX5_finest_X5_finestKind : GoodIn wsX5_finest wsX5_finestKind := goodIn_r _ [96, 2, 97, 98, 99, 22, 100, 33, 24, 31, 26, 101, 82, 83, 84, 85, 86, 87, 102, 103, 104, 105, 52, 5, 53, 106, 107, 108, 109, 110, 111, 112, 113, 114, 115, 116, 117, 118, 119, 120, 121, 122, 68, 92, 123, 124, 125, 126, 127, 128, 129, 130, 131, 132, 133, 60, 36, 34, 32, 61, 62, 63, 134, 135, 136, 137, 138, 49, 50, 51, 139, 140, 141, 72, 142, 78, 143, 144, 145, 146, 147, 148, 149, 150, 160, 161, 162, 163, 164, 165, 166, 167, 168, 169, 170, 151, 152, 153, 154, 155, 156, 157, 158, 159, 174, 175, 176, 171, 172, 173] (by decide +kernel) (by decide +kernel)
set_option maxRecDepth 20000 in
theorem gX5_finest_X5_finestKind : GoodIn wsX5_finest (wsV RX5 199 RX5 yX5_finestKind wsX5_finestKind) := goodIn_app (goodIn_of _ (by decide +kernel)) ggX5_finest_X5_finestKind
theorem dX5_finest_0 : decode cX5_finest 0 = .ok (.iload_n 1, 1) := by decide +kernel
theorem dX5_finest_1 : decode cX5_finest 1 = .ok (.iload_n 2, 1) := by decide +kernel
theorem dX5_finest_2 : decode cX5_finest 2 = .ok (.invokestatic 176, 3) := by decide +kernel
theorem dX5_finest_5 : decode cX5_finest 5 = .ok (.istore_n 3, 1) := by decide +kernel
theorem dX5_finest_6 : decode cX5_finest 6 = .ok (.iload_n 3, 1) := by decide +kernel
theorem dX5_finest_7 : decode cX5_finest 7 = .ok (.ifCond .eq 9, 3) := by decide +kernel
theorem dX5_finest_10 : decode cX5_finest 10 = .ok (.aload_n 0, 1) := by decide +kernel
theorem dX5_finest_11 : decode cX5_finest 11 = .ok (.iload_n 3, 1) := by decide +kernel
theorem dX5_finest_12 : decode cX5_finest 12 = .ok (.invokevirtual 49, 3) := by decide +kernel
theorem dX5_finest_15 : decode cX5_finest 15 = .ok (.ireturn, 1) := by decide +kernel
theorem dX5_finest_16 : decode cX5_finest 16 = .ok (.aload_n 0, 1) := by decide +kernel
theorem dX5_finest_17 : decode cX5_finest 17 = .ok (.getfield 12, 3) := by decide +kernel
theorem dX5_finest_20 : decode cX5_finest 20 = .ok (.invokevirtual 193, 3) := by decide +kernel
theorem dX5_finest_23 : decode cX5_finest 23 = .ok (.ifCond .ne 10, 3) := by decide +kernel
theorem dX5_finest_26 : decode cX5_finest 26 = .ok (.aload_n 0, 1) := by decide +kernel
theorem dX5_finest_27 : decode cX5_finest 27 = .ok (.bipush (-3), 2) := by decide +kernel
theorem dX5_finest_29 : decode cX5_finest 29 = .ok (.invokevirtual 49, 3) := by decide +kernel
theorem dX5_finest_32 : decode cX5_finest 32 = .ok (.ireturn, 1) := by decide +kernel
theorem dX5_finest_33 : decode cX5_finest 33 = .ok (.aload_n 0, 1) := by decide +kernel
theorem dX5_finest_34 : decode cX5_finest 34 = .ok (.getfield 21, 3) := by decide +kernel
theorem dX5_finest_37 : decode cX5_finest 37 = .ok (.invokevirtual 140, 3) := by decide +kernel
theorem dX5_finest_40 : decode cX5_finest 40 = .ok (.aload_n 0, 1) := by decide +kernel
theorem dX5_finest_41 : decode cX5_finest 41 = .ok (.getfield 21, 3) := by decide +kernel
theorem dX5_finest_44 : decode cX5_finest 44 = .ok (.iload_n 1, 1) := by decide +kernel
theorem dX5_finest_45 : decode cX5_finest 45 = .ok (.invokevirtual 155, 3) := by decide +kernel
theorem dX5_finest_48 : decode cX5_finest 48 = .ok (.aload_n 0, 1) := by decide +kernel
theorem dX5_finest_49 : decode cX5_finest 49 = .ok (.getfield 21, 3) := by decide +kernel
theorem dX5_finest_52 : decode cX5_finest 52 = .ok (.iload_n 2, 1) := by decide +kernel
theorem dX5_finest_53 : decode cX5_finest 53 = .ok (.invokevirtual 161, 3) := by decide +kernel
theorem dX5_finest_56 : decode cX5_finest 56 = .ok (.aload_n 0, 1) := by decide +kernel
theorem dX5_finest_57 : decode cX5_finest 57 = .ok (.invokevirtual 199, 3) := by decide +kernel
theorem dX5_finest_60 : decode cX5_finest 60 = .ok (.ireturn, 1) := by decide +kernel
set_option maxRecDepth 20000 in
theorem ggX5_loses_X2_begin : GoodIn wsX5_loses wsX2_begin := goodIn_r _ [6, 7, 8, 9, 10, 11, 12, 13, 14, 15, 16, 17, 18, 19, 20, 21, 22, 23, 24, 25, 26, 27, 28, 29, 30, 31, 32, 33, 34, 5, 35, 36, 37, 38, 39, 40, 41, 42, 43, 44, 45, 46, 47, 48, 49, 50, 51, 52, 53, 87, 88, 89, 90, 91, 92, 93, 94, 95, 96, 97, 98, 99, 100, 101, 102, 103, 104, 105, 106, 107, 108, 109] (by decide +kernel) (by decide +kernel)
set_option maxRecDepth 20000 in
theorem gX5_loses_X2_begin : GoodIn wsX5_loses (wsV RX5 140 RX2 yX2_begin wsX2_begin) := goodIn_app (goodIn_of _ (by decide +kernel)) ggX5_loses_X2_begin
set_option maxRecDepth 20000 in
theorem ggX5_loses_X5_likely : GoodIn wsX5_loses wsX5_likely := goodIn_r _ [57, 58, 59, 1, 60, 61, 62, 5, 63, 16, 64, 65, 66, 67, 50, 9, 19, 17, 15, 51, 52, 53, 68, 69, 70, 71, 7, 72, 38, 39, 40, 73, 74, 75, 23, 76, 25, 77, 78, 21, 22, 24, 26, 41, 42, 43, 79, 80, 81, 82, 83, 84, 85, 86, 98, 99, 100, 101, 102, 103, 104, 105, 106, 87, 88, 89, 90, 91, 92, 93, 94, 95, 96, 97, 107, 108, 109] (by decide +kernel) (by decide +kernel)
set_option maxRecDepth 20000 in
theorem gX5_loses_X5_likely : GoodIn wsX5_loses (wsV RX5 202 RX5 yX5_likely wsX5_likely) := goodIn_app (goodIn_of _ (by decide +kernel)) ggX5_loses_X5_likely
theorem dX5_loses_0 : decode cX5_loses 0 = .ok (.aload_n 0, 1) := by decide +kernel
theorem dX5_loses_1 : decode cX5_loses 1 = .ok (.getfield 21, 3) := by decide +kernel
theorem dX5_loses_4 : decode cX5_loses 4 = .ok (.invokevirtual 140, 3) := by decide +kernel
theorem dX5_loses_7 : decode cX5_loses 7 = .ok (.aload_n 0, 1) := by decide +kernel
theorem dX5_loses_8 : decode cX5_loses 8 = .ok (.iconst 0, 1) := by decide +kernel
theorem dX5_loses_9 : decode cX5_loses 9 = .ok (.invokevirtual 202, 3) := by decide +kernel
theorem dX5_loses_12 : decode cX5_loses 12 = .ok (.lreturn, 1) := by decide +kernel
set_option maxRecDepth 20000 in
theorem ggX5_carries_X2_begin : GoodIn wsX5_carries wsX2_begin := goodIn_r _ [6, 7, 8, 9, 10, 11, 12, 13, 14, 15, 16, 17, 18, 19, 20, 21, 22, 23, 24, 25, 26, 27, 28, 29, 30, 31, 32, 33, 34, 5, 35, 36, 37, 38, 39, 40, 41, 42, 43, 44, 45, 46, 47, 48, 49, 50, 51, 52, 53, 87, 88, 89, 90, 91, 92, 93, 94, 95, 96, 97, 98, 99, 100, 101, 102, 103, 104, 105, 106, 107, 108, 109] (by decide +kernel) (by decide +kernel)
set_option maxRecDepth 20000 in
theorem gX5_carries_X2_begin : GoodIn wsX5_carries (wsV RX5 140 RX2 yX2_begin wsX2_begin) := goodIn_app (goodIn_of _ (by decide +kernel)) ggX5_carries_X2_begin
set_option maxRecDepth 20000 in
theorem ggX5_carries_X5_likely : GoodIn wsX5_carries wsX5_likely := goodIn_r _ [57, 58, 59, 1, 60, 61, 62, 5, 63, 16, 64, 65, 66, 67, 50, 9, 19, 17, 15, 51, 52, 53, 68, 69, 70, 71, 7, 72, 38, 39, 40, 73, 74, 75, 23, 76, 25, 77, 78, 21, 22, 24, 26, 41, 42, 43, 79, 80, 81, 82, 83, 84, 85, 86, 98, 99, 100, 101, 102, 103, 104, 105, 106, 87, 88, 89, 90, 91, 92, 93, 94, 95, 96, 97, 107, 108, 109] (by decide +kernel) (by decide +kernel)
set_option maxRecDepth 20000 in
theorem gX5_carries_X5_likely : GoodIn wsX5_carries (wsV RX5 202 RX5 yX5_likely wsX5_likely) := goodIn_app (goodIn_of _ (by decide +kernel)) ggX5_carries_X5_likely
theorem dX5_carries_0 : decode cX5_carries 0 = .ok (.aload_n 0, 1) := by decide +kernel
theorem dX5_carries_1 : decode cX5_carries 1 = .ok (.getfield 21, 3) := by decide +kernel
theorem dX5_carries_4 : decode cX5_carries 4 = .ok (.invokevirtual 140, 3) := by decide +kernel
theorem dX5_carries_7 : decode cX5_carries 7 = .ok (.aload_n 0, 1) := by decide +kernel
theorem dX5_carries_8 : decode cX5_carries 8 = .ok (.iconst 1, 1) := by decide +kernel
theorem dX5_carries_9 : decode cX5_carries 9 = .ok (.invokevirtual 202, 3) := by decide +kernel
theorem dX5_carries_12 : decode cX5_carries 12 = .ok (.lreturn, 1) := by decide +kernel
set_option maxRecDepth 20000 in
theorem ggX5_run_X5_refuse : GoodIn wsX5_run wsX5_refuse := goodIn_r _ [6, 7, 89, 90, 91, 92, 93, 94, 95, 96] (by decide +kernel) (by decide +kernel)
set_option maxRecDepth 20000 in
theorem gX5_run_X5_refuse : GoodIn wsX5_run (wsV RX5 49 RX5 yX5_refuse wsX5_refuse) := goodIn_app (goodIn_of _ (by decide +kernel)) ggX5_run_X5_refuse
set_option maxRecDepth 20000 in
theorem ggX5_run_X5_outside : GoodIn wsX5_run wsX5_outside := goodIn_r _ [10] (by decide +kernel) (by decide +kernel)
set_option maxRecDepth 20000 in
theorem gX5_run_X5_outside : GoodIn wsX5_run (va_wsS RX5 64 yX5_outside wsX5_outside) := goodIn_app (goodIn_of _ (by decide +kernel)) ggX5_run_X5_outside
set_option maxRecDepth 20000 in
theorem ggX5_run_X2_begin : GoodIn wsX5_run wsX2_begin := goodIn_r _ [15, 16, 17, 18, 19, 20, 21, 22, 23, 24, 25, 26, 27, 28, 29, 30, 31, 32, 33, 34, 35, 36, 37, 38, 39, 40, 41, 42, 43, 14, 44, 45, 46, 47, 48, 49, 50, 5, 51, 52, 53, 54, 55, 56, 57, 58, 59, 60, 61, 97, 98, 99, 100, 101, 102, 103, 104, 105, 106, 107, 108, 109, 110, 111, 112, 113, 114, 115, 116, 117, 118, 119] (by decide +kernel) (by decide +kernel)
set_option maxRecDepth 20000 in
theorem gX5_run_X2_begin : GoodIn wsX5_run (wsV RX5 140 RX2 yX2_begin wsX2_begin) := goodIn_app (goodIn_of _ (by decide +kernel)) ggX5_run_X2_begin
set_option maxRecDepth 20000 in
theorem ggX5_run_X5_runYears : GoodIn wsX5_run wsX5_runYears := goodIn_r _ [65, 66, 67, 1, 68, 69, 70, 71, 72, 73, 74, 14, 75, 25, 50, 5, 51, 76, 77, 78, 79, 80, 81, 82, 83, 58, 18, 28, 26, 24, 59, 60, 61, 84, 85, 86, 87, 16, 88, 47, 48, 49, 89, 90, 91, 92, 93, 94, 95, 96, 108, 109, 110, 111, 112, 113, 114, 115, 116, 97, 98, 99, 100, 101, 102, 103, 104, 105, 106, 107, 117, 118, 119] (by decide +kernel) (by decide +kernel)
set_option maxRecDepth 20000 in
theorem gX5_run_X5_runYears : GoodIn wsX5_run (wsV RX5 206 RX5 yX5_runYears wsX5_runYears) := goodIn_app (goodIn_of _ (by decide +kernel)) ggX5_run_X5_runYears
theorem dX5_run_0 : decode cX5_run 0 = .ok (.iload_n 3, 1) := by decide +kernel
theorem dX5_run_1 : decode cX5_run 1 = .ok (.ifCond .lt 8, 3) := by decide +kernel
theorem dX5_run_4 : decode cX5_run 4 = .ok (.iload_n 3, 1) := by decide +kernel
theorem dX5_run_5 : decode cX5_run 5 = .ok (.iconst 2, 1) := by decide +kernel
theorem dX5_run_6 : decode cX5_run 6 = .ok (.if_icmp .le 10, 3) := by decide +kernel
theorem dX5_run_9 : decode cX5_run 9 = .ok (.aload_n 0, 1) := by decide +kernel
theorem dX5_run_10 : decode cX5_run 10 = .ok (.bipush (-2), 2) := by decide +kernel
theorem dX5_run_12 : decode cX5_run 12 = .ok (.invokevirtual 49, 3) := by decide +kernel
theorem dX5_run_15 : decode cX5_run 15 = .ok (.ireturn, 1) := by decide +kernel
theorem dX5_run_16 : decode cX5_run 16 = .ok (.iload_n 1, 1) := by decide +kernel
theorem dX5_run_17 : decode cX5_run 17 = .ok (.iconst 1, 1) := by decide +kernel
theorem dX5_run_18 : decode cX5_run 18 = .ok (.bipush 50, 2) := by decide +kernel
theorem dX5_run_20 : decode cX5_run 20 = .ok (.invokestatic 64, 3) := by decide +kernel
theorem dX5_run_23 : decode cX5_run 23 = .ok (.istore 4, 2) := by decide +kernel
theorem dX5_run_25 : decode cX5_run 25 = .ok (.iload 4, 2) := by decide +kernel
theorem dX5_run_27 : decode cX5_run 27 = .ok (.ifCond .eq 10, 3) := by decide +kernel
theorem dX5_run_30 : decode cX5_run 30 = .ok (.aload_n 0, 1) := by decide +kernel
theorem dX5_run_31 : decode cX5_run 31 = .ok (.iload 4, 2) := by decide +kernel
theorem dX5_run_33 : decode cX5_run 33 = .ok (.invokevirtual 49, 3) := by decide +kernel
theorem dX5_run_36 : decode cX5_run 36 = .ok (.ireturn, 1) := by decide +kernel
theorem dX5_run_37 : decode cX5_run 37 = .ok (.aload_n 0, 1) := by decide +kernel
theorem dX5_run_38 : decode cX5_run 38 = .ok (.getfield 21, 3) := by decide +kernel
theorem dX5_run_41 : decode cX5_run 41 = .ok (.invokevirtual 140, 3) := by decide +kernel
theorem dX5_run_44 : decode cX5_run 44 = .ok (.aload_n 0, 1) := by decide +kernel
theorem dX5_run_45 : decode cX5_run 45 = .ok (.iload_n 1, 1) := by decide +kernel
theorem dX5_run_46 : decode cX5_run 46 = .ok (.iload_n 2, 1) := by decide +kernel
theorem dX5_run_47 : decode cX5_run 47 = .ok (.iload_n 3, 1) := by decide +kernel
theorem dX5_run_48 : decode cX5_run 48 = .ok (.invokevirtual 206, 3) := by decide +kernel
theorem dX5_run_51 : decode cX5_run 51 = .ok (.ireturn, 1) := by decide +kernel
set_option maxRecDepth 20000 in
theorem ggX5_put_X5_refuse : GoodIn wsX5_put wsX5_refuse := goodIn_r _ [7, 8, 9, 10, 11, 12, 13, 14, 15, 16] (by decide +kernel) (by decide +kernel)
set_option maxRecDepth 20000 in
theorem gX5_put_X5_refuse : GoodIn wsX5_put (wsV RX5 49 RX5 yX5_refuse wsX5_refuse) := goodIn_app (goodIn_of _ (by decide +kernel)) ggX5_put_X5_refuse
theorem dX5_put_0 : decode cX5_put 0 = .ok (.iload_n 1, 1) := by decide +kernel
theorem dX5_put_1 : decode cX5_put 1 = .ok (.ifCond .ge 10, 3) := by decide +kernel
theorem dX5_put_4 : decode cX5_put 4 = .ok (.aload_n 0, 1) := by decide +kernel
theorem dX5_put_5 : decode cX5_put 5 = .ok (.bipush (-4), 2) := by decide +kernel
theorem dX5_put_7 : decode cX5_put 7 = .ok (.invokevirtual 49, 3) := by decide +kernel
theorem dX5_put_10 : decode cX5_put 10 = .ok (.ireturn, 1) := by decide +kernel
theorem dX5_put_11 : decode cX5_put 11 = .ok (.iload_n 1, 1) := by decide +kernel
theorem dX5_put_12 : decode cX5_put 12 = .ok (.bipush 8, 2) := by decide +kernel
theorem dX5_put_14 : decode cX5_put 14 = .ok (.if_icmp .ge 12, 3) := by decide +kernel
theorem dX5_put_17 : decode cX5_put 17 = .ok (.aload_n 0, 1) := by decide +kernel
theorem dX5_put_18 : decode cX5_put 18 = .ok (.getfield 42, 3) := by decide +kernel
theorem dX5_put_21 : decode cX5_put 21 = .ok (.bipush 8, 2) := by decide +kernel
theorem dX5_put_23 : decode cX5_put 23 = .ok (.if_icmp .lt 10, 3) := by decide +kernel
theorem dX5_put_26 : decode cX5_put 26 = .ok (.aload_n 0, 1) := by decide +kernel
theorem dX5_put_27 : decode cX5_put 27 = .ok (.bipush (-6), 2) := by decide +kernel
theorem dX5_put_29 : decode cX5_put 29 = .ok (.invokevirtual 49, 3) := by decide +kernel
theorem dX5_put_32 : decode cX5_put 32 = .ok (.ireturn, 1) := by decide +kernel
theorem dX5_put_33 : decode cX5_put 33 = .ok (.aload_n 0, 1) := by decide +kernel
theorem dX5_put_34 : decode cX5_put 34 = .ok (.getfield 32, 3) := by decide +kernel
theorem dX5_put_37 : decode cX5_put 37 = .ok (.aload_n 0, 1) := by decide +kernel
theorem dX5_put_38 : decode cX5_put 38 = .ok (.getfield 42, 3) := by decide +kernel
theorem dX5_put_41 : decode cX5_put 41 = .ok (.iload_n 1, 1) := by decide +kernel
theorem dX5_put_42 : decode cX5_put 42 = .ok (.iastore, 1) := by decide +kernel
theorem dX5_put_43 : decode cX5_put 43 = .ok (.aload_n 0, 1) := by decide +kernel
theorem dX5_put_44 : decode cX5_put 44 = .ok (.dup, 1) := by decide +kernel
theorem dX5_put_45 : decode cX5_put 45 = .ok (.getfield 42, 3) := by decide +kernel
theorem dX5_put_48 : decode cX5_put 48 = .ok (.iconst 1, 1) := by decide +kernel
theorem dX5_put_49 : decode cX5_put 49 = .ok (.iadd, 1) := by decide +kernel
theorem dX5_put_50 : decode cX5_put 50 = .ok (.putfield 42, 3) := by decide +kernel
theorem dX5_put_53 : decode cX5_put 53 = .ok (.aload_n 0, 1) := by decide +kernel
theorem dX5_put_54 : decode cX5_put 54 = .ok (.getfield 42, 3) := by decide +kernel
theorem dX5_put_57 : decode cX5_put 57 = .ok (.ireturn, 1) := by decide +kernel
set_option maxRecDepth 20000 in
theorem ggX5_judge_X5_refuse : GoodIn wsX5_judge wsX5_refuse := goodIn_r _ [7, 8, 82, 83, 84, 85, 86, 87, 88, 89] (by decide +kernel) (by decide +kernel)
set_option maxRecDepth 20000 in
theorem gX5_judge_X5_refuse : GoodIn wsX5_judge (wsV RX5 49 RX5 yX5_refuse wsX5_refuse) := goodIn_app (goodIn_of _ (by decide +kernel)) ggX5_judge_X5_refuse
set_option maxRecDepth 20000 in
theorem ggX5_judge_X2_begin : GoodIn wsX5_judge wsX2_begin := goodIn_r _ [13, 14, 15, 16, 17, 18, 19, 20, 21, 22, 23, 24, 25, 26, 27, 28, 29, 30, 31, 32, 33, 34, 35, 36, 37, 38, 39, 40, 41, 12, 42, 43, 44, 45, 46, 47, 48, 6, 49, 50, 51, 52, 53, 54, 55, 56, 57, 58, 59, 90, 91, 92, 93, 94, 95, 96, 97, 98, 99, 100, 101, 102, 103, 104, 105, 106, 107, 108, 109, 110, 111, 112] (by decide +kernel) (by decide +kernel)
set_option maxRecDepth 20000 in
theorem gX5_judge_X2_begin : GoodIn wsX5_judge (wsV RX5 140 RX2 yX2_begin wsX2_begin) := goodIn_app (goodIn_of _ (by decide +kernel)) ggX5_judge_X2_begin
set_option maxRecDepth 20000 in
theorem ggX5_judge_X5_placeInRow : GoodIn wsX5_judge wsX5_placeInRow := goodIn_r _ [63, 2, 1, 64, 65, 66, 67, 12, 68, 23, 48, 6, 49, 69, 70, 71, 72, 73, 74, 75, 76, 56, 16, 26, 24, 22, 57, 58, 59, 77, 78, 79, 80, 14, 81, 45, 46, 47, 82, 83, 84, 85, 86, 87, 88, 89, 90, 91, 92, 93, 94, 95, 96, 97, 98, 99, 100, 101, 102, 103, 104, 105, 106, 107, 108, 109, 110, 111, 112] (by decide +kernel) (by decide +kernel)
set_option maxRecDepth 20000 in
theorem gX5_judge_X5_placeInRow : GoodIn wsX5_judge (wsV RX5 209 RX5 yX5_placeInRow wsX5_placeInRow) := goodIn_app (goodIn_of _ (by decide +kernel)) ggX5_judge_X5_placeInRow
theorem dX5_judge_0 : decode cX5_judge 0 = .ok (.iload_n 1, 1) := by decide +kernel
theorem dX5_judge_1 : decode cX5_judge 1 = .ok (.ifCond .lt 8, 3) := by decide +kernel
theorem dX5_judge_4 : decode cX5_judge 4 = .ok (.iload_n 1, 1) := by decide +kernel
theorem dX5_judge_5 : decode cX5_judge 5 = .ok (.iconst 2, 1) := by decide +kernel
theorem dX5_judge_6 : decode cX5_judge 6 = .ok (.if_icmp .le 10, 3) := by decide +kernel
theorem dX5_judge_9 : decode cX5_judge 9 = .ok (.aload_n 0, 1) := by decide +kernel
theorem dX5_judge_10 : decode cX5_judge 10 = .ok (.bipush (-2), 2) := by decide +kernel
theorem dX5_judge_12 : decode cX5_judge 12 = .ok (.invokevirtual 49, 3) := by decide +kernel
theorem dX5_judge_15 : decode cX5_judge 15 = .ok (.ireturn, 1) := by decide +kernel
theorem dX5_judge_16 : decode cX5_judge 16 = .ok (.aload_n 0, 1) := by decide +kernel
theorem dX5_judge_17 : decode cX5_judge 17 = .ok (.getfield 21, 3) := by decide +kernel
theorem dX5_judge_20 : decode cX5_judge 20 = .ok (.invokevirtual 140, 3) := by decide +kernel
theorem dX5_judge_23 : decode cX5_judge 23 = .ok (.aload_n 0, 1) := by decide +kernel
theorem dX5_judge_24 : decode cX5_judge 24 = .ok (.iload_n 1, 1) := by decide +kernel
theorem dX5_judge_25 : decode cX5_judge 25 = .ok (.invokevirtual 209, 3) := by decide +kernel
theorem dX5_judge_28 : decode cX5_judge 28 = .ok (.istore_n 2, 1) := by decide +kernel
theorem dX5_judge_29 : decode cX5_judge 29 = .ok (.aload_n 0, 1) := by decide +kernel
theorem dX5_judge_30 : decode cX5_judge 30 = .ok (.iconst 0, 1) := by decide +kernel
theorem dX5_judge_31 : decode cX5_judge 31 = .ok (.putfield 42, 3) := by decide +kernel
theorem dX5_judge_34 : decode cX5_judge 34 = .ok (.iload_n 2, 1) := by decide +kernel
theorem dX5_judge_35 : decode cX5_judge 35 = .ok (.ireturn, 1) := by decide +kernel
set_option maxRecDepth 20000 in
theorem ggX5_image_X1_init : GoodIn wsX5_image wsX1_init := goodIn_r _ [8, 9, 10, 11, 12, 13, 14, 15, 16, 17, 18, 19, 20, 21, 22, 23, 24, 25, 26, 27, 28, 29, 30, 52, 53, 54, 55, 56, 57, 58, 59, 60, 61, 62, 63] (by decide +kernel) (by decide +kernel)
set_option maxRecDepth 20000 in
theorem gX5_image_X1_init_n11 : GoodIn wsX5_image (wsX1_init) := ggX5_image_X1_init
set_option maxRecDepth 20000 in
theorem ggX5_image_X1_copyFrom : GoodIn wsX5_image wsX1_copyFrom := goodIn_r _ [34, 13, 35, 36, 37, 38, 14, 18, 19, 20, 21, 22, 23, 24, 39, 40, 41, 17, 42, 28, 43, 29, 30, 52, 53, 54, 55, 56, 57, 58, 59, 60, 61, 62, 63] (by decide +kernel) (by decide +kernel)
set_option maxRecDepth 20000 in
theorem gX5_image_X1_copyFrom : GoodIn wsX5_image (wsV RX5 212 RX1 yX1_copyFrom wsX1_copyFrom) := goodIn_app (goodIn_of _ (by decide +kernel)) ggX5_image_X1_copyFrom
theorem dX5_image_0 : decode cX5_image 0 = .ok (.aload_n 0, 1) := by decide +kernel
theorem dX5_image_1 : decode cX5_image 1 = .ok (.getfield 46, 3) := by decide +kernel
theorem dX5_image_4 : decode cX5_image 4 = .ok (.ifnonnull 14, 3) := by decide +kernel
theorem dX5_image_7 : decode cX5_image 7 = .ok (.aload_n 0, 1) := by decide +kernel
theorem dX5_image_8 : decode cX5_image 8 = .ok (.new 9, 3) := by decide +kernel
theorem dX5_image_11 : decode cX5_image 11 = .ok (.dup, 1) := by decide +kernel
theorem dX5_image_12 : decode cX5_image 12 = .ok (.invokespecial 11, 3) := by decide +kernel
theorem dX5_image_15 : decode cX5_image 15 = .ok (.putfield 46, 3) := by decide +kernel
theorem dX5_image_18 : decode cX5_image 18 = .ok (.aload_n 0, 1) := by decide +kernel
theorem dX5_image_19 : decode cX5_image 19 = .ok (.getfield 46, 3) := by decide +kernel
theorem dX5_image_22 : decode cX5_image 22 = .ok (.aload_n 0, 1) := by decide +kernel
theorem dX5_image_23 : decode cX5_image 23 = .ok (.getfield 12, 3) := by decide +kernel
theorem dX5_image_26 : decode cX5_image 26 = .ok (.invokevirtual 212, 3) := by decide +kernel
theorem dX5_image_29 : decode cX5_image 29 = .ok (.aload_n 0, 1) := by decide +kernel
theorem dX5_image_30 : decode cX5_image 30 = .ok (.getfield 46, 3) := by decide +kernel
theorem dX5_image_33 : decode cX5_image 33 = .ok (.getfield 79, 3) := by decide +kernel
theorem dX5_image_36 : decode cX5_image 36 = .ok (.ireturn, 1) := by decide +kernel
set_option maxRecDepth 20000 in
theorem ggX5_restore_X5_refuse : GoodIn wsX5_restore wsX5_refuse := goodIn_r _ [8, 9, 37, 38, 39, 40, 41, 42, 43, 44] (by decide +kernel) (by decide +kernel)
set_option maxRecDepth 20000 in
theorem gX5_restore_X5_refuse : GoodIn wsX5_restore (wsV RX5 49 RX5 yX5_refuse wsX5_refuse) := goodIn_app (goodIn_of _ (by decide +kernel)) ggX5_restore_X5_refuse
set_option maxRecDepth 20000 in
theorem ggX5_restore_X1_copyFrom : GoodIn wsX5_restore wsX1_copyFrom := goodIn_r _ [14, 15, 16, 17, 18, 19, 20, 21, 22, 23, 24, 25, 26, 27, 28, 29, 30, 31, 32, 33, 34, 35, 36, 45, 46, 47, 48, 49, 50, 51, 52, 53, 54, 55, 56] (by decide +kernel) (by decide +kernel)
set_option maxRecDepth 20000 in
theorem gX5_restore_X1_copyFrom : GoodIn wsX5_restore (wsV RX5 212 RX1 yX1_copyFrom wsX1_copyFrom) := goodIn_app (goodIn_of _ (by decide +kernel)) ggX5_restore_X1_copyFrom
theorem dX5_restore_0 : decode cX5_restore 0 = .ok (.aload_n 0, 1) := by decide +kernel
theorem dX5_restore_1 : decode cX5_restore 1 = .ok (.getfield 46, 3) := by decide +kernel
theorem dX5_restore_4 : decode cX5_restore 4 = .ok (.ifnonnull 10, 3) := by decide +kernel
theorem dX5_restore_7 : decode cX5_restore 7 = .ok (.aload_n 0, 1) := by decide +kernel
theorem dX5_restore_8 : decode cX5_restore 8 = .ok (.bipush (-3), 2) := by decide +kernel
theorem dX5_restore_10 : decode cX5_restore 10 = .ok (.invokevirtual 49, 3) := by decide +kernel
theorem dX5_restore_13 : decode cX5_restore 13 = .ok (.ireturn, 1) := by decide +kernel
theorem dX5_restore_14 : decode cX5_restore 14 = .ok (.aload_n 0, 1) := by decide +kernel
theorem dX5_restore_15 : decode cX5_restore 15 = .ok (.getfield 12, 3) := by decide +kernel
theorem dX5_restore_18 : decode cX5_restore 18 = .ok (.aload_n 0, 1) := by decide +kernel
theorem dX5_restore_19 : decode cX5_restore 19 = .ok (.getfield 46, 3) := by decide +kernel
theorem dX5_restore_22 : decode cX5_restore 22 = .ok (.invokevirtual 212, 3) := by decide +kernel
theorem dX5_restore_25 : decode cX5_restore 25 = .ok (.aload_n 0, 1) := by decide +kernel
theorem dX5_restore_26 : decode cX5_restore 26 = .ok (.getfield 12, 3) := by decide +kernel
theorem dX5_restore_29 : decode cX5_restore 29 = .ok (.getfield 79, 3) := by decide +kernel
theorem dX5_restore_32 : decode cX5_restore 32 = .ok (.ireturn, 1) := by decide +kernel
set_option maxRecDepth 20000 in
theorem ggX5_count_X1_toldInAll : GoodIn wsX5_count wsX1_toldInAll := goodIn_r _ [17, 18, 19, 20, 21, 22, 23, 24, 25, 26, 35, 36, 37, 38, 39, 40, 41, 42, 43] (by decide +kernel) (by decide +kernel)
set_option maxRecDepth 20000 in
theorem gX5_count_X1_toldInAll : GoodIn wsX5_count (wsV RX5 215 RX1 yX1_toldInAll wsX1_toldInAll) := goodIn_app (goodIn_of _ (by decide +kernel)) ggX5_count_X1_toldInAll
theorem dX5_count_0 : decode cX5_count 0 = .ok (.iload_n 1, 1) := by decide +kernel
theorem dX5_count_1 : decode cX5_count 1 = .ok (.tableswitch 129 0 8 #[51, 59, 67, 75, 86, 97, 108, 116, 124], 51) := by decide +kernel
theorem dX5_count_52 : decode cX5_count 52 = .ok (.aload_n 0, 1) := by decide +kernel
theorem dX5_count_53 : decode cX5_count 53 = .ok (.getfield 12, 3) := by decide +kernel
theorem dX5_count_56 : decode cX5_count 56 = .ok (.getfield 68, 3) := by decide +kernel
theorem dX5_count_59 : decode cX5_count 59 = .ok (.ireturn, 1) := by decide +kernel
theorem dX5_count_60 : decode cX5_count 60 = .ok (.aload_n 0, 1) := by decide +kernel
theorem dX5_count_61 : decode cX5_count 61 = .ok (.getfield 12, 3) := by decide +kernel
theorem dX5_count_64 : decode cX5_count 64 = .ok (.getfield 79, 3) := by decide +kernel
theorem dX5_count_67 : decode cX5_count 67 = .ok (.ireturn, 1) := by decide +kernel
theorem dX5_count_68 : decode cX5_count 68 = .ok (.aload_n 0, 1) := by decide +kernel
theorem dX5_count_69 : decode cX5_count 69 = .ok (.getfield 12, 3) := by decide +kernel
theorem dX5_count_72 : decode cX5_count 72 = .ok (.getfield 101, 3) := by decide +kernel
theorem dX5_count_75 : decode cX5_count 75 = .ok (.ireturn, 1) := by decide +kernel
theorem dX5_count_76 : decode cX5_count 76 = .ok (.aload_n 0, 1) := by decide +kernel
theorem dX5_count_77 : decode cX5_count 77 = .ok (.getfield 12, 3) := by decide +kernel
theorem dX5_count_80 : decode cX5_count 80 = .ok (.getfield 108, 3) := by decide +kernel
theorem dX5_count_83 : decode cX5_count 83 = .ok (.getfield 125, 3) := by decide +kernel
theorem dX5_count_86 : decode cX5_count 86 = .ok (.ireturn, 1) := by decide +kernel
theorem dX5_count_87 : decode cX5_count 87 = .ok (.aload_n 0, 1) := by decide +kernel
theorem dX5_count_88 : decode cX5_count 88 = .ok (.getfield 12, 3) := by decide +kernel
theorem dX5_count_91 : decode cX5_count 91 = .ok (.getfield 128, 3) := by decide +kernel
theorem dX5_count_94 : decode cX5_count 94 = .ok (.getfield 125, 3) := by decide +kernel
theorem dX5_count_97 : decode cX5_count 97 = .ok (.ireturn, 1) := by decide +kernel
theorem dX5_count_98 : decode cX5_count 98 = .ok (.aload_n 0, 1) := by decide +kernel
theorem dX5_count_99 : decode cX5_count 99 = .ok (.getfield 12, 3) := by decide +kernel
theorem dX5_count_102 : decode cX5_count 102 = .ok (.getfield 134, 3) := by decide +kernel
theorem dX5_count_105 : decode cX5_count 105 = .ok (.getfield 125, 3) := by decide +kernel
theorem dX5_count_108 : decode cX5_count 108 = .ok (.ireturn, 1) := by decide +kernel
theorem dX5_count_109 : decode cX5_count 109 = .ok (.aload_n 0, 1) := by decide +kernel
theorem dX5_count_110 : decode cX5_count 110 = .ok (.getfield 12, 3) := by decide +kernel
theorem dX5_count_113 : decode cX5_count 113 = .ok (.invokevirtual 215, 3) := by decide +kernel
theorem dX5_count_116 : decode cX5_count 116 = .ok (.ireturn, 1) := by decide +kernel
theorem dX5_count_117 : decode cX5_count 117 = .ok (.aload_n 0, 1) := by decide +kernel
theorem dX5_count_118 : decode cX5_count 118 = .ok (.getfield 28, 3) := by decide +kernel
theorem dX5_count_121 : decode cX5_count 121 = .ok (.getfield 53, 3) := by decide +kernel
theorem dX5_count_124 : decode cX5_count 124 = .ok (.ireturn, 1) := by decide +kernel
theorem dX5_count_125 : decode cX5_count 125 = .ok (.aload_n 0, 1) := by decide +kernel
theorem dX5_count_126 : decode cX5_count 126 = .ok (.getfield 42, 3) := by decide +kernel
theorem dX5_count_129 : decode cX5_count 129 = .ok (.ireturn, 1) := by decide +kernel
theorem dX5_count_130 : decode cX5_count 130 = .ok (.iload_n 1, 1) := by decide +kernel
theorem dX5_count_131 : decode cX5_count 131 = .ok (.bipush 11, 2) := by decide +kernel
theorem dX5_count_133 : decode cX5_count 133 = .ok (.if_icmp .lt 21, 3) := by decide +kernel
theorem dX5_count_136 : decode cX5_count 136 = .ok (.iload_n 1, 1) := by decide +kernel
theorem dX5_count_137 : decode cX5_count 137 = .ok (.bipush 16, 2) := by decide +kernel
theorem dX5_count_139 : decode cX5_count 139 = .ok (.if_icmp .gt 15, 3) := by decide +kernel
theorem dX5_count_142 : decode cX5_count 142 = .ok (.aload_n 0, 1) := by decide +kernel
theorem dX5_count_143 : decode cX5_count 143 = .ok (.getfield 36, 3) := by decide +kernel
theorem dX5_count_146 : decode cX5_count 146 = .ok (.iload_n 1, 1) := by decide +kernel
theorem dX5_count_147 : decode cX5_count 147 = .ok (.bipush 10, 2) := by decide +kernel
theorem dX5_count_149 : decode cX5_count 149 = .ok (.isub, 1) := by decide +kernel
theorem dX5_count_150 : decode cX5_count 150 = .ok (.iaload, 1) := by decide +kernel
theorem dX5_count_151 : decode cX5_count 151 = .ok (.goto 5, 3) := by decide +kernel
theorem dX5_count_154 : decode cX5_count 154 = .ok (.bipush (-9), 2) := by decide +kernel
theorem dX5_count_156 : decode cX5_count 156 = .ok (.ireturn, 1) := by decide +kernel
theorem dX5_refuse_0 : decode cX5_refuse 0 = .ok (.iload_n 1, 1) := by decide +kernel
theorem dX5_refuse_1 : decode cX5_refuse 1 = .ok (.ineg, 1) := by decide +kernel
theorem dX5_refuse_2 : decode cX5_refuse 2 = .ok (.istore_n 2, 1) := by decide +kernel
theorem dX5_refuse_3 : decode cX5_refuse 3 = .ok (.iload_n 2, 1) := by decide +kernel
theorem dX5_refuse_4 : decode cX5_refuse 4 = .ok (.ifCond .lt 22, 3) := by decide +kernel
theorem dX5_refuse_7 : decode cX5_refuse 7 = .ok (.iload_n 2, 1) := by decide +kernel
theorem dX5_refuse_8 : decode cX5_refuse 8 = .ok (.aload_n 0, 1) := by decide +kernel
theorem dX5_refuse_9 : decode cX5_refuse 9 = .ok (.getfield 36, 3) := by decide +kernel
theorem dX5_refuse_12 : decode cX5_refuse 12 = .ok (.arraylength, 1) := by decide +kernel
theorem dX5_refuse_13 : decode cX5_refuse 13 = .ok (.if_icmp .ge 13, 3) := by decide +kernel
theorem dX5_refuse_16 : decode cX5_refuse 16 = .ok (.aload_n 0, 1) := by decide +kernel
theorem dX5_refuse_17 : decode cX5_refuse 17 = .ok (.getfield 36, 3) := by decide +kernel
theorem dX5_refuse_20 : decode cX5_refuse 20 = .ok (.iload_n 2, 1) := by decide +kernel
theorem dX5_refuse_21 : decode cX5_refuse 21 = .ok (.dup2, 1) := by decide +kernel
theorem dX5_refuse_22 : decode cX5_refuse 22 = .ok (.iaload, 1) := by decide +kernel
theorem dX5_refuse_23 : decode cX5_refuse 23 = .ok (.iconst 1, 1) := by decide +kernel
theorem dX5_refuse_24 : decode cX5_refuse 24 = .ok (.iadd, 1) := by decide +kernel
theorem dX5_refuse_25 : decode cX5_refuse 25 = .ok (.iastore, 1) := by decide +kernel
theorem dX5_refuse_26 : decode cX5_refuse 26 = .ok (.iload_n 1, 1) := by decide +kernel
theorem dX5_refuse_27 : decode cX5_refuse 27 = .ok (.ireturn, 1) := by decide +kernel
theorem dX5_outside_0 : decode cX5_outside 0 = .ok (.iload_n 0, 1) := by decide +kernel
theorem dX5_outside_1 : decode cX5_outside 1 = .ok (.iload_n 1, 1) := by decide +kernel
theorem dX5_outside_2 : decode cX5_outside 2 = .ok (.if_icmp .ge 6, 3) := by decide +kernel
theorem dX5_outside_5 : decode cX5_outside 5 = .ok (.bipush (-4), 2) := by decide +kernel
theorem dX5_outside_7 : decode cX5_outside 7 = .ok (.ireturn, 1) := by decide +kernel
theorem dX5_outside_8 : decode cX5_outside 8 = .ok (.iload_n 0, 1) := by decide +kernel
theorem dX5_outside_9 : decode cX5_outside 9 = .ok (.iload_n 2, 1) := by decide +kernel
theorem dX5_outside_10 : decode cX5_outside 10 = .ok (.if_icmp .le 8, 3) := by decide +kernel
theorem dX5_outside_13 : decode cX5_outside 13 = .ok (.bipush (-6), 2) := by decide +kernel
theorem dX5_outside_15 : decode cX5_outside 15 = .ok (.goto 4, 3) := by decide +kernel
theorem dX5_outside_18 : decode cX5_outside 18 = .ok (.iconst 0, 1) := by decide +kernel
theorem dX5_outside_19 : decode cX5_outside 19 = .ok (.ireturn, 1) := by decide +kernel
theorem dX5_outsideHands_0 : decode cX5_outsideHands 0 = .ok (.iload_n 0, 1) := by decide +kernel
theorem dX5_outsideHands_1 : decode cX5_outsideHands 1 = .ok (.ifCond .lt 7, 3) := by decide +kernel
theorem dX5_outsideHands_4 : decode cX5_outsideHands 4 = .ok (.iload_n 1, 1) := by decide +kernel
theorem dX5_outsideHands_5 : decode cX5_outsideHands 5 = .ok (.ifCond .ge 6, 3) := by decide +kernel
theorem dX5_outsideHands_8 : decode cX5_outsideHands 8 = .ok (.bipush (-4), 2) := by decide +kernel
theorem dX5_outsideHands_10 : decode cX5_outsideHands 10 = .ok (.ireturn, 1) := by decide +kernel
theorem dX5_outsideHands_11 : decode cX5_outsideHands 11 = .ok (.iload_n 0, 1) := by decide +kernel
theorem dX5_outsideHands_12 : decode cX5_outsideHands 12 = .ok (.bipush 8, 2) := by decide +kernel
theorem dX5_outsideHands_14 : decode cX5_outsideHands 14 = .ok (.if_icmp .gt 9, 3) := by decide +kernel
theorem dX5_outsideHands_17 : decode cX5_outsideHands 17 = .ok (.iload_n 1, 1) := by decide +kernel
theorem dX5_outsideHands_18 : decode cX5_outsideHands 18 = .ok (.bipush 8, 2) := by decide +kernel
theorem dX5_outsideHands_20 : decode cX5_outsideHands 20 = .ok (.if_icmp .le 8, 3) := by decide +kernel
theorem dX5_outsideHands_23 : decode cX5_outsideHands 23 = .ok (.bipush (-6), 2) := by decide +kernel
theorem dX5_outsideHands_25 : decode cX5_outsideHands 25 = .ok (.goto 4, 3) := by decide +kernel
theorem dX5_outsideHands_28 : decode cX5_outsideHands 28 = .ok (.iconst 0, 1) := by decide +kernel
theorem dX5_outsideHands_29 : decode cX5_outsideHands 29 = .ok (.ireturn, 1) := by decide +kernel
theorem dX5_contains_0 : decode cX5_contains 0 = .ok (.iload_n 0, 1) := by decide +kernel
theorem dX5_contains_1 : decode cX5_contains 1 = .ok (.iload_n 1, 1) := by decide +kernel
theorem dX5_contains_2 : decode cX5_contains 2 = .ok (.ishr, 1) := by decide +kernel
theorem dX5_contains_3 : decode cX5_contains 3 = .ok (.iconst 1, 1) := by decide +kernel
theorem dX5_contains_4 : decode cX5_contains 4 = .ok (.iand, 1) := by decide +kernel
theorem dX5_contains_5 : decode cX5_contains 5 = .ok (.ifCond .eq 7, 3) := by decide +kernel
theorem dX5_contains_8 : decode cX5_contains 8 = .ok (.iconst 1, 1) := by decide +kernel
theorem dX5_contains_9 : decode cX5_contains 9 = .ok (.goto 4, 3) := by decide +kernel
theorem dX5_contains_12 : decode cX5_contains 12 = .ok (.iconst 0, 1) := by decide +kernel
theorem dX5_contains_13 : decode cX5_contains 13 = .ok (.ireturn, 1) := by decide +kernel
theorem dX5_with_0 : decode cX5_with 0 = .ok (.iload_n 2, 1) := by decide +kernel
theorem dX5_with_1 : decode cX5_with 1 = .ok (.ifCond .eq 11, 3) := by decide +kernel
theorem dX5_with_4 : decode cX5_with 4 = .ok (.iload_n 0, 1) := by decide +kernel
theorem dX5_with_5 : decode cX5_with 5 = .ok (.iconst 1, 1) := by decide +kernel
theorem dX5_with_6 : decode cX5_with 6 = .ok (.iload_n 1, 1) := by decide +kernel
theorem dX5_with_7 : decode cX5_with 7 = .ok (.ishl, 1) := by decide +kernel
theorem dX5_with_8 : decode cX5_with 8 = .ok (.ior, 1) := by decide +kernel
theorem dX5_with_9 : decode cX5_with 9 = .ok (.goto 10, 3) := by decide +kernel
theorem dX5_with_12 : decode cX5_with 12 = .ok (.iload_n 0, 1) := by decide +kernel
theorem dX5_with_13 : decode cX5_with 13 = .ok (.iconst 1, 1) := by decide +kernel
theorem dX5_with_14 : decode cX5_with 14 = .ok (.iload_n 1, 1) := by decide +kernel
theorem dX5_with_15 : decode cX5_with 15 = .ok (.ishl, 1) := by decide +kernel
theorem dX5_with_16 : decode cX5_with 16 = .ok (.iconst (-1), 1) := by decide +kernel
theorem dX5_with_17 : decode cX5_with 17 = .ok (.ixor, 1) := by decide +kernel
theorem dX5_with_18 : decode cX5_with 18 = .ok (.iand, 1) := by decide +kernel
theorem dX5_with_19 : decode cX5_with 19 = .ok (.ireturn, 1) := by decide +kernel
set_option maxRecDepth 20000 in
theorem ggX5_fewestWhoGo_J6_bitCount_0f7a4 : GoodIn wsX5_fewestWhoGo wsJ6_bitCount_0f7a4 := goodIn_r _ [7, 8, 9, 10] (by decide +kernel) (by decide +kernel)
set_option maxRecDepth 20000 in
theorem gX5_fewestWhoGo_J6_bitCount_0f7a4 : GoodIn wsX5_fewestWhoGo (va_wsS RX5 218 yJ6_bitCount_0f7a4 wsJ6_bitCount_0f7a4) := goodIn_app (goodIn_of _ (by decide +kernel)) ggX5_fewestWhoGo_J6_bitCount_0f7a4
set_option maxRecDepth 20000 in
theorem ggX5_fewestWhoGo_X2_areHere : GoodIn wsX5_fewestWhoGo wsX2_areHere := goodIn_r _ [15, 16, 55, 56, 57, 58, 59, 60, 61, 62, 63, 64, 65] (by decide +kernel) (by decide +kernel)
set_option maxRecDepth 20000 in
theorem gX5_fewestWhoGo_X2_areHere : GoodIn wsX5_fewestWhoGo (wsV RX5 223 RX2 yX2_areHere wsX2_areHere) := goodIn_app (goodIn_of _ (by decide +kernel)) ggX5_fewestWhoGo_X2_areHere
set_option maxRecDepth 20000 in
theorem ggX5_fewestWhoGo_X2_happens : GoodIn wsX5_fewestWhoGo wsX2_happens := goodIn_r _ [20, 21, 16, 22, 23, 24, 25, 26, 27, 14, 28, 29, 30, 31, 32, 33, 34, 35, 36, 37, 55, 56, 57, 58, 59, 60, 61, 62, 63, 64, 65, 46, 47, 48, 49, 50, 51, 52, 53, 54, 66, 67, 68] (by decide +kernel) (by decide +kernel)
set_option maxRecDepth 20000 in
theorem gX5_fewestWhoGo_X2_happens : GoodIn wsX5_fewestWhoGo (wsV RX5 173 RX2 yX2_happens wsX2_happens) := goodIn_app (goodIn_of _ (by decide +kernel)) ggX5_fewestWhoGo_X2_happens
theorem dX5_fewestWhoGo_0 : decode cX5_fewestWhoGo 0 = .ok (.bipush (-9), 2) := by decide +kernel
theorem dX5_fewestWhoGo_2 : decode cX5_fewestWhoGo 2 = .ok (.istore_n 2, 1) := by decide +kernel
theorem dX5_fewestWhoGo_3 : decode cX5_fewestWhoGo 3 = .ok (.bipush 99, 2) := by decide +kernel
theorem dX5_fewestWhoGo_5 : decode cX5_fewestWhoGo 5 = .ok (.istore_n 3, 1) := by decide +kernel
theorem dX5_fewestWhoGo_6 : decode cX5_fewestWhoGo 6 = .ok (.iconst 0, 1) := by decide +kernel
theorem dX5_fewestWhoGo_7 : decode cX5_fewestWhoGo 7 = .ok (.istore 4, 2) := by decide +kernel
theorem dX5_fewestWhoGo_9 : decode cX5_fewestWhoGo 9 = .ok (.iload 4, 2) := by decide +kernel
theorem dX5_fewestWhoGo_11 : decode cX5_fewestWhoGo 11 = .ok (.iconst 1, 1) := by decide +kernel
theorem dX5_fewestWhoGo_12 : decode cX5_fewestWhoGo 12 = .ok (.aload_n 0, 1) := by decide +kernel
theorem dX5_fewestWhoGo_13 : decode cX5_fewestWhoGo 13 = .ok (.getfield 12, 3) := by decide +kernel
theorem dX5_fewestWhoGo_16 : decode cX5_fewestWhoGo 16 = .ok (.getfield 79, 3) := by decide +kernel
theorem dX5_fewestWhoGo_19 : decode cX5_fewestWhoGo 19 = .ok (.ishl, 1) := by decide +kernel
theorem dX5_fewestWhoGo_20 : decode cX5_fewestWhoGo 20 = .ok (.if_icmp .ge 53, 3) := by decide +kernel
theorem dX5_fewestWhoGo_23 : decode cX5_fewestWhoGo 23 = .ok (.iload 4, 2) := by decide +kernel
theorem dX5_fewestWhoGo_25 : decode cX5_fewestWhoGo 25 = .ok (.invokestatic 218, 3) := by decide +kernel
theorem dX5_fewestWhoGo_28 : decode cX5_fewestWhoGo 28 = .ok (.istore 5, 2) := by decide +kernel
theorem dX5_fewestWhoGo_30 : decode cX5_fewestWhoGo 30 = .ok (.iload 5, 2) := by decide +kernel
theorem dX5_fewestWhoGo_32 : decode cX5_fewestWhoGo 32 = .ok (.iload_n 3, 1) := by decide +kernel
theorem dX5_fewestWhoGo_33 : decode cX5_fewestWhoGo 33 = .ok (.if_icmp .ge 34, 3) := by decide +kernel
theorem dX5_fewestWhoGo_36 : decode cX5_fewestWhoGo 36 = .ok (.aload_n 0, 1) := by decide +kernel
theorem dX5_fewestWhoGo_37 : decode cX5_fewestWhoGo 37 = .ok (.getfield 21, 3) := by decide +kernel
theorem dX5_fewestWhoGo_40 : decode cX5_fewestWhoGo 40 = .ok (.iload 4, 2) := by decide +kernel
theorem dX5_fewestWhoGo_42 : decode cX5_fewestWhoGo 42 = .ok (.invokevirtual 223, 3) := by decide +kernel
theorem dX5_fewestWhoGo_45 : decode cX5_fewestWhoGo 45 = .ok (.ifCond .eq 22, 3) := by decide +kernel
theorem dX5_fewestWhoGo_48 : decode cX5_fewestWhoGo 48 = .ok (.aload_n 0, 1) := by decide +kernel
theorem dX5_fewestWhoGo_49 : decode cX5_fewestWhoGo 49 = .ok (.getfield 21, 3) := by decide +kernel
theorem dX5_fewestWhoGo_52 : decode cX5_fewestWhoGo 52 = .ok (.iload_n 1, 1) := by decide +kernel
theorem dX5_fewestWhoGo_53 : decode cX5_fewestWhoGo 53 = .ok (.iload 4, 2) := by decide +kernel
theorem dX5_fewestWhoGo_55 : decode cX5_fewestWhoGo 55 = .ok (.invokevirtual 173, 3) := by decide +kernel
theorem dX5_fewestWhoGo_58 : decode cX5_fewestWhoGo 58 = .ok (.ifCond .eq 9, 3) := by decide +kernel
theorem dX5_fewestWhoGo_61 : decode cX5_fewestWhoGo 61 = .ok (.iload 4, 2) := by decide +kernel
theorem dX5_fewestWhoGo_63 : decode cX5_fewestWhoGo 63 = .ok (.istore_n 2, 1) := by decide +kernel
theorem dX5_fewestWhoGo_64 : decode cX5_fewestWhoGo 64 = .ok (.iload 5, 2) := by decide +kernel
theorem dX5_fewestWhoGo_66 : decode cX5_fewestWhoGo 66 = .ok (.istore_n 3, 1) := by decide +kernel
theorem dX5_fewestWhoGo_67 : decode cX5_fewestWhoGo 67 = .ok (.iinc 4 1, 3) := by decide +kernel
theorem dX5_fewestWhoGo_70 : decode cX5_fewestWhoGo 70 = .ok (.goto (-61), 3) := by decide +kernel
theorem dX5_fewestWhoGo_73 : decode cX5_fewestWhoGo 73 = .ok (.iload_n 2, 1) := by decide +kernel
theorem dX5_fewestWhoGo_74 : decode cX5_fewestWhoGo 74 = .ok (.ireturn, 1) := by decide +kernel
set_option maxRecDepth 20000 in
theorem ggX5_fewestToTell_X2_isSafe : GoodIn wsX5_fewestToTell wsX2_isSafe := goodIn_r _ [10, 11, 12, 13, 14, 9, 15, 16, 17, 18, 19, 20, 21, 22, 23, 24, 25, 26, 27, 28, 29, 30, 31, 32, 33, 34, 35, 36, 37, 38, 39, 40, 41, 42, 43, 44, 45, 46, 76, 77, 78, 79, 80, 81, 82, 83, 84, 85, 86, 87, 88, 89, 67, 68, 69, 70, 71, 72, 73, 74, 75, 90, 91, 92] (by decide +kernel) (by decide +kernel)
set_option maxRecDepth 20000 in
theorem gX5_fewestToTell_X2_isSafe : GoodIn wsX5_fewestToTell (wsV RX5 164 RX2 yX2_isSafe wsX2_isSafe) := goodIn_app (goodIn_of _ (by decide +kernel)) ggX5_fewestToTell_X2_isSafe
set_option maxRecDepth 20000 in
theorem ggX5_fewestToTell_J6_bitCount_0f7a4 : GoodIn wsX5_fewestToTell wsJ6_bitCount_0f7a4 := goodIn_r _ [50, 51, 52, 53] (by decide +kernel) (by decide +kernel)
set_option maxRecDepth 20000 in
theorem gX5_fewestToTell_J6_bitCount_0f7a4 : GoodIn wsX5_fewestToTell (va_wsS RX5 218 yJ6_bitCount_0f7a4 wsJ6_bitCount_0f7a4) := goodIn_app (goodIn_of _ (by decide +kernel)) ggX5_fewestToTell_J6_bitCount_0f7a4
set_option maxRecDepth 20000 in
theorem ggX5_fewestToTell_X2_holds : GoodIn wsX5_fewestToTell wsX2_holds := goodIn_r _ [57, 58, 11, 12, 13, 14, 9, 15, 16, 17, 18, 19, 20, 21, 22, 23, 24, 25, 26, 27, 28, 29, 30, 31, 32, 33, 34, 35, 36, 37, 38, 39, 40, 41, 42, 43, 44, 45, 46, 76, 77, 78, 79, 80, 81, 82, 83, 84, 85, 86, 87, 88, 89, 67, 68, 69, 70, 71, 72, 73, 74, 75, 90, 91, 92] (by decide +kernel) (by decide +kernel)
set_option maxRecDepth 20000 in
theorem gX5_fewestToTell_X2_holds : GoodIn wsX5_fewestToTell (wsV RX5 227 RX2 yX2_holds wsX2_holds) := goodIn_app (goodIn_of _ (by decide +kernel)) ggX5_fewestToTell_X2_holds
theorem dX5_fewestToTell_0 : decode cX5_fewestToTell 0 = .ok (.aload_n 0, 1) := by decide +kernel
theorem dX5_fewestToTell_1 : decode cX5_fewestToTell 1 = .ok (.getfield 21, 3) := by decide +kernel
theorem dX5_fewestToTell_4 : decode cX5_fewestToTell 4 = .ok (.invokevirtual 164, 3) := by decide +kernel
theorem dX5_fewestToTell_7 : decode cX5_fewestToTell 7 = .ok (.ifCond .ne 6, 3) := by decide +kernel
theorem dX5_fewestToTell_10 : decode cX5_fewestToTell 10 = .ok (.bipush (-9), 2) := by decide +kernel
theorem dX5_fewestToTell_12 : decode cX5_fewestToTell 12 = .ok (.ireturn, 1) := by decide +kernel
theorem dX5_fewestToTell_13 : decode cX5_fewestToTell 13 = .ok (.aload_n 0, 1) := by decide +kernel
theorem dX5_fewestToTell_14 : decode cX5_fewestToTell 14 = .ok (.getfield 12, 3) := by decide +kernel
theorem dX5_fewestToTell_17 : decode cX5_fewestToTell 17 = .ok (.getfield 91, 3) := by decide +kernel
theorem dX5_fewestToTell_20 : decode cX5_fewestToTell 20 = .ok (.iload_n 1, 1) := by decide +kernel
theorem dX5_fewestToTell_21 : decode cX5_fewestToTell 21 = .ok (.iaload, 1) := by decide +kernel
theorem dX5_fewestToTell_22 : decode cX5_fewestToTell 22 = .ok (.istore_n 2, 1) := by decide +kernel
theorem dX5_fewestToTell_23 : decode cX5_fewestToTell 23 = .ok (.bipush (-9), 2) := by decide +kernel
theorem dX5_fewestToTell_25 : decode cX5_fewestToTell 25 = .ok (.istore_n 3, 1) := by decide +kernel
theorem dX5_fewestToTell_26 : decode cX5_fewestToTell 26 = .ok (.bipush 99, 2) := by decide +kernel
theorem dX5_fewestToTell_28 : decode cX5_fewestToTell 28 = .ok (.istore 4, 2) := by decide +kernel
theorem dX5_fewestToTell_30 : decode cX5_fewestToTell 30 = .ok (.iconst 0, 1) := by decide +kernel
theorem dX5_fewestToTell_31 : decode cX5_fewestToTell 31 = .ok (.istore 5, 2) := by decide +kernel
theorem dX5_fewestToTell_33 : decode cX5_fewestToTell 33 = .ok (.iload 5, 2) := by decide +kernel
theorem dX5_fewestToTell_35 : decode cX5_fewestToTell 35 = .ok (.iconst 1, 1) := by decide +kernel
theorem dX5_fewestToTell_36 : decode cX5_fewestToTell 36 = .ok (.aload_n 0, 1) := by decide +kernel
theorem dX5_fewestToTell_37 : decode cX5_fewestToTell 37 = .ok (.getfield 12, 3) := by decide +kernel
theorem dX5_fewestToTell_40 : decode cX5_fewestToTell 40 = .ok (.getfield 68, 3) := by decide +kernel
theorem dX5_fewestToTell_43 : decode cX5_fewestToTell 43 = .ok (.ishl, 1) := by decide +kernel
theorem dX5_fewestToTell_44 : decode cX5_fewestToTell 44 = .ok (.if_icmp .ge 60, 3) := by decide +kernel
theorem dX5_fewestToTell_47 : decode cX5_fewestToTell 47 = .ok (.iload 5, 2) := by decide +kernel
theorem dX5_fewestToTell_49 : decode cX5_fewestToTell 49 = .ok (.invokestatic 218, 3) := by decide +kernel
theorem dX5_fewestToTell_52 : decode cX5_fewestToTell 52 = .ok (.istore 6, 2) := by decide +kernel
theorem dX5_fewestToTell_54 : decode cX5_fewestToTell 54 = .ok (.iload 6, 2) := by decide +kernel
theorem dX5_fewestToTell_56 : decode cX5_fewestToTell 56 = .ok (.iload 4, 2) := by decide +kernel
theorem dX5_fewestToTell_58 : decode cX5_fewestToTell 58 = .ok (.if_icmp .ge 40, 3) := by decide +kernel
theorem dX5_fewestToTell_61 : decode cX5_fewestToTell 61 = .ok (.iload 5, 2) := by decide +kernel
theorem dX5_fewestToTell_63 : decode cX5_fewestToTell 63 = .ok (.iload_n 2, 1) := by decide +kernel
theorem dX5_fewestToTell_64 : decode cX5_fewestToTell 64 = .ok (.iand, 1) := by decide +kernel
theorem dX5_fewestToTell_65 : decode cX5_fewestToTell 65 = .ok (.ifCond .ne 33, 3) := by decide +kernel
theorem dX5_fewestToTell_68 : decode cX5_fewestToTell 68 = .ok (.aload_n 0, 1) := by decide +kernel
theorem dX5_fewestToTell_69 : decode cX5_fewestToTell 69 = .ok (.getfield 21, 3) := by decide +kernel
theorem dX5_fewestToTell_72 : decode cX5_fewestToTell 72 = .ok (.getfield 226, 3) := by decide +kernel
theorem dX5_fewestToTell_75 : decode cX5_fewestToTell 75 = .ok (.iload_n 1, 1) := by decide +kernel
theorem dX5_fewestToTell_76 : decode cX5_fewestToTell 76 = .ok (.iload_n 2, 1) := by decide +kernel
theorem dX5_fewestToTell_77 : decode cX5_fewestToTell 77 = .ok (.iload 5, 2) := by decide +kernel
theorem dX5_fewestToTell_79 : decode cX5_fewestToTell 79 = .ok (.ior, 1) := by decide +kernel
theorem dX5_fewestToTell_80 : decode cX5_fewestToTell 80 = .ok (.iastore, 1) := by decide +kernel
theorem dX5_fewestToTell_81 : decode cX5_fewestToTell 81 = .ok (.aload_n 0, 1) := by decide +kernel
theorem dX5_fewestToTell_82 : decode cX5_fewestToTell 82 = .ok (.getfield 21, 3) := by decide +kernel
theorem dX5_fewestToTell_85 : decode cX5_fewestToTell 85 = .ok (.invokevirtual 227, 3) := by decide +kernel
theorem dX5_fewestToTell_88 : decode cX5_fewestToTell 88 = .ok (.ifCond .eq 10, 3) := by decide +kernel
theorem dX5_fewestToTell_91 : decode cX5_fewestToTell 91 = .ok (.iload 5, 2) := by decide +kernel
theorem dX5_fewestToTell_93 : decode cX5_fewestToTell 93 = .ok (.istore_n 3, 1) := by decide +kernel
theorem dX5_fewestToTell_94 : decode cX5_fewestToTell 94 = .ok (.iload 6, 2) := by decide +kernel
theorem dX5_fewestToTell_96 : decode cX5_fewestToTell 96 = .ok (.istore 4, 2) := by decide +kernel
theorem dX5_fewestToTell_98 : decode cX5_fewestToTell 98 = .ok (.iinc 5 1, 3) := by decide +kernel
theorem dX5_fewestToTell_101 : decode cX5_fewestToTell 101 = .ok (.goto (-68), 3) := by decide +kernel
theorem dX5_fewestToTell_104 : decode cX5_fewestToTell 104 = .ok (.iload_n 3, 1) := by decide +kernel
theorem dX5_fewestToTell_105 : decode cX5_fewestToTell 105 = .ok (.ireturn, 1) := by decide +kernel
set_option maxRecDepth 20000 in
theorem ggX5_fewestTellings_X2_isSafe : GoodIn wsX5_fewestTellings wsX2_isSafe := goodIn_r _ [7, 8, 9, 10, 11, 6, 12, 13, 14, 15, 16, 17, 18, 19, 20, 21, 22, 23, 24, 25, 26, 27, 28, 29, 30, 31, 32, 33, 34, 35, 36, 37, 38, 39, 40, 41, 42, 43, 88, 89, 90, 91, 92, 93, 94, 95, 96, 97, 98, 99, 100, 101, 102, 103, 104, 105, 106, 107, 108, 109, 110, 111, 112, 113] (by decide +kernel) (by decide +kernel)
set_option maxRecDepth 20000 in
theorem gX5_fewestTellings_X2_isSafe : GoodIn wsX5_fewestTellings (wsV RX5 164 RX2 yX2_isSafe wsX2_isSafe) := goodIn_app (goodIn_of _ (by decide +kernel)) ggX5_fewestTellings_X2_isSafe
set_option maxRecDepth 20000 in
theorem ggX5_fewestTellings_X2_isKept : GoodIn wsX5_fewestTellings wsX2_isKept := goodIn_r _ [47, 48, 9, 10, 11, 6, 12, 13, 14, 15, 16, 17, 18, 19, 20, 21, 22, 23, 24, 25, 26, 27, 28, 29, 30, 31, 32, 33, 34, 35, 36, 37, 38, 39, 40, 41, 42, 43, 88, 89, 90, 91, 92, 93, 94, 95, 96, 97, 98, 99, 100, 101, 102, 103, 104, 105, 106, 107, 108, 109, 110, 111, 112, 113] (by decide +kernel) (by decide +kernel)
set_option maxRecDepth 20000 in
theorem gX5_fewestTellings_X2_isKept : GoodIn wsX5_fewestTellings (wsV RX5 158 RX2 yX2_isKept wsX2_isKept) := goodIn_app (goodIn_of _ (by decide +kernel)) ggX5_fewestTellings_X2_isKept
set_option maxRecDepth 20000 in
theorem ggX5_fewestTellings_X5_findTellingFrom : GoodIn wsX5_fewestTellings wsX5_findTellingFrom := goodIn_r _ [53, 1, 2, 54, 55, 56, 6, 57, 33, 22, 58, 59, 60, 61, 21, 62, 52, 63, 64, 65, 66, 67, 68, 69, 70, 71, 72, 73, 74, 75, 76, 77, 78, 79, 48, 8, 9, 10, 11, 12, 13, 14, 15, 16, 17, 18, 19, 20, 23, 24, 25, 26, 27, 28, 29, 30, 31, 32, 34, 35, 36, 37, 38, 39, 40, 41, 42, 43, 80, 81, 82, 83, 84, 85, 86, 87, 88, 89, 90, 91, 92, 93, 94, 95, 96, 97, 98, 102, 103, 104, 105, 106, 107, 108, 109, 110, 99, 100, 101, 111, 112, 113] (by decide +kernel) (by decide +kernel)
set_option maxRecDepth 20000 in
theorem gX5_fewestTellings_X5_findTellingFrom : GoodIn wsX5_fewestTellings (wsV RX5 230 RX5 yX5_findTellingFrom wsX5_findTellingFrom) := goodIn_app (goodIn_of _ (by decide +kernel)) ggX5_fewestTellings_X5_findTellingFrom
set_option maxRecDepth 20000 in
theorem ggX5_fewestTellings_X2_canTell : GoodIn wsX5_fewestTellings wsX2_canTell := goodIn_r _ [57, 33, 22, 58, 59, 60, 6, 61, 21, 62, 52, 63, 64, 65, 66, 67, 68, 69, 88, 89, 90, 91, 92, 93, 94, 95, 96, 97, 98, 102, 103, 104, 105, 106, 107, 108, 109, 110] (by decide +kernel) (by decide +kernel)
set_option maxRecDepth 20000 in
theorem gX5_fewestTellings_X2_canTell : GoodIn wsX5_fewestTellings (wsV RX5 233 RX2 yX2_canTell wsX2_canTell) := goodIn_app (goodIn_of _ (by decide +kernel)) ggX5_fewestTellings_X2_canTell
set_option maxRecDepth 20000 in
theorem ggX5_fewestTellings_X2_setTelling : GoodIn wsX5_fewestTellings wsX2_setTelling := goodIn_r _ [73, 22, 74, 52, 75, 88, 89, 90, 91, 92, 93, 94, 95, 96, 97, 98] (by decide +kernel) (by decide +kernel)
set_option maxRecDepth 20000 in
theorem gX5_fewestTellings_X2_setTelling : GoodIn wsX5_fewestTellings (wsV RX5 236 RX2 yX2_setTelling wsX2_setTelling) := goodIn_app (goodIn_of _ (by decide +kernel)) ggX5_fewestTellings_X2_setTelling
theorem dX5_fewestTellings_0 : decode cX5_fewestTellings 0 = .ok (.aload_n 0, 1) := by decide +kernel
theorem dX5_fewestTellings_1 : decode cX5_fewestTellings 1 = .ok (.getfield 21, 3) := by decide +kernel
theorem dX5_fewestTellings_4 : decode cX5_fewestTellings 4 = .ok (.invokevirtual 164, 3) := by decide +kernel
theorem dX5_fewestTellings_7 : decode cX5_fewestTellings 7 = .ok (.ifCond .ne 6, 3) := by decide +kernel
theorem dX5_fewestTellings_10 : decode cX5_fewestTellings 10 = .ok (.bipush (-9), 2) := by decide +kernel
theorem dX5_fewestTellings_12 : decode cX5_fewestTellings 12 = .ok (.ireturn, 1) := by decide +kernel
theorem dX5_fewestTellings_13 : decode cX5_fewestTellings 13 = .ok (.aload_n 0, 1) := by decide +kernel
theorem dX5_fewestTellings_14 : decode cX5_fewestTellings 14 = .ok (.getfield 21, 3) := by decide +kernel
theorem dX5_fewestTellings_17 : decode cX5_fewestTellings 17 = .ok (.invokevirtual 158, 3) := by decide +kernel
theorem dX5_fewestTellings_20 : decode cX5_fewestTellings 20 = .ok (.ifCond .eq 5, 3) := by decide +kernel
theorem dX5_fewestTellings_23 : decode cX5_fewestTellings 23 = .ok (.iconst 0, 1) := by decide +kernel
theorem dX5_fewestTellings_24 : decode cX5_fewestTellings 24 = .ok (.ireturn, 1) := by decide +kernel
theorem dX5_fewestTellings_25 : decode cX5_fewestTellings 25 = .ok (.aload_n 0, 1) := by decide +kernel
theorem dX5_fewestTellings_26 : decode cX5_fewestTellings 26 = .ok (.iconst 0, 1) := by decide +kernel
theorem dX5_fewestTellings_27 : decode cX5_fewestTellings 27 = .ok (.iconst 0, 1) := by decide +kernel
theorem dX5_fewestTellings_28 : decode cX5_fewestTellings 28 = .ok (.invokevirtual 230, 3) := by decide +kernel
theorem dX5_fewestTellings_31 : decode cX5_fewestTellings 31 = .ok (.ifCond .eq 5, 3) := by decide +kernel
theorem dX5_fewestTellings_34 : decode cX5_fewestTellings 34 = .ok (.iconst 1, 1) := by decide +kernel
theorem dX5_fewestTellings_35 : decode cX5_fewestTellings 35 = .ok (.ireturn, 1) := by decide +kernel
theorem dX5_fewestTellings_36 : decode cX5_fewestTellings 36 = .ok (.iconst 0, 1) := by decide +kernel
theorem dX5_fewestTellings_37 : decode cX5_fewestTellings 37 = .ok (.istore_n 1, 1) := by decide +kernel
theorem dX5_fewestTellings_38 : decode cX5_fewestTellings 38 = .ok (.iload_n 1, 1) := by decide +kernel
theorem dX5_fewestTellings_39 : decode cX5_fewestTellings 39 = .ok (.bipush 80, 2) := by decide +kernel
theorem dX5_fewestTellings_41 : decode cX5_fewestTellings 41 = .ok (.if_icmp .ge 78, 3) := by decide +kernel
theorem dX5_fewestTellings_44 : decode cX5_fewestTellings 44 = .ok (.aload_n 0, 1) := by decide +kernel
theorem dX5_fewestTellings_45 : decode cX5_fewestTellings 45 = .ok (.getfield 21, 3) := by decide +kernel
theorem dX5_fewestTellings_48 : decode cX5_fewestTellings 48 = .ok (.iload_n 1, 1) := by decide +kernel
theorem dX5_fewestTellings_49 : decode cX5_fewestTellings 49 = .ok (.invokevirtual 233, 3) := by decide +kernel
theorem dX5_fewestTellings_52 : decode cX5_fewestTellings 52 = .ok (.ifCond .eq 61, 3) := by decide +kernel
theorem dX5_fewestTellings_55 : decode cX5_fewestTellings 55 = .ok (.aload_n 0, 1) := by decide +kernel
theorem dX5_fewestTellings_56 : decode cX5_fewestTellings 56 = .ok (.getfield 21, 3) := by decide +kernel
theorem dX5_fewestTellings_59 : decode cX5_fewestTellings 59 = .ok (.iload_n 1, 1) := by decide +kernel
theorem dX5_fewestTellings_60 : decode cX5_fewestTellings 60 = .ok (.iconst 1, 1) := by decide +kernel
theorem dX5_fewestTellings_61 : decode cX5_fewestTellings 61 = .ok (.invokevirtual 236, 3) := by decide +kernel
theorem dX5_fewestTellings_64 : decode cX5_fewestTellings 64 = .ok (.aload_n 0, 1) := by decide +kernel
theorem dX5_fewestTellings_65 : decode cX5_fewestTellings 65 = .ok (.getfield 21, 3) := by decide +kernel
theorem dX5_fewestTellings_68 : decode cX5_fewestTellings 68 = .ok (.invokevirtual 164, 3) := by decide +kernel
theorem dX5_fewestTellings_71 : decode cX5_fewestTellings 71 = .ok (.ifCond .eq 18, 3) := by decide +kernel
theorem dX5_fewestTellings_74 : decode cX5_fewestTellings 74 = .ok (.aload_n 0, 1) := by decide +kernel
theorem dX5_fewestTellings_75 : decode cX5_fewestTellings 75 = .ok (.iload_n 1, 1) := by decide +kernel
theorem dX5_fewestTellings_76 : decode cX5_fewestTellings 76 = .ok (.iconst 1, 1) := by decide +kernel
theorem dX5_fewestTellings_77 : decode cX5_fewestTellings 77 = .ok (.iadd, 1) := by decide +kernel
theorem dX5_fewestTellings_78 : decode cX5_fewestTellings 78 = .ok (.iconst 1, 1) := by decide +kernel
theorem dX5_fewestTellings_79 : decode cX5_fewestTellings 79 = .ok (.invokevirtual 230, 3) := by decide +kernel
theorem dX5_fewestTellings_82 : decode cX5_fewestTellings 82 = .ok (.ifCond .eq 7, 3) := by decide +kernel
theorem dX5_fewestTellings_85 : decode cX5_fewestTellings 85 = .ok (.iconst 1, 1) := by decide +kernel
theorem dX5_fewestTellings_86 : decode cX5_fewestTellings 86 = .ok (.goto 4, 3) := by decide +kernel
theorem dX5_fewestTellings_89 : decode cX5_fewestTellings 89 = .ok (.iconst 0, 1) := by decide +kernel
theorem dX5_fewestTellings_90 : decode cX5_fewestTellings 90 = .ok (.istore_n 2, 1) := by decide +kernel
theorem dX5_fewestTellings_91 : decode cX5_fewestTellings 91 = .ok (.aload_n 0, 1) := by decide +kernel
theorem dX5_fewestTellings_92 : decode cX5_fewestTellings 92 = .ok (.getfield 21, 3) := by decide +kernel
theorem dX5_fewestTellings_95 : decode cX5_fewestTellings 95 = .ok (.iload_n 1, 1) := by decide +kernel
theorem dX5_fewestTellings_96 : decode cX5_fewestTellings 96 = .ok (.iconst 0, 1) := by decide +kernel
theorem dX5_fewestTellings_97 : decode cX5_fewestTellings 97 = .ok (.invokevirtual 236, 3) := by decide +kernel
theorem dX5_fewestTellings_100 : decode cX5_fewestTellings 100 = .ok (.iload_n 2, 1) := by decide +kernel
theorem dX5_fewestTellings_101 : decode cX5_fewestTellings 101 = .ok (.ifCond .eq 12, 3) := by decide +kernel
theorem dX5_fewestTellings_104 : decode cX5_fewestTellings 104 = .ok (.aload_n 0, 1) := by decide +kernel
theorem dX5_fewestTellings_105 : decode cX5_fewestTellings 105 = .ok (.getfield 39, 3) := by decide +kernel
theorem dX5_fewestTellings_108 : decode cX5_fewestTellings 108 = .ok (.iconst 0, 1) := by decide +kernel
theorem dX5_fewestTellings_109 : decode cX5_fewestTellings 109 = .ok (.iload_n 1, 1) := by decide +kernel
theorem dX5_fewestTellings_110 : decode cX5_fewestTellings 110 = .ok (.iastore, 1) := by decide +kernel
theorem dX5_fewestTellings_111 : decode cX5_fewestTellings 111 = .ok (.iconst 2, 1) := by decide +kernel
theorem dX5_fewestTellings_112 : decode cX5_fewestTellings 112 = .ok (.ireturn, 1) := by decide +kernel
theorem dX5_fewestTellings_113 : decode cX5_fewestTellings 113 = .ok (.iinc 1 1, 3) := by decide +kernel
theorem dX5_fewestTellings_116 : decode cX5_fewestTellings 116 = .ok (.goto (-78), 3) := by decide +kernel
theorem dX5_fewestTellings_119 : decode cX5_fewestTellings 119 = .ok (.bipush (-9), 2) := by decide +kernel
theorem dX5_fewestTellings_121 : decode cX5_fewestTellings 121 = .ok (.ireturn, 1) := by decide +kernel
set_option maxRecDepth 20000 in
theorem ggX5_findTellingFrom_X2_canTell : GoodIn wsX5_findTellingFrom wsX2_canTell := goodIn_r _ [7, 8, 9, 10, 11, 12, 6, 13, 14, 15, 16, 17, 18, 19, 20, 21, 22, 23, 76, 77, 78, 79, 80, 81, 82, 83, 84, 85, 86, 87, 88, 89, 90, 91, 92, 93, 94, 95] (by decide +kernel) (by decide +kernel)
set_option maxRecDepth 20000 in
theorem gX5_findTellingFrom_X2_canTell : GoodIn wsX5_findTellingFrom (wsV RX5 233 RX2 yX2_canTell wsX2_canTell) := goodIn_app (goodIn_of _ (by decide +kernel)) ggX5_findTellingFrom_X2_canTell
set_option maxRecDepth 20000 in
theorem ggX5_findTellingFrom_X2_setTelling : GoodIn wsX5_findTellingFrom wsX2_setTelling := goodIn_r _ [27, 9, 28, 16, 29, 76, 77, 78, 79, 80, 81, 82, 83, 84, 85, 86] (by decide +kernel) (by decide +kernel)
set_option maxRecDepth 20000 in
theorem gX5_findTellingFrom_X2_setTelling : GoodIn wsX5_findTellingFrom (wsV RX5 236 RX2 yX2_setTelling wsX2_setTelling) := goodIn_app (goodIn_of _ (by decide +kernel)) ggX5_findTellingFrom_X2_setTelling
set_option maxRecDepth 20000 in
theorem ggX5_findTellingFrom_X2_holds : GoodIn wsX5_findTellingFrom wsX2_holds := goodIn_r _ [33, 34, 35, 36, 37, 38, 6, 39, 40, 41, 42, 43, 44, 45, 46, 47, 14, 9, 48, 49, 50, 51, 52, 53, 54, 55, 56, 57, 8, 58, 59, 60, 61, 62, 63, 64, 65, 66, 67, 76, 77, 78, 79, 80, 81, 82, 83, 84, 85, 86, 96, 97, 98, 87, 88, 89, 90, 91, 92, 93, 94, 95, 99, 100, 101] (by decide +kernel) (by decide +kernel)
set_option maxRecDepth 20000 in
theorem gX5_findTellingFrom_X2_holds : GoodIn wsX5_findTellingFrom (wsV RX5 227 RX2 yX2_holds wsX2_holds) := goodIn_app (goodIn_of _ (by decide +kernel)) ggX5_findTellingFrom_X2_holds
theorem dX5_findTellingFrom_0 : decode cX5_findTellingFrom 0 = .ok (.iload_n 1, 1) := by decide +kernel
theorem dX5_findTellingFrom_1 : decode cX5_findTellingFrom 1 = .ok (.istore_n 3, 1) := by decide +kernel
theorem dX5_findTellingFrom_2 : decode cX5_findTellingFrom 2 = .ok (.iload_n 3, 1) := by decide +kernel
theorem dX5_findTellingFrom_3 : decode cX5_findTellingFrom 3 = .ok (.bipush 80, 2) := by decide +kernel
theorem dX5_findTellingFrom_5 : decode cX5_findTellingFrom 5 = .ok (.if_icmp .ge 61, 3) := by decide +kernel
theorem dX5_findTellingFrom_8 : decode cX5_findTellingFrom 8 = .ok (.aload_n 0, 1) := by decide +kernel
theorem dX5_findTellingFrom_9 : decode cX5_findTellingFrom 9 = .ok (.getfield 21, 3) := by decide +kernel
theorem dX5_findTellingFrom_12 : decode cX5_findTellingFrom 12 = .ok (.iload_n 3, 1) := by decide +kernel
theorem dX5_findTellingFrom_13 : decode cX5_findTellingFrom 13 = .ok (.invokevirtual 233, 3) := by decide +kernel
theorem dX5_findTellingFrom_16 : decode cX5_findTellingFrom 16 = .ok (.ifCond .eq 44, 3) := by decide +kernel
theorem dX5_findTellingFrom_19 : decode cX5_findTellingFrom 19 = .ok (.aload_n 0, 1) := by decide +kernel
theorem dX5_findTellingFrom_20 : decode cX5_findTellingFrom 20 = .ok (.getfield 21, 3) := by decide +kernel
theorem dX5_findTellingFrom_23 : decode cX5_findTellingFrom 23 = .ok (.iload_n 3, 1) := by decide +kernel
theorem dX5_findTellingFrom_24 : decode cX5_findTellingFrom 24 = .ok (.iconst 1, 1) := by decide +kernel
theorem dX5_findTellingFrom_25 : decode cX5_findTellingFrom 25 = .ok (.invokevirtual 236, 3) := by decide +kernel
theorem dX5_findTellingFrom_28 : decode cX5_findTellingFrom 28 = .ok (.aload_n 0, 1) := by decide +kernel
theorem dX5_findTellingFrom_29 : decode cX5_findTellingFrom 29 = .ok (.getfield 21, 3) := by decide +kernel
theorem dX5_findTellingFrom_32 : decode cX5_findTellingFrom 32 = .ok (.invokevirtual 227, 3) := by decide +kernel
theorem dX5_findTellingFrom_35 : decode cX5_findTellingFrom 35 = .ok (.istore 4, 2) := by decide +kernel
theorem dX5_findTellingFrom_37 : decode cX5_findTellingFrom 37 = .ok (.aload_n 0, 1) := by decide +kernel
theorem dX5_findTellingFrom_38 : decode cX5_findTellingFrom 38 = .ok (.getfield 21, 3) := by decide +kernel
theorem dX5_findTellingFrom_41 : decode cX5_findTellingFrom 41 = .ok (.iload_n 3, 1) := by decide +kernel
theorem dX5_findTellingFrom_42 : decode cX5_findTellingFrom 42 = .ok (.iconst 0, 1) := by decide +kernel
theorem dX5_findTellingFrom_43 : decode cX5_findTellingFrom 43 = .ok (.invokevirtual 236, 3) := by decide +kernel
theorem dX5_findTellingFrom_46 : decode cX5_findTellingFrom 46 = .ok (.iload 4, 2) := by decide +kernel
theorem dX5_findTellingFrom_48 : decode cX5_findTellingFrom 48 = .ok (.ifCond .eq 12, 3) := by decide +kernel
theorem dX5_findTellingFrom_51 : decode cX5_findTellingFrom 51 = .ok (.aload_n 0, 1) := by decide +kernel
theorem dX5_findTellingFrom_52 : decode cX5_findTellingFrom 52 = .ok (.getfield 39, 3) := by decide +kernel
theorem dX5_findTellingFrom_55 : decode cX5_findTellingFrom 55 = .ok (.iload_n 2, 1) := by decide +kernel
theorem dX5_findTellingFrom_56 : decode cX5_findTellingFrom 56 = .ok (.iload_n 3, 1) := by decide +kernel
theorem dX5_findTellingFrom_57 : decode cX5_findTellingFrom 57 = .ok (.iastore, 1) := by decide +kernel
theorem dX5_findTellingFrom_58 : decode cX5_findTellingFrom 58 = .ok (.iconst 1, 1) := by decide +kernel
theorem dX5_findTellingFrom_59 : decode cX5_findTellingFrom 59 = .ok (.ireturn, 1) := by decide +kernel
theorem dX5_findTellingFrom_60 : decode cX5_findTellingFrom 60 = .ok (.iinc 3 1, 3) := by decide +kernel
theorem dX5_findTellingFrom_63 : decode cX5_findTellingFrom 63 = .ok (.goto (-61), 3) := by decide +kernel
theorem dX5_findTellingFrom_66 : decode cX5_findTellingFrom 66 = .ok (.iconst 0, 1) := by decide +kernel
theorem dX5_findTellingFrom_67 : decode cX5_findTellingFrom 67 = .ok (.ireturn, 1) := by decide +kernel
set_option maxRecDepth 20000 in
theorem ggX5_fewestWalls_X2_lookAround : GoodIn wsX5_fewestWalls wsX2_lookAround := goodIn_r _ [9, 10, 11, 12, 13, 14, 15, 16, 17, 18, 19, 20, 21, 22, 23, 8, 24, 84, 85, 86, 87, 88, 89, 90, 91, 92, 93, 94, 72, 73, 74, 75, 76, 77, 78, 79, 80, 81, 82, 83] (by decide +kernel) (by decide +kernel)
set_option maxRecDepth 20000 in
theorem gX5_fewestWalls_X2_lookAround : GoodIn wsX5_fewestWalls (wsV RX5 240 RX2 yX2_lookAround wsX2_lookAround) := goodIn_app (goodIn_of _ (by decide +kernel)) ggX5_fewestWalls_X2_lookAround
set_option maxRecDepth 20000 in
theorem ggX5_fewestWalls_X2_isSafe : GoodIn wsX5_fewestWalls wsX2_isSafe := goodIn_r _ [28, 29, 30, 31, 32, 8, 33, 34, 35, 36, 37, 38, 39, 40, 17, 41, 42, 43, 44, 45, 22, 23, 24, 46, 47, 48, 49, 11, 50, 13, 14, 15, 51, 52, 53, 54, 55, 56, 84, 85, 86, 87, 88, 89, 90, 91, 92, 93, 94, 95, 96, 97, 72, 73, 74, 75, 76, 77, 78, 79, 80, 81, 82, 83] (by decide +kernel) (by decide +kernel)
set_option maxRecDepth 20000 in
theorem gX5_fewestWalls_X2_isSafe : GoodIn wsX5_fewestWalls (wsV RX5 164 RX2 yX2_isSafe wsX2_isSafe) := goodIn_app (goodIn_of _ (by decide +kernel)) ggX5_fewestWalls_X2_isSafe
set_option maxRecDepth 20000 in
theorem ggX5_fewestWalls_J6_bitCount_0f7a4 : GoodIn wsX5_fewestWalls wsJ6_bitCount_0f7a4 := goodIn_r _ [60, 61, 62, 63] (by decide +kernel) (by decide +kernel)
set_option maxRecDepth 20000 in
theorem gX5_fewestWalls_J6_bitCount_0f7a4 : GoodIn wsX5_fewestWalls (va_wsS RX5 218 yJ6_bitCount_0f7a4 wsJ6_bitCount_0f7a4) := goodIn_app (goodIn_of _ (by decide +kernel)) ggX5_fewestWalls_J6_bitCount_0f7a4
theorem dX5_fewestWalls_0 : decode cX5_fewestWalls 0 = .ok (.iconst 1, 1) := by decide +kernel
theorem dX5_fewestWalls_1 : decode cX5_fewestWalls 1 = .ok (.aload_n 0, 1) := by decide +kernel
theorem dX5_fewestWalls_2 : decode cX5_fewestWalls 2 = .ok (.getfield 12, 3) := by decide +kernel
theorem dX5_fewestWalls_5 : decode cX5_fewestWalls 5 = .ok (.getfield 108, 3) := by decide +kernel
theorem dX5_fewestWalls_8 : decode cX5_fewestWalls 8 = .ok (.getfield 125, 3) := by decide +kernel
theorem dX5_fewestWalls_11 : decode cX5_fewestWalls 11 = .ok (.ishl, 1) := by decide +kernel
theorem dX5_fewestWalls_12 : decode cX5_fewestWalls 12 = .ok (.iconst 1, 1) := by decide +kernel
theorem dX5_fewestWalls_13 : decode cX5_fewestWalls 13 = .ok (.isub, 1) := by decide +kernel
theorem dX5_fewestWalls_14 : decode cX5_fewestWalls 14 = .ok (.istore_n 1, 1) := by decide +kernel
theorem dX5_fewestWalls_15 : decode cX5_fewestWalls 15 = .ok (.aload_n 0, 1) := by decide +kernel
theorem dX5_fewestWalls_16 : decode cX5_fewestWalls 16 = .ok (.getfield 21, 3) := by decide +kernel
theorem dX5_fewestWalls_19 : decode cX5_fewestWalls 19 = .ok (.iload_n 1, 1) := by decide +kernel
theorem dX5_fewestWalls_20 : decode cX5_fewestWalls 20 = .ok (.invokevirtual 240, 3) := by decide +kernel
theorem dX5_fewestWalls_23 : decode cX5_fewestWalls 23 = .ok (.aload_n 0, 1) := by decide +kernel
theorem dX5_fewestWalls_24 : decode cX5_fewestWalls 24 = .ok (.getfield 21, 3) := by decide +kernel
theorem dX5_fewestWalls_27 : decode cX5_fewestWalls 27 = .ok (.invokevirtual 164, 3) := by decide +kernel
theorem dX5_fewestWalls_30 : decode cX5_fewestWalls 30 = .ok (.ifCond .ne 6, 3) := by decide +kernel
theorem dX5_fewestWalls_33 : decode cX5_fewestWalls 33 = .ok (.bipush (-9), 2) := by decide +kernel
theorem dX5_fewestWalls_35 : decode cX5_fewestWalls 35 = .ok (.ireturn, 1) := by decide +kernel
theorem dX5_fewestWalls_36 : decode cX5_fewestWalls 36 = .ok (.iload_n 1, 1) := by decide +kernel
theorem dX5_fewestWalls_37 : decode cX5_fewestWalls 37 = .ok (.istore_n 2, 1) := by decide +kernel
theorem dX5_fewestWalls_38 : decode cX5_fewestWalls 38 = .ok (.aload_n 0, 1) := by decide +kernel
theorem dX5_fewestWalls_39 : decode cX5_fewestWalls 39 = .ok (.getfield 12, 3) := by decide +kernel
theorem dX5_fewestWalls_42 : decode cX5_fewestWalls 42 = .ok (.getfield 108, 3) := by decide +kernel
theorem dX5_fewestWalls_45 : decode cX5_fewestWalls 45 = .ok (.getfield 125, 3) := by decide +kernel
theorem dX5_fewestWalls_48 : decode cX5_fewestWalls 48 = .ok (.istore_n 3, 1) := by decide +kernel
theorem dX5_fewestWalls_49 : decode cX5_fewestWalls 49 = .ok (.iconst 0, 1) := by decide +kernel
theorem dX5_fewestWalls_50 : decode cX5_fewestWalls 50 = .ok (.istore 4, 2) := by decide +kernel
theorem dX5_fewestWalls_52 : decode cX5_fewestWalls 52 = .ok (.iload 4, 2) := by decide +kernel
theorem dX5_fewestWalls_54 : decode cX5_fewestWalls 54 = .ok (.iload_n 1, 1) := by decide +kernel
theorem dX5_fewestWalls_55 : decode cX5_fewestWalls 55 = .ok (.if_icmp .ge 47, 3) := by decide +kernel
theorem dX5_fewestWalls_58 : decode cX5_fewestWalls 58 = .ok (.iload 4, 2) := by decide +kernel
theorem dX5_fewestWalls_60 : decode cX5_fewestWalls 60 = .ok (.invokestatic 218, 3) := by decide +kernel
theorem dX5_fewestWalls_63 : decode cX5_fewestWalls 63 = .ok (.istore 5, 2) := by decide +kernel
theorem dX5_fewestWalls_65 : decode cX5_fewestWalls 65 = .ok (.iload 5, 2) := by decide +kernel
theorem dX5_fewestWalls_67 : decode cX5_fewestWalls 67 = .ok (.iload_n 3, 1) := by decide +kernel
theorem dX5_fewestWalls_68 : decode cX5_fewestWalls 68 = .ok (.if_icmp .ge 28, 3) := by decide +kernel
theorem dX5_fewestWalls_71 : decode cX5_fewestWalls 71 = .ok (.aload_n 0, 1) := by decide +kernel
theorem dX5_fewestWalls_72 : decode cX5_fewestWalls 72 = .ok (.getfield 21, 3) := by decide +kernel
theorem dX5_fewestWalls_75 : decode cX5_fewestWalls 75 = .ok (.iload 4, 2) := by decide +kernel
theorem dX5_fewestWalls_77 : decode cX5_fewestWalls 77 = .ok (.invokevirtual 240, 3) := by decide +kernel
theorem dX5_fewestWalls_80 : decode cX5_fewestWalls 80 = .ok (.aload_n 0, 1) := by decide +kernel
theorem dX5_fewestWalls_81 : decode cX5_fewestWalls 81 = .ok (.getfield 21, 3) := by decide +kernel
theorem dX5_fewestWalls_84 : decode cX5_fewestWalls 84 = .ok (.invokevirtual 164, 3) := by decide +kernel
theorem dX5_fewestWalls_87 : decode cX5_fewestWalls 87 = .ok (.ifCond .eq 9, 3) := by decide +kernel
theorem dX5_fewestWalls_90 : decode cX5_fewestWalls 90 = .ok (.iload 4, 2) := by decide +kernel
theorem dX5_fewestWalls_92 : decode cX5_fewestWalls 92 = .ok (.istore_n 2, 1) := by decide +kernel
theorem dX5_fewestWalls_93 : decode cX5_fewestWalls 93 = .ok (.iload 5, 2) := by decide +kernel
theorem dX5_fewestWalls_95 : decode cX5_fewestWalls 95 = .ok (.istore_n 3, 1) := by decide +kernel
theorem dX5_fewestWalls_96 : decode cX5_fewestWalls 96 = .ok (.iinc 4 1, 3) := by decide +kernel
theorem dX5_fewestWalls_99 : decode cX5_fewestWalls 99 = .ok (.goto (-47), 3) := by decide +kernel
theorem dX5_fewestWalls_102 : decode cX5_fewestWalls 102 = .ok (.iload_n 2, 1) := by decide +kernel
theorem dX5_fewestWalls_103 : decode cX5_fewestWalls 103 = .ok (.ireturn, 1) := by decide +kernel
set_option maxRecDepth 20000 in
theorem ggX5_fewestOnPaper_X1_it : GoodIn wsX5_fewestOnPaper wsX1_it := goodIn_r _ [9, 10, 67, 68, 69, 70, 71, 72, 73, 74, 75] (by decide +kernel) (by decide +kernel)
set_option maxRecDepth 20000 in
theorem gX5_fewestOnPaper_X1_it : GoodIn wsX5_fewestOnPaper (wsV RX5 243 RX1 yX1_it wsX1_it) := goodIn_app (goodIn_of _ (by decide +kernel)) ggX5_fewestOnPaper_X1_it
