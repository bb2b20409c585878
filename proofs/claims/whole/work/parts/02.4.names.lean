set_option maxRecDepth 20000 in
theorem ggX5_fewestOnPaper_J6_bitCount_0f7a4 : GoodIn wsX5_fewestOnPaper wsJ6_bitCount_0f7a4 := goodIn_r _ [14, 15, 16, 17] (by decide +kernel) (by decide +kernel)
set_option maxRecDepth 20000 in
theorem gX5_fewestOnPaper_J6_bitCount_0f7a4 : GoodIn wsX5_fewestOnPaper (va_wsS RX5 218 yJ6_bitCount_0f7a4 wsJ6_bitCount_0f7a4) := goodIn_app (goodIn_of _ (by decide +kernel)) ggX5_fewestOnPaper_J6_bitCount_0f7a4
set_option maxRecDepth 20000 in
theorem ggX5_fewestOnPaper_X2_isKept : GoodIn wsX5_fewestOnPaper wsX2_isKept := goodIn_r _ [22, 23, 24, 25, 26, 21, 27, 28, 29, 30, 31, 32, 33, 34, 35, 36, 37, 38, 39, 40, 41, 42, 43, 44, 45, 46, 47, 48, 49, 50, 51, 52, 53, 54, 55, 56, 57, 58, 76, 77, 78, 79, 80, 81, 82, 83, 84, 85, 86, 87, 88, 89, 67, 68, 69, 70, 71, 72, 73, 74, 75, 90, 91, 92] (by decide +kernel) (by decide +kernel)
set_option maxRecDepth 20000 in
theorem gX5_fewestOnPaper_X2_isKept : GoodIn wsX5_fewestOnPaper (wsV RX5 158 RX2 yX2_isKept wsX2_isKept) := goodIn_app (goodIn_of _ (by decide +kernel)) ggX5_fewestOnPaper_X2_isKept
theorem dX5_fewestOnPaper_0 : decode cX5_fewestOnPaper 0 = .ok (.aload_n 0, 1) := by decide +kernel
theorem dX5_fewestOnPaper_1 : decode cX5_fewestOnPaper 1 = .ok (.getfield 12, 3) := by decide +kernel
theorem dX5_fewestOnPaper_4 : decode cX5_fewestOnPaper 4 = .ok (.invokevirtual 243, 3) := by decide +kernel
theorem dX5_fewestOnPaper_7 : decode cX5_fewestOnPaper 7 = .ok (.istore_n 1, 1) := by decide +kernel
theorem dX5_fewestOnPaper_8 : decode cX5_fewestOnPaper 8 = .ok (.aload_n 0, 1) := by decide +kernel
theorem dX5_fewestOnPaper_9 : decode cX5_fewestOnPaper 9 = .ok (.getfield 12, 3) := by decide +kernel
theorem dX5_fewestOnPaper_12 : decode cX5_fewestOnPaper 12 = .ok (.getfield 68, 3) := by decide +kernel
theorem dX5_fewestOnPaper_15 : decode cX5_fewestOnPaper 15 = .ok (.istore_n 2, 1) := by decide +kernel
theorem dX5_fewestOnPaper_16 : decode cX5_fewestOnPaper 16 = .ok (.iconst 0, 1) := by decide +kernel
theorem dX5_fewestOnPaper_17 : decode cX5_fewestOnPaper 17 = .ok (.istore_n 3, 1) := by decide +kernel
theorem dX5_fewestOnPaper_18 : decode cX5_fewestOnPaper 18 = .ok (.iload_n 3, 1) := by decide +kernel
theorem dX5_fewestOnPaper_19 : decode cX5_fewestOnPaper 19 = .ok (.aload_n 0, 1) := by decide +kernel
theorem dX5_fewestOnPaper_20 : decode cX5_fewestOnPaper 20 = .ok (.getfield 12, 3) := by decide +kernel
theorem dX5_fewestOnPaper_23 : decode cX5_fewestOnPaper 23 = .ok (.invokevirtual 243, 3) := by decide +kernel
theorem dX5_fewestOnPaper_26 : decode cX5_fewestOnPaper 26 = .ok (.if_icmp .ge 44, 3) := by decide +kernel
theorem dX5_fewestOnPaper_29 : decode cX5_fewestOnPaper 29 = .ok (.iload_n 3, 1) := by decide +kernel
theorem dX5_fewestOnPaper_30 : decode cX5_fewestOnPaper 30 = .ok (.invokestatic 218, 3) := by decide +kernel
theorem dX5_fewestOnPaper_33 : decode cX5_fewestOnPaper 33 = .ok (.istore 4, 2) := by decide +kernel
theorem dX5_fewestOnPaper_35 : decode cX5_fewestOnPaper 35 = .ok (.iload 4, 2) := by decide +kernel
theorem dX5_fewestOnPaper_37 : decode cX5_fewestOnPaper 37 = .ok (.iload_n 2, 1) := by decide +kernel
theorem dX5_fewestOnPaper_38 : decode cX5_fewestOnPaper 38 = .ok (.if_icmp .ge 26, 3) := by decide +kernel
theorem dX5_fewestOnPaper_41 : decode cX5_fewestOnPaper 41 = .ok (.aload_n 0, 1) := by decide +kernel
theorem dX5_fewestOnPaper_42 : decode cX5_fewestOnPaper 42 = .ok (.getfield 21, 3) := by decide +kernel
theorem dX5_fewestOnPaper_45 : decode cX5_fewestOnPaper 45 = .ok (.iload_n 3, 1) := by decide +kernel
theorem dX5_fewestOnPaper_46 : decode cX5_fewestOnPaper 46 = .ok (.putfield 246, 3) := by decide +kernel
theorem dX5_fewestOnPaper_49 : decode cX5_fewestOnPaper 49 = .ok (.aload_n 0, 1) := by decide +kernel
theorem dX5_fewestOnPaper_50 : decode cX5_fewestOnPaper 50 = .ok (.getfield 21, 3) := by decide +kernel
theorem dX5_fewestOnPaper_53 : decode cX5_fewestOnPaper 53 = .ok (.invokevirtual 158, 3) := by decide +kernel
theorem dX5_fewestOnPaper_56 : decode cX5_fewestOnPaper 56 = .ok (.ifCond .eq 8, 3) := by decide +kernel
theorem dX5_fewestOnPaper_59 : decode cX5_fewestOnPaper 59 = .ok (.iload_n 3, 1) := by decide +kernel
theorem dX5_fewestOnPaper_60 : decode cX5_fewestOnPaper 60 = .ok (.istore_n 1, 1) := by decide +kernel
theorem dX5_fewestOnPaper_61 : decode cX5_fewestOnPaper 61 = .ok (.iload 4, 2) := by decide +kernel
theorem dX5_fewestOnPaper_63 : decode cX5_fewestOnPaper 63 = .ok (.istore_n 2, 1) := by decide +kernel
theorem dX5_fewestOnPaper_64 : decode cX5_fewestOnPaper 64 = .ok (.iinc 3 1, 3) := by decide +kernel
theorem dX5_fewestOnPaper_67 : decode cX5_fewestOnPaper 67 = .ok (.goto (-49), 3) := by decide +kernel
theorem dX5_fewestOnPaper_70 : decode cX5_fewestOnPaper 70 = .ok (.iload_n 1, 1) := by decide +kernel
theorem dX5_fewestOnPaper_71 : decode cX5_fewestOnPaper 71 = .ok (.ireturn, 1) := by decide +kernel
set_option maxRecDepth 20000 in
theorem ggX5_finestKind_X2_giveOut : GoodIn wsX5_finestKind wsX2_giveOut := goodIn_r _ [6, 7, 8, 9, 10, 11, 12, 13, 14, 15, 16, 17, 18, 19, 20, 5, 21, 22, 23, 24, 25, 26, 27, 28, 29, 30, 31, 32, 33, 34, 35, 36, 37, 84, 85, 86, 87, 88, 89, 90, 91, 92, 93, 94, 95, 96, 97, 98, 99, 100, 101, 102, 103] (by decide +kernel) (by decide +kernel)
set_option maxRecDepth 20000 in
theorem gX5_finestKind_X2_giveOut : GoodIn wsX5_finestKind (wsV RX5 196 RX2 yX2_giveOut wsX2_giveOut) := goodIn_app (goodIn_of _ (by decide +kernel)) ggX5_finestKind_X2_giveOut
set_option maxRecDepth 20000 in
theorem ggX5_finestKind_X2_holds : GoodIn wsX5_finestKind wsX2_holds := goodIn_r _ [41, 42, 43, 44, 45, 46, 5, 47, 48, 49, 50, 51, 52, 53, 54, 55, 7, 10, 56, 57, 58, 59, 60, 61, 62, 63, 64, 65, 8, 66, 67, 68, 69, 70, 71, 72, 73, 74, 75, 84, 85, 86, 87, 88, 89, 90, 91, 92, 93, 94, 104, 105, 106, 95, 96, 97, 98, 99, 100, 101, 102, 103, 107, 108, 109] (by decide +kernel) (by decide +kernel)
set_option maxRecDepth 20000 in
theorem gX5_finestKind_X2_holds : GoodIn wsX5_finestKind (wsV RX5 227 RX2 yX2_holds wsX2_holds) := goodIn_app (goodIn_of _ (by decide +kernel)) ggX5_finestKind_X2_holds
theorem dX5_finestKind_0 : decode cX5_finestKind 0 = .ok (.bipush (-9), 2) := by decide +kernel
theorem dX5_finestKind_2 : decode cX5_finestKind 2 = .ok (.istore_n 1, 1) := by decide +kernel
theorem dX5_finestKind_3 : decode cX5_finestKind 3 = .ok (.bipush 99, 2) := by decide +kernel
theorem dX5_finestKind_5 : decode cX5_finestKind 5 = .ok (.istore_n 2, 1) := by decide +kernel
theorem dX5_finestKind_6 : decode cX5_finestKind 6 = .ok (.iconst 0, 1) := by decide +kernel
theorem dX5_finestKind_7 : decode cX5_finestKind 7 = .ok (.istore_n 3, 1) := by decide +kernel
theorem dX5_finestKind_8 : decode cX5_finestKind 8 = .ok (.iload_n 3, 1) := by decide +kernel
theorem dX5_finestKind_9 : decode cX5_finestKind 9 = .ok (.iconst 5, 1) := by decide +kernel
theorem dX5_finestKind_10 : decode cX5_finestKind 10 = .ok (.if_icmp .ge 40, 3) := by decide +kernel
theorem dX5_finestKind_13 : decode cX5_finestKind 13 = .ok (.aload_n 0, 1) := by decide +kernel
theorem dX5_finestKind_14 : decode cX5_finestKind 14 = .ok (.getfield 21, 3) := by decide +kernel
theorem dX5_finestKind_17 : decode cX5_finestKind 17 = .ok (.iload_n 3, 1) := by decide +kernel
theorem dX5_finestKind_18 : decode cX5_finestKind 18 = .ok (.invokevirtual 196, 3) := by decide +kernel
theorem dX5_finestKind_21 : decode cX5_finestKind 21 = .ok (.istore 4, 2) := by decide +kernel
theorem dX5_finestKind_23 : decode cX5_finestKind 23 = .ok (.iload 4, 2) := by decide +kernel
theorem dX5_finestKind_25 : decode cX5_finestKind 25 = .ok (.iload_n 2, 1) := by decide +kernel
theorem dX5_finestKind_26 : decode cX5_finestKind 26 = .ok (.if_icmp .ge 18, 3) := by decide +kernel
theorem dX5_finestKind_29 : decode cX5_finestKind 29 = .ok (.aload_n 0, 1) := by decide +kernel
theorem dX5_finestKind_30 : decode cX5_finestKind 30 = .ok (.getfield 21, 3) := by decide +kernel
theorem dX5_finestKind_33 : decode cX5_finestKind 33 = .ok (.invokevirtual 227, 3) := by decide +kernel
theorem dX5_finestKind_36 : decode cX5_finestKind 36 = .ok (.ifCond .eq 8, 3) := by decide +kernel
theorem dX5_finestKind_39 : decode cX5_finestKind 39 = .ok (.iload_n 3, 1) := by decide +kernel
theorem dX5_finestKind_40 : decode cX5_finestKind 40 = .ok (.istore_n 1, 1) := by decide +kernel
theorem dX5_finestKind_41 : decode cX5_finestKind 41 = .ok (.iload 4, 2) := by decide +kernel
theorem dX5_finestKind_43 : decode cX5_finestKind 43 = .ok (.istore_n 2, 1) := by decide +kernel
theorem dX5_finestKind_44 : decode cX5_finestKind 44 = .ok (.iinc 3 1, 3) := by decide +kernel
theorem dX5_finestKind_47 : decode cX5_finestKind 47 = .ok (.goto (-39), 3) := by decide +kernel
theorem dX5_finestKind_50 : decode cX5_finestKind 50 = .ok (.iload_n 1, 1) := by decide +kernel
theorem dX5_finestKind_51 : decode cX5_finestKind 51 = .ok (.ireturn, 1) := by decide +kernel
set_option maxRecDepth 20000 in
theorem ggX5_likely_X2_areHere : GoodIn wsX5_likely wsX2_areHere := goodIn_r _ [8, 9, 63, 64, 65, 66, 67, 68, 69, 70, 71, 72, 73] (by decide +kernel) (by decide +kernel)
set_option maxRecDepth 20000 in
theorem gX5_likely_X2_areHere : GoodIn wsX5_likely (wsV RX5 223 RX2 yX2_areHere wsX2_areHere) := goodIn_app (goodIn_of _ (by decide +kernel)) ggX5_likely_X2_areHere
set_option maxRecDepth 20000 in
theorem ggX5_likely_X2_happens : GoodIn wsX5_likely wsX2_happens := goodIn_r _ [13, 14, 9, 15, 16, 17, 18, 19, 20, 7, 21, 22, 23, 24, 25, 26, 27, 28, 29, 30, 63, 64, 65, 66, 67, 68, 69, 70, 71, 72, 73, 54, 55, 56, 57, 58, 59, 60, 61, 62, 74, 75, 76] (by decide +kernel) (by decide +kernel)
set_option maxRecDepth 20000 in
theorem gX5_likely_X2_happens : GoodIn wsX5_likely (wsV RX5 173 RX2 yX2_happens wsX2_happens) := goodIn_app (goodIn_of _ (by decide +kernel)) ggX5_likely_X2_happens
set_option maxRecDepth 20000 in
theorem ggX5_likely_X1_weightOf : GoodIn wsX5_likely wsX1_weightOf := goodIn_r _ [35, 36, 37, 38, 39, 40, 34, 41, 42, 43, 44, 45, 54, 55, 56, 57, 58, 59, 60, 61, 62] (by decide +kernel) (by decide +kernel)
set_option maxRecDepth 20000 in
theorem gX5_likely_X1_weightOf : GoodIn wsX5_likely (wsV RX5 247 RX1 yX1_weightOf wsX1_weightOf) := goodIn_app (goodIn_of _ (by decide +kernel)) ggX5_likely_X1_weightOf
theorem dX5_likely_0 : decode cX5_likely 0 = .ok (.lconst 0, 1) := by decide +kernel
theorem dX5_likely_1 : decode cX5_likely 1 = .ok (.lstore_n 2, 1) := by decide +kernel
theorem dX5_likely_2 : decode cX5_likely 2 = .ok (.iconst 0, 1) := by decide +kernel
theorem dX5_likely_3 : decode cX5_likely 3 = .ok (.istore 4, 2) := by decide +kernel
theorem dX5_likely_5 : decode cX5_likely 5 = .ok (.iload 4, 2) := by decide +kernel
theorem dX5_likely_7 : decode cX5_likely 7 = .ok (.iconst 1, 1) := by decide +kernel
theorem dX5_likely_8 : decode cX5_likely 8 = .ok (.aload_n 0, 1) := by decide +kernel
theorem dX5_likely_9 : decode cX5_likely 9 = .ok (.getfield 12, 3) := by decide +kernel
theorem dX5_likely_12 : decode cX5_likely 12 = .ok (.getfield 79, 3) := by decide +kernel
theorem dX5_likely_15 : decode cX5_likely 15 = .ok (.ishl, 1) := by decide +kernel
theorem dX5_likely_16 : decode cX5_likely 16 = .ok (.if_icmp .ge 46, 3) := by decide +kernel
theorem dX5_likely_19 : decode cX5_likely 19 = .ok (.aload_n 0, 1) := by decide +kernel
theorem dX5_likely_20 : decode cX5_likely 20 = .ok (.getfield 21, 3) := by decide +kernel
theorem dX5_likely_23 : decode cX5_likely 23 = .ok (.iload 4, 2) := by decide +kernel
theorem dX5_likely_25 : decode cX5_likely 25 = .ok (.invokevirtual 223, 3) := by decide +kernel
theorem dX5_likely_28 : decode cX5_likely 28 = .ok (.ifCond .eq 28, 3) := by decide +kernel
theorem dX5_likely_31 : decode cX5_likely 31 = .ok (.aload_n 0, 1) := by decide +kernel
theorem dX5_likely_32 : decode cX5_likely 32 = .ok (.getfield 21, 3) := by decide +kernel
theorem dX5_likely_35 : decode cX5_likely 35 = .ok (.iload_n 1, 1) := by decide +kernel
theorem dX5_likely_36 : decode cX5_likely 36 = .ok (.iload 4, 2) := by decide +kernel
theorem dX5_likely_38 : decode cX5_likely 38 = .ok (.invokevirtual 173, 3) := by decide +kernel
theorem dX5_likely_41 : decode cX5_likely 41 = .ok (.ifCond .eq 15, 3) := by decide +kernel
theorem dX5_likely_44 : decode cX5_likely 44 = .ok (.lload_n 2, 1) := by decide +kernel
theorem dX5_likely_45 : decode cX5_likely 45 = .ok (.aload_n 0, 1) := by decide +kernel
theorem dX5_likely_46 : decode cX5_likely 46 = .ok (.getfield 12, 3) := by decide +kernel
theorem dX5_likely_49 : decode cX5_likely 49 = .ok (.iload 4, 2) := by decide +kernel
theorem dX5_likely_51 : decode cX5_likely 51 = .ok (.invokevirtual 247, 3) := by decide +kernel
theorem dX5_likely_54 : decode cX5_likely 54 = .ok (.ladd, 1) := by decide +kernel
theorem dX5_likely_55 : decode cX5_likely 55 = .ok (.lstore_n 2, 1) := by decide +kernel
theorem dX5_likely_56 : decode cX5_likely 56 = .ok (.iinc 4 1, 3) := by decide +kernel
theorem dX5_likely_59 : decode cX5_likely 59 = .ok (.goto (-54), 3) := by decide +kernel
theorem dX5_likely_62 : decode cX5_likely 62 = .ok (.lload_n 2, 1) := by decide +kernel
theorem dX5_likely_63 : decode cX5_likely 63 = .ok (.lreturn, 1) := by decide +kernel
set_option maxRecDepth 20000 in
theorem ggX5_runYears_X2_isHere : GoodIn wsX5_runYears wsX2_isHere := goodIn_r _ [12, 13, 14, 15, 16, 59, 60, 61, 62, 63, 64, 65, 66, 67, 68, 69] (by decide +kernel) (by decide +kernel)
set_option maxRecDepth 20000 in
theorem gX5_runYears_X2_isHere : GoodIn wsX5_runYears (wsV RX5 170 RX2 yX2_isHere wsX2_isHere) := goodIn_app (goodIn_of _ (by decide +kernel)) ggX5_runYears_X2_isHere
set_option maxRecDepth 20000 in
theorem ggX5_runYears_X2_leave : GoodIn wsX5_runYears wsX2_leave := goodIn_r _ [20, 13, 59, 60, 61, 62, 63, 64, 65, 66, 67, 68, 69] (by decide +kernel) (by decide +kernel)
set_option maxRecDepth 20000 in
theorem gX5_runYears_X2_leave : GoodIn wsX5_runYears (wsV RX5 253 RX2 yX2_leave wsX2_leave) := goodIn_app (goodIn_of _ (by decide +kernel)) ggX5_runYears_X2_leave
set_option maxRecDepth 20000 in
theorem ggX5_runYears_X2_happens : GoodIn wsX5_runYears wsX2_happens := goodIn_r _ [24, 25, 13, 26, 27, 28, 29, 30, 31, 11, 32, 33, 34, 35, 36, 37, 38, 39, 40, 41, 59, 60, 61, 62, 63, 64, 65, 66, 67, 68, 69, 50, 51, 52, 53, 54, 55, 56, 57, 58, 70, 71, 72] (by decide +kernel) (by decide +kernel)
set_option maxRecDepth 20000 in
theorem gX5_runYears_X2_happens : GoodIn wsX5_runYears (wsV RX5 173 RX2 yX2_happens wsX2_happens) := goodIn_app (goodIn_of _ (by decide +kernel)) ggX5_runYears_X2_happens
theorem dX5_runYears_0 : decode cX5_runYears 0 = .ok (.iload_n 2, 1) := by decide +kernel
theorem dX5_runYears_1 : decode cX5_runYears 1 = .ok (.istore 4, 2) := by decide +kernel
theorem dX5_runYears_3 : decode cX5_runYears 3 = .ok (.iconst 0, 1) := by decide +kernel
theorem dX5_runYears_4 : decode cX5_runYears 4 = .ok (.istore 5, 2) := by decide +kernel
theorem dX5_runYears_6 : decode cX5_runYears 6 = .ok (.iconst 1, 1) := by decide +kernel
theorem dX5_runYears_7 : decode cX5_runYears 7 = .ok (.istore 6, 2) := by decide +kernel
theorem dX5_runYears_9 : decode cX5_runYears 9 = .ok (.iload 6, 2) := by decide +kernel
theorem dX5_runYears_11 : decode cX5_runYears 11 = .ok (.iload_n 1, 1) := by decide +kernel
theorem dX5_runYears_12 : decode cX5_runYears 12 = .ok (.if_icmp .gt 109, 3) := by decide +kernel
theorem dX5_runYears_15 : decode cX5_runYears 15 = .ok (.iconst 0, 1) := by decide +kernel
theorem dX5_runYears_16 : decode cX5_runYears 16 = .ok (.istore 7, 2) := by decide +kernel
theorem dX5_runYears_18 : decode cX5_runYears 18 = .ok (.iload 7, 2) := by decide +kernel
theorem dX5_runYears_20 : decode cX5_runYears 20 = .ok (.aload_n 0, 1) := by decide +kernel
theorem dX5_runYears_21 : decode cX5_runYears 21 = .ok (.getfield 12, 3) := by decide +kernel
theorem dX5_runYears_24 : decode cX5_runYears 24 = .ok (.getfield 79, 3) := by decide +kernel
theorem dX5_runYears_27 : decode cX5_runYears 27 = .ok (.if_icmp .ge 68, 3) := by decide +kernel
theorem dX5_runYears_30 : decode cX5_runYears 30 = .ok (.aload_n 0, 1) := by decide +kernel
theorem dX5_runYears_31 : decode cX5_runYears 31 = .ok (.getfield 21, 3) := by decide +kernel
theorem dX5_runYears_34 : decode cX5_runYears 34 = .ok (.iload 7, 2) := by decide +kernel
theorem dX5_runYears_36 : decode cX5_runYears 36 = .ok (.invokevirtual 170, 3) := by decide +kernel
theorem dX5_runYears_39 : decode cX5_runYears 39 = .ok (.ifCond .eq 50, 3) := by decide +kernel
theorem dX5_runYears_42 : decode cX5_runYears 42 = .ok (.iload 4, 2) := by decide +kernel
theorem dX5_runYears_44 : decode cX5_runYears 44 = .ok (.ldc 250, 2) := by decide +kernel
theorem dX5_runYears_46 : decode cX5_runYears 46 = .ok (.imul, 1) := by decide +kernel
theorem dX5_runYears_47 : decode cX5_runYears 47 = .ok (.sipush 12345, 3) := by decide +kernel
theorem dX5_runYears_50 : decode cX5_runYears 50 = .ok (.iadd, 1) := by decide +kernel
theorem dX5_runYears_51 : decode cX5_runYears 51 = .ok (.istore 4, 2) := by decide +kernel
theorem dX5_runYears_53 : decode cX5_runYears 53 = .ok (.iload 4, 2) := by decide +kernel
theorem dX5_runYears_55 : decode cX5_runYears 55 = .ok (.ldc 251, 2) := by decide +kernel
theorem dX5_runYears_57 : decode cX5_runYears 57 = .ok (.iand, 1) := by decide +kernel
theorem dX5_runYears_58 : decode cX5_runYears 58 = .ok (.ldc 252, 2) := by decide +kernel
theorem dX5_runYears_60 : decode cX5_runYears 60 = .ok (.idiv, 1) := by decide +kernel
theorem dX5_runYears_61 : decode cX5_runYears 61 = .ok (.bipush 100, 2) := by decide +kernel
theorem dX5_runYears_63 : decode cX5_runYears 63 = .ok (.irem, 1) := by decide +kernel
theorem dX5_runYears_64 : decode cX5_runYears 64 = .ok (.aload_n 0, 1) := by decide +kernel
theorem dX5_runYears_65 : decode cX5_runYears 65 = .ok (.getfield 12, 3) := by decide +kernel
theorem dX5_runYears_68 : decode cX5_runYears 68 = .ok (.getfield 98, 3) := by decide +kernel
theorem dX5_runYears_71 : decode cX5_runYears 71 = .ok (.iload 7, 2) := by decide +kernel
theorem dX5_runYears_73 : decode cX5_runYears 73 = .ok (.iaload, 1) := by decide +kernel
theorem dX5_runYears_74 : decode cX5_runYears 74 = .ok (.if_icmp .ge 15, 3) := by decide +kernel
theorem dX5_runYears_77 : decode cX5_runYears 77 = .ok (.aload_n 0, 1) := by decide +kernel
theorem dX5_runYears_78 : decode cX5_runYears 78 = .ok (.getfield 21, 3) := by decide +kernel
theorem dX5_runYears_81 : decode cX5_runYears 81 = .ok (.iload 7, 2) := by decide +kernel
theorem dX5_runYears_83 : decode cX5_runYears 83 = .ok (.invokevirtual 253, 3) := by decide +kernel
theorem dX5_runYears_86 : decode cX5_runYears 86 = .ok (.iinc 5 1, 3) := by decide +kernel
theorem dX5_runYears_89 : decode cX5_runYears 89 = .ok (.iinc 7 1, 3) := by decide +kernel
theorem dX5_runYears_92 : decode cX5_runYears 92 = .ok (.goto (-74), 3) := by decide +kernel
theorem dX5_runYears_95 : decode cX5_runYears 95 = .ok (.iload_n 3, 1) := by decide +kernel
theorem dX5_runYears_96 : decode cX5_runYears 96 = .ok (.iconst 2, 1) := by decide +kernel
theorem dX5_runYears_97 : decode cX5_runYears 97 = .ok (.if_icmp .eq 18, 3) := by decide +kernel
theorem dX5_runYears_100 : decode cX5_runYears 100 = .ok (.aload_n 0, 1) := by decide +kernel
theorem dX5_runYears_101 : decode cX5_runYears 101 = .ok (.getfield 21, 3) := by decide +kernel
theorem dX5_runYears_104 : decode cX5_runYears 104 = .ok (.iload_n 3, 1) := by decide +kernel
theorem dX5_runYears_105 : decode cX5_runYears 105 = .ok (.iconst 0, 1) := by decide +kernel
theorem dX5_runYears_106 : decode cX5_runYears 106 = .ok (.invokevirtual 173, 3) := by decide +kernel
theorem dX5_runYears_109 : decode cX5_runYears 109 = .ok (.ifCond .eq 6, 3) := by decide +kernel
theorem dX5_runYears_112 : decode cX5_runYears 112 = .ok (.iload 6, 2) := by decide +kernel
theorem dX5_runYears_114 : decode cX5_runYears 114 = .ok (.ireturn, 1) := by decide +kernel
theorem dX5_runYears_115 : decode cX5_runYears 115 = .ok (.iinc 6 1, 3) := by decide +kernel
theorem dX5_runYears_118 : decode cX5_runYears 118 = .ok (.goto (-109), 3) := by decide +kernel
theorem dX5_runYears_121 : decode cX5_runYears 121 = .ok (.iload_n 3, 1) := by decide +kernel
theorem dX5_runYears_122 : decode cX5_runYears 122 = .ok (.iconst 2, 1) := by decide +kernel
theorem dX5_runYears_123 : decode cX5_runYears 123 = .ok (.if_icmp .ne 8, 3) := by decide +kernel
theorem dX5_runYears_126 : decode cX5_runYears 126 = .ok (.iload 5, 2) := by decide +kernel
theorem dX5_runYears_128 : decode cX5_runYears 128 = .ok (.goto 5, 3) := by decide +kernel
theorem dX5_runYears_131 : decode cX5_runYears 131 = .ok (.bipush (-9), 2) := by decide +kernel
theorem dX5_runYears_133 : decode cX5_runYears 133 = .ok (.ireturn, 1) := by decide +kernel
set_option maxRecDepth 20000 in
theorem ggX5_placeInRow_X2_isHere : GoodIn wsX5_placeInRow wsX2_isHere := goodIn_r _ [8, 9, 10, 11, 12, 46, 47, 48, 49, 50, 51, 52, 53, 54, 55, 56] (by decide +kernel) (by decide +kernel)
set_option maxRecDepth 20000 in
theorem gX5_placeInRow_X2_isHere : GoodIn wsX5_placeInRow (wsV RX5 170 RX2 yX2_isHere wsX2_isHere) := goodIn_app (goodIn_of _ (by decide +kernel)) ggX5_placeInRow_X2_isHere
set_option maxRecDepth 20000 in
theorem ggX5_placeInRow_X2_leave : GoodIn wsX5_placeInRow wsX2_leave := goodIn_r _ [16, 9, 46, 47, 48, 49, 50, 51, 52, 53, 54, 55, 56] (by decide +kernel) (by decide +kernel)
set_option maxRecDepth 20000 in
theorem gX5_placeInRow_X2_leave : GoodIn wsX5_placeInRow (wsV RX5 253 RX2 yX2_leave wsX2_leave) := goodIn_app (goodIn_of _ (by decide +kernel)) ggX5_placeInRow_X2_leave
set_option maxRecDepth 20000 in
theorem ggX5_placeInRow_X2_happens : GoodIn wsX5_placeInRow wsX2_happens := goodIn_r _ [20, 21, 9, 22, 23, 24, 25, 26, 27, 7, 28, 29, 30, 31, 32, 33, 34, 35, 36, 37, 46, 47, 48, 49, 50, 51, 52, 53, 54, 55, 56, 57, 58, 59, 60, 61, 62, 63, 64, 65, 66, 67, 68] (by decide +kernel) (by decide +kernel)
set_option maxRecDepth 20000 in
theorem gX5_placeInRow_X2_happens : GoodIn wsX5_placeInRow (wsV RX5 173 RX2 yX2_happens wsX2_happens) := goodIn_app (goodIn_of _ (by decide +kernel)) ggX5_placeInRow_X2_happens
theorem dX5_placeInRow_0 : decode cX5_placeInRow 0 = .ok (.iconst 0, 1) := by decide +kernel
theorem dX5_placeInRow_1 : decode cX5_placeInRow 1 = .ok (.istore_n 2, 1) := by decide +kernel
theorem dX5_placeInRow_2 : decode cX5_placeInRow 2 = .ok (.iload_n 2, 1) := by decide +kernel
theorem dX5_placeInRow_3 : decode cX5_placeInRow 3 = .ok (.aload_n 0, 1) := by decide +kernel
theorem dX5_placeInRow_4 : decode cX5_placeInRow 4 = .ok (.getfield 42, 3) := by decide +kernel
theorem dX5_placeInRow_7 : decode cX5_placeInRow 7 = .ok (.if_icmp .ge 69, 3) := by decide +kernel
theorem dX5_placeInRow_10 : decode cX5_placeInRow 10 = .ok (.aload_n 0, 1) := by decide +kernel
theorem dX5_placeInRow_11 : decode cX5_placeInRow 11 = .ok (.getfield 21, 3) := by decide +kernel
theorem dX5_placeInRow_14 : decode cX5_placeInRow 14 = .ok (.aload_n 0, 1) := by decide +kernel
theorem dX5_placeInRow_15 : decode cX5_placeInRow 15 = .ok (.getfield 32, 3) := by decide +kernel
theorem dX5_placeInRow_18 : decode cX5_placeInRow 18 = .ok (.iload_n 2, 1) := by decide +kernel
theorem dX5_placeInRow_19 : decode cX5_placeInRow 19 = .ok (.iaload, 1) := by decide +kernel
theorem dX5_placeInRow_20 : decode cX5_placeInRow 20 = .ok (.invokevirtual 170, 3) := by decide +kernel
theorem dX5_placeInRow_23 : decode cX5_placeInRow 23 = .ok (.ifCond .ne 15, 3) := by decide +kernel
theorem dX5_placeInRow_26 : decode cX5_placeInRow 26 = .ok (.iload_n 1, 1) := by decide +kernel
theorem dX5_placeInRow_27 : decode cX5_placeInRow 27 = .ok (.iconst 2, 1) := by decide +kernel
theorem dX5_placeInRow_28 : decode cX5_placeInRow 28 = .ok (.if_icmp .ne 7, 3) := by decide +kernel
theorem dX5_placeInRow_31 : decode cX5_placeInRow 31 = .ok (.iload_n 2, 1) := by decide +kernel
theorem dX5_placeInRow_32 : decode cX5_placeInRow 32 = .ok (.goto 5, 3) := by decide +kernel
theorem dX5_placeInRow_35 : decode cX5_placeInRow 35 = .ok (.bipush (-9), 2) := by decide +kernel
theorem dX5_placeInRow_37 : decode cX5_placeInRow 37 = .ok (.ireturn, 1) := by decide +kernel
theorem dX5_placeInRow_38 : decode cX5_placeInRow 38 = .ok (.aload_n 0, 1) := by decide +kernel
theorem dX5_placeInRow_39 : decode cX5_placeInRow 39 = .ok (.getfield 21, 3) := by decide +kernel
theorem dX5_placeInRow_42 : decode cX5_placeInRow 42 = .ok (.aload_n 0, 1) := by decide +kernel
theorem dX5_placeInRow_43 : decode cX5_placeInRow 43 = .ok (.getfield 32, 3) := by decide +kernel
theorem dX5_placeInRow_46 : decode cX5_placeInRow 46 = .ok (.iload_n 2, 1) := by decide +kernel
theorem dX5_placeInRow_47 : decode cX5_placeInRow 47 = .ok (.iaload, 1) := by decide +kernel
theorem dX5_placeInRow_48 : decode cX5_placeInRow 48 = .ok (.invokevirtual 253, 3) := by decide +kernel
theorem dX5_placeInRow_51 : decode cX5_placeInRow 51 = .ok (.iload_n 1, 1) := by decide +kernel
theorem dX5_placeInRow_52 : decode cX5_placeInRow 52 = .ok (.iconst 2, 1) := by decide +kernel
theorem dX5_placeInRow_53 : decode cX5_placeInRow 53 = .ok (.if_icmp .eq 17, 3) := by decide +kernel
theorem dX5_placeInRow_56 : decode cX5_placeInRow 56 = .ok (.aload_n 0, 1) := by decide +kernel
theorem dX5_placeInRow_57 : decode cX5_placeInRow 57 = .ok (.getfield 21, 3) := by decide +kernel
theorem dX5_placeInRow_60 : decode cX5_placeInRow 60 = .ok (.iload_n 1, 1) := by decide +kernel
theorem dX5_placeInRow_61 : decode cX5_placeInRow 61 = .ok (.iconst 0, 1) := by decide +kernel
theorem dX5_placeInRow_62 : decode cX5_placeInRow 62 = .ok (.invokevirtual 173, 3) := by decide +kernel
theorem dX5_placeInRow_65 : decode cX5_placeInRow 65 = .ok (.ifCond .eq 5, 3) := by decide +kernel
theorem dX5_placeInRow_68 : decode cX5_placeInRow 68 = .ok (.iload_n 2, 1) := by decide +kernel
theorem dX5_placeInRow_69 : decode cX5_placeInRow 69 = .ok (.ireturn, 1) := by decide +kernel
theorem dX5_placeInRow_70 : decode cX5_placeInRow 70 = .ok (.iinc 2 1, 3) := by decide +kernel
theorem dX5_placeInRow_73 : decode cX5_placeInRow 73 = .ok (.goto (-71), 3) := by decide +kernel
theorem dX5_placeInRow_76 : decode cX5_placeInRow 76 = .ok (.bipush (-9), 2) := by decide +kernel
theorem dX5_placeInRow_78 : decode cX5_placeInRow 78 = .ok (.ireturn, 1) := by decide +kernel
theorem dX6_init_0 : decode cX6_init 0 = .ok (.aload_n 0, 1) := by decide +kernel
theorem dX6_init_1 : decode cX6_init 1 = .ok (.invokespecial 1, 3) := by decide +kernel
theorem dX6_init_4 : decode cX6_init 4 = .ok (.aload_n 0, 1) := by decide +kernel
theorem dX6_init_5 : decode cX6_init 5 = .ok (.bipush 7, 2) := by decide +kernel
theorem dX6_init_7 : decode cX6_init 7 = .ok (.newarray .int, 2) := by decide +kernel
theorem dX6_init_9 : decode cX6_init 9 = .ok (.putfield 7, 3) := by decide +kernel
theorem dX6_init_12 : decode cX6_init 12 = .ok (.aload_n 0, 1) := by decide +kernel
theorem dX6_init_13 : decode cX6_init 13 = .ok (.bipush 8, 2) := by decide +kernel
theorem dX6_init_15 : decode cX6_init 15 = .ok (.newarray .int, 2) := by decide +kernel
theorem dX6_init_17 : decode cX6_init 17 = .ok (.putfield 13, 3) := by decide +kernel
theorem dX6_init_20 : decode cX6_init 20 = .ok (.aload_n 0, 1) := by decide +kernel
theorem dX6_init_21 : decode cX6_init 21 = .ok (.bipush 8, 2) := by decide +kernel
theorem dX6_init_23 : decode cX6_init 23 = .ok (.newarray .int, 2) := by decide +kernel
theorem dX6_init_25 : decode cX6_init 25 = .ok (.putfield 16, 3) := by decide +kernel
theorem dX6_init_28 : decode cX6_init 28 = .ok (.aload_n 0, 1) := by decide +kernel
theorem dX6_init_29 : decode cX6_init 29 = .ok (.bipush 8, 2) := by decide +kernel
theorem dX6_init_31 : decode cX6_init 31 = .ok (.newarray .int, 2) := by decide +kernel
theorem dX6_init_33 : decode cX6_init 33 = .ok (.putfield 19, 3) := by decide +kernel
theorem dX6_init_36 : decode cX6_init 36 = .ok (.aload_n 0, 1) := by decide +kernel
theorem dX6_init_37 : decode cX6_init 37 = .ok (.bipush 12, 2) := by decide +kernel
theorem dX6_init_39 : decode cX6_init 39 = .ok (.newarray .int, 2) := by decide +kernel
theorem dX6_init_41 : decode cX6_init 41 = .ok (.putfield 22, 3) := by decide +kernel
theorem dX6_init_44 : decode cX6_init 44 = .ok (.aload_n 0, 1) := by decide +kernel
theorem dX6_init_45 : decode cX6_init 45 = .ok (.bipush 12, 2) := by decide +kernel
theorem dX6_init_47 : decode cX6_init 47 = .ok (.newarray .int, 2) := by decide +kernel
theorem dX6_init_49 : decode cX6_init 49 = .ok (.putfield 25, 3) := by decide +kernel
theorem dX6_init_52 : decode cX6_init 52 = .ok (.aload_n 0, 1) := by decide +kernel
theorem dX6_init_53 : decode cX6_init 53 = .ok (.bipush 12, 2) := by decide +kernel
theorem dX6_init_55 : decode cX6_init 55 = .ok (.newarray .int, 2) := by decide +kernel
theorem dX6_init_57 : decode cX6_init 57 = .ok (.putfield 28, 3) := by decide +kernel
theorem dX6_init_60 : decode cX6_init 60 = .ok (.aload_n 0, 1) := by decide +kernel
theorem dX6_init_61 : decode cX6_init 61 = .ok (.bipush 12, 2) := by decide +kernel
theorem dX6_init_63 : decode cX6_init 63 = .ok (.newarray .int, 2) := by decide +kernel
theorem dX6_init_65 : decode cX6_init 65 = .ok (.putfield 31, 3) := by decide +kernel
theorem dX6_init_68 : decode cX6_init 68 = .ok (.aload_n 0, 1) := by decide +kernel
theorem dX6_init_69 : decode cX6_init 69 = .ok (.bipush 12, 2) := by decide +kernel
theorem dX6_init_71 : decode cX6_init 71 = .ok (.newarray .int, 2) := by decide +kernel
theorem dX6_init_73 : decode cX6_init 73 = .ok (.putfield 34, 3) := by decide +kernel
theorem dX6_init_76 : decode cX6_init 76 = .ok (.aload_n 0, 1) := by decide +kernel
theorem dX6_init_77 : decode cX6_init 77 = .ok (.bipush 12, 2) := by decide +kernel
theorem dX6_init_79 : decode cX6_init 79 = .ok (.newarray .int, 2) := by decide +kernel
theorem dX6_init_81 : decode cX6_init 81 = .ok (.putfield 37, 3) := by decide +kernel
theorem dX6_init_84 : decode cX6_init 84 = .ok (.aload_n 0, 1) := by decide +kernel
theorem dX6_init_85 : decode cX6_init 85 = .ok (.iconst 4, 1) := by decide +kernel
theorem dX6_init_86 : decode cX6_init 86 = .ok (.putfield 40, 3) := by decide +kernel
theorem dX6_init_89 : decode cX6_init 89 = .ok (.aload_n 0, 1) := by decide +kernel
theorem dX6_init_90 : decode cX6_init 90 = .ok (.bipush 80, 2) := by decide +kernel
theorem dX6_init_92 : decode cX6_init 92 = .ok (.newarray .int, 2) := by decide +kernel
theorem dX6_init_94 : decode cX6_init 94 = .ok (.putfield 44, 3) := by decide +kernel
theorem dX6_init_97 : decode cX6_init 97 = .ok (.aload_n 0, 1) := by decide +kernel
theorem dX6_init_98 : decode cX6_init 98 = .ok (.bipush 8, 2) := by decide +kernel
theorem dX6_init_100 : decode cX6_init 100 = .ok (.newarray .int, 2) := by decide +kernel
theorem dX6_init_102 : decode cX6_init 102 = .ok (.putfield 47, 3) := by decide +kernel
theorem dX6_init_105 : decode cX6_init 105 = .ok (.aload_n 0, 1) := by decide +kernel
theorem dX6_init_106 : decode cX6_init 106 = .ok (.bipush 8, 2) := by decide +kernel
theorem dX6_init_108 : decode cX6_init 108 = .ok (.newarray .int, 2) := by decide +kernel
theorem dX6_init_110 : decode cX6_init 110 = .ok (.putfield 50, 3) := by decide +kernel
theorem dX6_init_113 : decode cX6_init 113 = .ok (.aload_n 0, 1) := by decide +kernel
theorem dX6_init_114 : decode cX6_init 114 = .ok (.bipush 8, 2) := by decide +kernel
theorem dX6_init_116 : decode cX6_init 116 = .ok (.newarray .int, 2) := by decide +kernel
theorem dX6_init_118 : decode cX6_init 118 = .ok (.putfield 53, 3) := by decide +kernel
theorem dX6_init_121 : decode cX6_init 121 = .ok (.aload_n 0, 1) := by decide +kernel
theorem dX6_init_122 : decode cX6_init 122 = .ok (.iconst 2, 1) := by decide +kernel
theorem dX6_init_123 : decode cX6_init 123 = .ok (.newarray .int, 2) := by decide +kernel
theorem dX6_init_125 : decode cX6_init 125 = .ok (.putfield 56, 3) := by decide +kernel
theorem dX6_init_128 : decode cX6_init 128 = .ok (.aload_n 0, 1) := by decide +kernel
theorem dX6_init_129 : decode cX6_init 129 = .ok (.bipush 8, 2) := by decide +kernel
theorem dX6_init_131 : decode cX6_init 131 = .ok (.newarray .int, 2) := by decide +kernel
theorem dX6_init_133 : decode cX6_init 133 = .ok (.putfield 59, 3) := by decide +kernel
theorem dX6_init_136 : decode cX6_init 136 = .ok (.aload_n 0, 1) := by decide +kernel
theorem dX6_init_137 : decode cX6_init 137 = .ok (.bipush 8, 2) := by decide +kernel
theorem dX6_init_139 : decode cX6_init 139 = .ok (.newarray .int, 2) := by decide +kernel
theorem dX6_init_141 : decode cX6_init 141 = .ok (.putfield 62, 3) := by decide +kernel
theorem dX6_init_144 : decode cX6_init 144 = .ok (.aload_n 0, 1) := by decide +kernel
theorem dX6_init_145 : decode cX6_init 145 = .ok (.bipush 120, 2) := by decide +kernel
theorem dX6_init_147 : decode cX6_init 147 = .ok (.newarray .int, 2) := by decide +kernel
theorem dX6_init_149 : decode cX6_init 149 = .ok (.putfield 65, 3) := by decide +kernel
theorem dX6_init_152 : decode cX6_init 152 = .ok (.return_, 1) := by decide +kernel
theorem dX6_no_0 : decode cX6_no 0 = .ok (.aload_n 0, 1) := by decide +kernel
theorem dX6_no_1 : decode cX6_no 1 = .ok (.getfield 7, 3) := by decide +kernel
theorem dX6_no_4 : decode cX6_no 4 = .ok (.iload_n 1, 1) := by decide +kernel
theorem dX6_no_5 : decode cX6_no 5 = .ok (.ineg, 1) := by decide +kernel
theorem dX6_no_6 : decode cX6_no 6 = .ok (.dup2, 1) := by decide +kernel
theorem dX6_no_7 : decode cX6_no 7 = .ok (.iaload, 1) := by decide +kernel
theorem dX6_no_8 : decode cX6_no 8 = .ok (.iconst 1, 1) := by decide +kernel
theorem dX6_no_9 : decode cX6_no 9 = .ok (.iadd, 1) := by decide +kernel
theorem dX6_no_10 : decode cX6_no 10 = .ok (.iastore, 1) := by decide +kernel
theorem dX6_no_11 : decode cX6_no 11 = .ok (.iload_n 1, 1) := by decide +kernel
theorem dX6_no_12 : decode cX6_no 12 = .ok (.ireturn, 1) := by decide +kernel
theorem dX6_isIn_0 : decode cX6_isIn 0 = .ok (.iload_n 0, 1) := by decide +kernel
theorem dX6_isIn_1 : decode cX6_isIn 1 = .ok (.iload_n 1, 1) := by decide +kernel
theorem dX6_isIn_2 : decode cX6_isIn 2 = .ok (.if_icmp .lt 12, 3) := by decide +kernel
theorem dX6_isIn_5 : decode cX6_isIn 5 = .ok (.iload_n 0, 1) := by decide +kernel
theorem dX6_isIn_6 : decode cX6_isIn 6 = .ok (.iload_n 2, 1) := by decide +kernel
theorem dX6_isIn_7 : decode cX6_isIn 7 = .ok (.if_icmp .gt 7, 3) := by decide +kernel
theorem dX6_isIn_10 : decode cX6_isIn 10 = .ok (.iconst 1, 1) := by decide +kernel
theorem dX6_isIn_11 : decode cX6_isIn 11 = .ok (.goto 4, 3) := by decide +kernel
theorem dX6_isIn_14 : decode cX6_isIn 14 = .ok (.iconst 0, 1) := by decide +kernel
theorem dX6_isIn_15 : decode cX6_isIn 15 = .ok (.ireturn, 1) := by decide +kernel
theorem dX6_bound_0 : decode cX6_bound 0 = .ok (.iload_n 0, 1) := by decide +kernel
theorem dX6_bound_1 : decode cX6_bound 1 = .ok (.iload_n 1, 1) := by decide +kernel
theorem dX6_bound_2 : decode cX6_bound 2 = .ok (.if_icmp .ge 8, 3) := by decide +kernel
theorem dX6_bound_5 : decode cX6_bound 5 = .ok (.bipush (-4), 2) := by decide +kernel
theorem dX6_bound_7 : decode cX6_bound 7 = .ok (.goto 14, 3) := by decide +kernel
theorem dX6_bound_10 : decode cX6_bound 10 = .ok (.iload_n 0, 1) := by decide +kernel
theorem dX6_bound_11 : decode cX6_bound 11 = .ok (.iload_n 2, 1) := by decide +kernel
theorem dX6_bound_12 : decode cX6_bound 12 = .ok (.if_icmp .le 8, 3) := by decide +kernel
theorem dX6_bound_15 : decode cX6_bound 15 = .ok (.bipush (-6), 2) := by decide +kernel
theorem dX6_bound_17 : decode cX6_bound 17 = .ok (.goto 4, 3) := by decide +kernel
theorem dX6_bound_20 : decode cX6_bound 20 = .ok (.iconst 0, 1) := by decide +kernel
theorem dX6_bound_21 : decode cX6_bound 21 = .ok (.ireturn, 1) := by decide +kernel
theorem dX6_bits_0 : decode cX6_bits 0 = .ok (.iconst 0, 1) := by decide +kernel
theorem dX6_bits_1 : decode cX6_bits 1 = .ok (.istore_n 1, 1) := by decide +kernel
theorem dX6_bits_2 : decode cX6_bits 2 = .ok (.iconst 0, 1) := by decide +kernel
theorem dX6_bits_3 : decode cX6_bits 3 = .ok (.istore_n 2, 1) := by decide +kernel
theorem dX6_bits_4 : decode cX6_bits 4 = .ok (.iload_n 2, 1) := by decide +kernel
theorem dX6_bits_5 : decode cX6_bits 5 = .ok (.bipush 31, 2) := by decide +kernel
theorem dX6_bits_7 : decode cX6_bits 7 = .ok (.if_icmp .ge 17, 3) := by decide +kernel
theorem dX6_bits_10 : decode cX6_bits 10 = .ok (.iload_n 1, 1) := by decide +kernel
theorem dX6_bits_11 : decode cX6_bits 11 = .ok (.iload_n 0, 1) := by decide +kernel
theorem dX6_bits_12 : decode cX6_bits 12 = .ok (.iload_n 2, 1) := by decide +kernel
theorem dX6_bits_13 : decode cX6_bits 13 = .ok (.ishr, 1) := by decide +kernel
theorem dX6_bits_14 : decode cX6_bits 14 = .ok (.iconst 1, 1) := by decide +kernel
theorem dX6_bits_15 : decode cX6_bits 15 = .ok (.iand, 1) := by decide +kernel
theorem dX6_bits_16 : decode cX6_bits 16 = .ok (.iadd, 1) := by decide +kernel
theorem dX6_bits_17 : decode cX6_bits 17 = .ok (.istore_n 1, 1) := by decide +kernel
theorem dX6_bits_18 : decode cX6_bits 18 = .ok (.iinc 2 1, 3) := by decide +kernel
theorem dX6_bits_21 : decode cX6_bits 21 = .ok (.goto (-17), 3) := by decide +kernel
theorem dX6_bits_24 : decode cX6_bits 24 = .ok (.iload_n 1, 1) := by decide +kernel
theorem dX6_bits_25 : decode cX6_bits 25 = .ok (.ireturn, 1) := by decide +kernel
theorem dX6_all_0 : decode cX6_all 0 = .ok (.iconst 1, 1) := by decide +kernel
theorem dX6_all_1 : decode cX6_all 1 = .ok (.aload_n 0, 1) := by decide +kernel
theorem dX6_all_2 : decode cX6_all 2 = .ok (.getfield 40, 3) := by decide +kernel
theorem dX6_all_5 : decode cX6_all 5 = .ok (.ishl, 1) := by decide +kernel
theorem dX6_all_6 : decode cX6_all 6 = .ok (.iconst 1, 1) := by decide +kernel
theorem dX6_all_7 : decode cX6_all 7 = .ok (.isub, 1) := by decide +kernel
theorem dX6_all_8 : decode cX6_all 8 = .ok (.ireturn, 1) := by decide +kernel
set_option maxRecDepth 20000 in
theorem ggX6_isSet_X6_all : GoodIn wsX6_isSet wsX6_all := goodIn_r _ [5, 6, 7, 8, 9, 10, 11, 12, 13, 14, 15, 16, 17, 18, 19, 20, 21, 22, 23, 24, 25, 26, 27, 28, 29, 30, 31, 32, 33, 34, 35, 36, 37] (by decide +kernel) (by decide +kernel)
set_option maxRecDepth 20000 in
theorem gX6_isSet_X6_all : GoodIn wsX6_isSet (wsV RX6 68 RX6 yX6_all wsX6_all) := goodIn_app (goodIn_of _ (by decide +kernel)) ggX6_isSet_X6_all
theorem dX6_isSet_0 : decode cX6_isSet 0 = .ok (.iload_n 1, 1) := by decide +kernel
theorem dX6_isSet_1 : decode cX6_isSet 1 = .ok (.ifCond .lt 18, 3) := by decide +kernel
theorem dX6_isSet_4 : decode cX6_isSet 4 = .ok (.iload_n 1, 1) := by decide +kernel
theorem dX6_isSet_5 : decode cX6_isSet 5 = .ok (.aload_n 0, 1) := by decide +kernel
theorem dX6_isSet_6 : decode cX6_isSet 6 = .ok (.invokevirtual 68, 3) := by decide +kernel
theorem dX6_isSet_9 : decode cX6_isSet 9 = .ok (.iconst (-1), 1) := by decide +kernel
theorem dX6_isSet_10 : decode cX6_isSet 10 = .ok (.ixor, 1) := by decide +kernel
theorem dX6_isSet_11 : decode cX6_isSet 11 = .ok (.iand, 1) := by decide +kernel
theorem dX6_isSet_12 : decode cX6_isSet 12 = .ok (.ifCond .ne 7, 3) := by decide +kernel
theorem dX6_isSet_15 : decode cX6_isSet 15 = .ok (.iconst 1, 1) := by decide +kernel
theorem dX6_isSet_16 : decode cX6_isSet 16 = .ok (.goto 4, 3) := by decide +kernel
theorem dX6_isSet_19 : decode cX6_isSet 19 = .ok (.iconst 0, 1) := by decide +kernel
theorem dX6_isSet_20 : decode cX6_isSet 20 = .ok (.ireturn, 1) := by decide +kernel
theorem dX6_isHand_0 : decode cX6_isHand 0 = .ok (.iload_n 1, 1) := by decide +kernel
theorem dX6_isHand_1 : decode cX6_isHand 1 = .ok (.ifCond .lt 15, 3) := by decide +kernel
theorem dX6_isHand_4 : decode cX6_isHand 4 = .ok (.iload_n 1, 1) := by decide +kernel
theorem dX6_isHand_5 : decode cX6_isHand 5 = .ok (.aload_n 0, 1) := by decide +kernel
theorem dX6_isHand_6 : decode cX6_isHand 6 = .ok (.getfield 72, 3) := by decide +kernel
theorem dX6_isHand_9 : decode cX6_isHand 9 = .ok (.if_icmp .ge 7, 3) := by decide +kernel
theorem dX6_isHand_12 : decode cX6_isHand 12 = .ok (.iconst 1, 1) := by decide +kernel
theorem dX6_isHand_13 : decode cX6_isHand 13 = .ok (.goto 4, 3) := by decide +kernel
theorem dX6_isHand_16 : decode cX6_isHand 16 = .ok (.iconst 0, 1) := by decide +kernel
theorem dX6_isHand_17 : decode cX6_isHand 17 = .ok (.ireturn, 1) := by decide +kernel
theorem dX6_isStep_0 : decode cX6_isStep 0 = .ok (.iload_n 1, 1) := by decide +kernel
theorem dX6_isStep_1 : decode cX6_isStep 1 = .ok (.ifCond .lt 15, 3) := by decide +kernel
theorem dX6_isStep_4 : decode cX6_isStep 4 = .ok (.iload_n 1, 1) := by decide +kernel
theorem dX6_isStep_5 : decode cX6_isStep 5 = .ok (.aload_n 0, 1) := by decide +kernel
theorem dX6_isStep_6 : decode cX6_isStep 6 = .ok (.getfield 40, 3) := by decide +kernel
theorem dX6_isStep_9 : decode cX6_isStep 9 = .ok (.if_icmp .ge 7, 3) := by decide +kernel
theorem dX6_isStep_12 : decode cX6_isStep 12 = .ok (.iconst 1, 1) := by decide +kernel
theorem dX6_isStep_13 : decode cX6_isStep 13 = .ok (.goto 4, 3) := by decide +kernel
theorem dX6_isStep_16 : decode cX6_isStep 16 = .ok (.iconst 0, 1) := by decide +kernel
theorem dX6_isStep_17 : decode cX6_isStep 17 = .ok (.ireturn, 1) := by decide +kernel
set_option maxRecDepth 20000 in
theorem ggX6_steps_X6_bound : GoodIn wsX6_steps wsX6_bound := goodIn_r _ [11] (by decide +kernel) (by decide +kernel)
set_option maxRecDepth 20000 in
theorem gX6_steps_X6_bound : GoodIn wsX6_steps (va_wsS RX6 75 yX6_bound wsX6_bound) := goodIn_app (goodIn_of _ (by decide +kernel)) ggX6_steps_X6_bound
set_option maxRecDepth 20000 in
theorem ggX6_steps_X6_no : GoodIn wsX6_steps wsX6_no := goodIn_r _ [15, 16, 29, 30, 31, 32, 33, 34, 35, 36, 37, 38, 39, 40, 41, 42, 43, 44, 45, 46, 47, 48, 49, 50, 51, 52, 53, 54, 55, 56, 57, 58, 59] (by decide +kernel) (by decide +kernel)
set_option maxRecDepth 20000 in
theorem gX6_steps_X6_no : GoodIn wsX6_steps (wsV RX6 79 RX6 yX6_no wsX6_no) := goodIn_app (goodIn_of _ (by decide +kernel)) ggX6_steps_X6_no
set_option maxRecDepth 20000 in
theorem ggX6_steps_X6_all : GoodIn wsX6_steps wsX6_all := goodIn_r _ [20, 1, 29, 30, 31, 32, 33, 34, 35, 36, 37, 38, 39, 40, 41, 42, 43, 44, 45, 46, 47, 48, 49, 50, 51, 52, 53, 54, 55, 56, 57, 58, 59] (by decide +kernel) (by decide +kernel)
set_option maxRecDepth 20000 in
theorem gX6_steps_X6_all : GoodIn wsX6_steps (wsV RX6 68 RX6 yX6_all wsX6_all) := goodIn_app (goodIn_of _ (by decide +kernel)) ggX6_steps_X6_all
set_option maxRecDepth 20000 in
theorem ggX6_steps_X6_isSet : GoodIn wsX6_steps wsX6_isSet := goodIn_r _ [24, 17, 18, 19, 10, 20, 1, 29, 30, 31, 32, 33, 34, 35, 36, 37, 38, 39, 40, 41, 42, 43, 44, 45, 46, 47, 48, 49, 50, 51, 52, 53, 54, 55, 56, 57, 58, 59] (by decide +kernel) (by decide +kernel)
set_option maxRecDepth 20000 in
theorem gX6_steps_X6_isSet : GoodIn wsX6_steps (wsV RX6 89 RX6 yX6_isSet wsX6_isSet) := goodIn_app (goodIn_of _ (by decide +kernel)) ggX6_steps_X6_isSet
set_option maxRecDepth 20000 in
theorem ggX6_steps_X6_isStep : GoodIn wsX6_steps wsX6_isStep := goodIn_r _ [28, 1, 29, 30, 31, 32, 33, 34, 35, 36, 37, 38, 39, 40, 41, 42, 43, 44, 45, 46, 47, 48, 49, 50, 51, 52, 53, 54, 55, 56, 57, 58, 59] (by decide +kernel) (by decide +kernel)
set_option maxRecDepth 20000 in
theorem gX6_steps_X6_isStep : GoodIn wsX6_steps (wsV RX6 93 RX6 yX6_isStep wsX6_isStep) := goodIn_app (goodIn_of _ (by decide +kernel)) ggX6_steps_X6_isStep
theorem dX6_steps_0 : decode cX6_steps 0 = .ok (.iload_n 1, 1) := by decide +kernel
theorem dX6_steps_1 : decode cX6_steps 1 = .ok (.iconst 1, 1) := by decide +kernel
theorem dX6_steps_2 : decode cX6_steps 2 = .ok (.bipush 10, 2) := by decide +kernel
theorem dX6_steps_4 : decode cX6_steps 4 = .ok (.invokestatic 75, 3) := by decide +kernel
theorem dX6_steps_7 : decode cX6_steps 7 = .ok (.istore_n 2, 1) := by decide +kernel
theorem dX6_steps_8 : decode cX6_steps 8 = .ok (.iload_n 2, 1) := by decide +kernel
theorem dX6_steps_9 : decode cX6_steps 9 = .ok (.ifCond .eq 9, 3) := by decide +kernel
theorem dX6_steps_12 : decode cX6_steps 12 = .ok (.aload_n 0, 1) := by decide +kernel
theorem dX6_steps_13 : decode cX6_steps 13 = .ok (.iload_n 2, 1) := by decide +kernel
theorem dX6_steps_14 : decode cX6_steps 14 = .ok (.invokevirtual 79, 3) := by decide +kernel
theorem dX6_steps_17 : decode cX6_steps 17 = .ok (.ireturn, 1) := by decide +kernel
theorem dX6_steps_18 : decode cX6_steps 18 = .ok (.aload_n 0, 1) := by decide +kernel
theorem dX6_steps_19 : decode cX6_steps 19 = .ok (.getfield 40, 3) := by decide +kernel
theorem dX6_steps_22 : decode cX6_steps 22 = .ok (.istore_n 3, 1) := by decide +kernel
theorem dX6_steps_23 : decode cX6_steps 23 = .ok (.aload_n 0, 1) := by decide +kernel
theorem dX6_steps_24 : decode cX6_steps 24 = .ok (.iload_n 1, 1) := by decide +kernel
theorem dX6_steps_25 : decode cX6_steps 25 = .ok (.putfield 40, 3) := by decide +kernel
theorem dX6_steps_28 : decode cX6_steps 28 = .ok (.iconst 0, 1) := by decide +kernel
theorem dX6_steps_29 : decode cX6_steps 29 = .ok (.istore 4, 2) := by decide +kernel
theorem dX6_steps_31 : decode cX6_steps 31 = .ok (.iload 4, 2) := by decide +kernel
theorem dX6_steps_33 : decode cX6_steps 33 = .ok (.aload_n 0, 1) := by decide +kernel
theorem dX6_steps_34 : decode cX6_steps 34 = .ok (.getfield 72, 3) := by decide +kernel
theorem dX6_steps_37 : decode cX6_steps 37 = .ok (.if_icmp .ge 23, 3) := by decide +kernel
theorem dX6_steps_40 : decode cX6_steps 40 = .ok (.aload_n 0, 1) := by decide +kernel
theorem dX6_steps_41 : decode cX6_steps 41 = .ok (.getfield 13, 3) := by decide +kernel
theorem dX6_steps_44 : decode cX6_steps 44 = .ok (.iload 4, 2) := by decide +kernel
theorem dX6_steps_46 : decode cX6_steps 46 = .ok (.dup2, 1) := by decide +kernel
theorem dX6_steps_47 : decode cX6_steps 47 = .ok (.iaload, 1) := by decide +kernel
theorem dX6_steps_48 : decode cX6_steps 48 = .ok (.aload_n 0, 1) := by decide +kernel
theorem dX6_steps_49 : decode cX6_steps 49 = .ok (.invokevirtual 68, 3) := by decide +kernel
theorem dX6_steps_52 : decode cX6_steps 52 = .ok (.iand, 1) := by decide +kernel
theorem dX6_steps_53 : decode cX6_steps 53 = .ok (.iastore, 1) := by decide +kernel
theorem dX6_steps_54 : decode cX6_steps 54 = .ok (.iinc 4 1, 3) := by decide +kernel
theorem dX6_steps_57 : decode cX6_steps 57 = .ok (.goto (-26), 3) := by decide +kernel
theorem dX6_steps_60 : decode cX6_steps 60 = .ok (.aload_n 0, 1) := by decide +kernel
theorem dX6_steps_61 : decode cX6_steps 61 = .ok (.dup, 1) := by decide +kernel
theorem dX6_steps_62 : decode cX6_steps 62 = .ok (.getfield 83, 3) := by decide +kernel
theorem dX6_steps_65 : decode cX6_steps 65 = .ok (.aload_n 0, 1) := by decide +kernel
theorem dX6_steps_66 : decode cX6_steps 66 = .ok (.invokevirtual 68, 3) := by decide +kernel
theorem dX6_steps_69 : decode cX6_steps 69 = .ok (.iand, 1) := by decide +kernel
theorem dX6_steps_70 : decode cX6_steps 70 = .ok (.putfield 83, 3) := by decide +kernel
theorem dX6_steps_73 : decode cX6_steps 73 = .ok (.iconst 0, 1) := by decide +kernel
theorem dX6_steps_74 : decode cX6_steps 74 = .ok (.istore 4, 2) := by decide +kernel
theorem dX6_steps_76 : decode cX6_steps 76 = .ok (.iconst 0, 1) := by decide +kernel
theorem dX6_steps_77 : decode cX6_steps 77 = .ok (.istore 5, 2) := by decide +kernel
theorem dX6_steps_79 : decode cX6_steps 79 = .ok (.iload 5, 2) := by decide +kernel
theorem dX6_steps_81 : decode cX6_steps 81 = .ok (.aload_n 0, 1) := by decide +kernel
theorem dX6_steps_82 : decode cX6_steps 82 = .ok (.getfield 86, 3) := by decide +kernel
theorem dX6_steps_85 : decode cX6_steps 85 = .ok (.if_icmp .ge 71, 3) := by decide +kernel
theorem dX6_steps_88 : decode cX6_steps 88 = .ok (.aload_n 0, 1) := by decide +kernel
theorem dX6_steps_89 : decode cX6_steps 89 = .ok (.aload_n 0, 1) := by decide +kernel
theorem dX6_steps_90 : decode cX6_steps 90 = .ok (.getfield 34, 3) := by decide +kernel
theorem dX6_steps_93 : decode cX6_steps 93 = .ok (.iload 5, 2) := by decide +kernel
theorem dX6_steps_95 : decode cX6_steps 95 = .ok (.iaload, 1) := by decide +kernel
theorem dX6_steps_96 : decode cX6_steps 96 = .ok (.invokevirtual 89, 3) := by decide +kernel
theorem dX6_steps_99 : decode cX6_steps 99 = .ok (.ifCond .eq 51, 3) := by decide +kernel
theorem dX6_steps_102 : decode cX6_steps 102 = .ok (.aload_n 0, 1) := by decide +kernel
theorem dX6_steps_103 : decode cX6_steps 103 = .ok (.aload_n 0, 1) := by decide +kernel
theorem dX6_steps_104 : decode cX6_steps 104 = .ok (.getfield 37, 3) := by decide +kernel
theorem dX6_steps_107 : decode cX6_steps 107 = .ok (.iload 5, 2) := by decide +kernel
theorem dX6_steps_109 : decode cX6_steps 109 = .ok (.iaload, 1) := by decide +kernel
theorem dX6_steps_110 : decode cX6_steps 110 = .ok (.invokevirtual 93, 3) := by decide +kernel
theorem dX6_steps_113 : decode cX6_steps 113 = .ok (.ifCond .ne 6, 3) := by decide +kernel
theorem dX6_steps_116 : decode cX6_steps 116 = .ok (.goto 34, 3) := by decide +kernel
theorem dX6_steps_119 : decode cX6_steps 119 = .ok (.aload_n 0, 1) := by decide +kernel
theorem dX6_steps_120 : decode cX6_steps 120 = .ok (.getfield 34, 3) := by decide +kernel
theorem dX6_steps_123 : decode cX6_steps 123 = .ok (.iload 4, 2) := by decide +kernel
theorem dX6_steps_125 : decode cX6_steps 125 = .ok (.aload_n 0, 1) := by decide +kernel
theorem dX6_steps_126 : decode cX6_steps 126 = .ok (.getfield 34, 3) := by decide +kernel
theorem dX6_steps_129 : decode cX6_steps 129 = .ok (.iload 5, 2) := by decide +kernel
theorem dX6_steps_131 : decode cX6_steps 131 = .ok (.iaload, 1) := by decide +kernel
theorem dX6_steps_132 : decode cX6_steps 132 = .ok (.iastore, 1) := by decide +kernel
theorem dX6_steps_133 : decode cX6_steps 133 = .ok (.aload_n 0, 1) := by decide +kernel
theorem dX6_steps_134 : decode cX6_steps 134 = .ok (.getfield 37, 3) := by decide +kernel
theorem dX6_steps_137 : decode cX6_steps 137 = .ok (.iload 4, 2) := by decide +kernel
theorem dX6_steps_139 : decode cX6_steps 139 = .ok (.aload_n 0, 1) := by decide +kernel
theorem dX6_steps_140 : decode cX6_steps 140 = .ok (.getfield 37, 3) := by decide +kernel
theorem dX6_steps_143 : decode cX6_steps 143 = .ok (.iload 5, 2) := by decide +kernel
theorem dX6_steps_145 : decode cX6_steps 145 = .ok (.iaload, 1) := by decide +kernel
theorem dX6_steps_146 : decode cX6_steps 146 = .ok (.iastore, 1) := by decide +kernel
theorem dX6_steps_147 : decode cX6_steps 147 = .ok (.iinc 4 1, 3) := by decide +kernel
theorem dX6_steps_150 : decode cX6_steps 150 = .ok (.iinc 5 1, 3) := by decide +kernel
theorem dX6_steps_153 : decode cX6_steps 153 = .ok (.goto (-74), 3) := by decide +kernel
theorem dX6_steps_156 : decode cX6_steps 156 = .ok (.aload_n 0, 1) := by decide +kernel
theorem dX6_steps_157 : decode cX6_steps 157 = .ok (.iload 4, 2) := by decide +kernel
theorem dX6_steps_159 : decode cX6_steps 159 = .ok (.putfield 86, 3) := by decide +kernel
theorem dX6_steps_162 : decode cX6_steps 162 = .ok (.iload_n 3, 1) := by decide +kernel
theorem dX6_steps_163 : decode cX6_steps 163 = .ok (.ireturn, 1) := by decide +kernel
theorem dX6_comesHand_0 : decode cX6_comesHand 0 = .ok (.aload_n 0, 1) := by decide +kernel
theorem dX6_comesHand_1 : decode cX6_comesHand 1 = .ok (.getfield 13, 3) := by decide +kernel
theorem dX6_comesHand_4 : decode cX6_comesHand 4 = .ok (.aload_n 0, 1) := by decide +kernel
theorem dX6_comesHand_5 : decode cX6_comesHand 5 = .ok (.getfield 72, 3) := by decide +kernel
theorem dX6_comesHand_8 : decode cX6_comesHand 8 = .ok (.iload_n 1, 1) := by decide +kernel
theorem dX6_comesHand_9 : decode cX6_comesHand 9 = .ok (.iastore, 1) := by decide +kernel
theorem dX6_comesHand_10 : decode cX6_comesHand 10 = .ok (.aload_n 0, 1) := by decide +kernel
theorem dX6_comesHand_11 : decode cX6_comesHand 11 = .ok (.getfield 16, 3) := by decide +kernel
theorem dX6_comesHand_14 : decode cX6_comesHand 14 = .ok (.aload_n 0, 1) := by decide +kernel
theorem dX6_comesHand_15 : decode cX6_comesHand 15 = .ok (.getfield 72, 3) := by decide +kernel
theorem dX6_comesHand_18 : decode cX6_comesHand 18 = .ok (.iconst 5, 1) := by decide +kernel
theorem dX6_comesHand_19 : decode cX6_comesHand 19 = .ok (.iastore, 1) := by decide +kernel
theorem dX6_comesHand_20 : decode cX6_comesHand 20 = .ok (.aload_n 0, 1) := by decide +kernel
theorem dX6_comesHand_21 : decode cX6_comesHand 21 = .ok (.getfield 19, 3) := by decide +kernel
theorem dX6_comesHand_24 : decode cX6_comesHand 24 = .ok (.aload_n 0, 1) := by decide +kernel
theorem dX6_comesHand_25 : decode cX6_comesHand 25 = .ok (.getfield 72, 3) := by decide +kernel
theorem dX6_comesHand_28 : decode cX6_comesHand 28 = .ok (.iconst 0, 1) := by decide +kernel
theorem dX6_comesHand_29 : decode cX6_comesHand 29 = .ok (.iastore, 1) := by decide +kernel
theorem dX6_comesHand_30 : decode cX6_comesHand 30 = .ok (.aload_n 0, 1) := by decide +kernel
theorem dX6_comesHand_31 : decode cX6_comesHand 31 = .ok (.dup, 1) := by decide +kernel
theorem dX6_comesHand_32 : decode cX6_comesHand 32 = .ok (.getfield 72, 3) := by decide +kernel
theorem dX6_comesHand_35 : decode cX6_comesHand 35 = .ok (.iconst 1, 1) := by decide +kernel
theorem dX6_comesHand_36 : decode cX6_comesHand 36 = .ok (.iadd, 1) := by decide +kernel
theorem dX6_comesHand_37 : decode cX6_comesHand 37 = .ok (.putfield 72, 3) := by decide +kernel
theorem dX6_comesHand_40 : decode cX6_comesHand 40 = .ok (.aload_n 0, 1) := by decide +kernel
theorem dX6_comesHand_41 : decode cX6_comesHand 41 = .ok (.getfield 72, 3) := by decide +kernel
theorem dX6_comesHand_44 : decode cX6_comesHand 44 = .ok (.iconst 1, 1) := by decide +kernel
theorem dX6_comesHand_45 : decode cX6_comesHand 45 = .ok (.isub, 1) := by decide +kernel
theorem dX6_comesHand_46 : decode cX6_comesHand 46 = .ok (.ireturn, 1) := by decide +kernel
set_option maxRecDepth 20000 in
theorem ggX6_hand_X6_isSet : GoodIn wsX6_hand wsX6_isSet := goodIn_r _ [6, 7, 8, 9, 5, 10, 11, 24, 25, 26, 27, 28, 29, 30, 31, 32, 33, 34, 35, 36, 37, 38, 39, 40, 41, 42, 43, 44, 45, 46, 47, 48, 49, 50, 51, 52, 53, 54] (by decide +kernel) (by decide +kernel)
set_option maxRecDepth 20000 in
theorem gX6_hand_X6_isSet : GoodIn wsX6_hand (wsV RX6 89 RX6 yX6_isSet wsX6_isSet) := goodIn_app (goodIn_of _ (by decide +kernel)) ggX6_hand_X6_isSet
set_option maxRecDepth 20000 in
theorem ggX6_hand_X6_no : GoodIn wsX6_hand wsX6_no := goodIn_r _ [15, 16, 24, 25, 26, 27, 28, 29, 30, 31, 32, 33, 34, 35, 36, 37, 38, 39, 40, 41, 42, 43, 44, 45, 46, 47, 48, 49, 50, 51, 52, 53, 54] (by decide +kernel) (by decide +kernel)
set_option maxRecDepth 20000 in
theorem gX6_hand_X6_no : GoodIn wsX6_hand (wsV RX6 79 RX6 yX6_no wsX6_no) := goodIn_app (goodIn_of _ (by decide +kernel)) ggX6_hand_X6_no
set_option maxRecDepth 20000 in
theorem ggX6_hand_X6_comesHand : GoodIn wsX6_hand wsX6_comesHand := goodIn_r _ [20, 21, 1, 22, 23, 24, 25, 26, 27, 28, 29, 30, 31, 32, 33, 34, 35, 36, 37, 38, 39, 40, 41, 42, 43, 44, 45, 46, 47, 48, 49, 50, 51, 52, 53, 54] (by decide +kernel) (by decide +kernel)
set_option maxRecDepth 20000 in
theorem gX6_hand_X6_comesHand : GoodIn wsX6_hand (wsV RX6 96 RX6 yX6_comesHand wsX6_comesHand) := goodIn_app (goodIn_of _ (by decide +kernel)) ggX6_hand_X6_comesHand
theorem dX6_hand_0 : decode cX6_hand 0 = .ok (.aload_n 0, 1) := by decide +kernel
theorem dX6_hand_1 : decode cX6_hand 1 = .ok (.iload_n 1, 1) := by decide +kernel
theorem dX6_hand_2 : decode cX6_hand 2 = .ok (.invokevirtual 89, 3) := by decide +kernel
theorem dX6_hand_5 : decode cX6_hand 5 = .ok (.ifCond .ne 9, 3) := by decide +kernel
theorem dX6_hand_8 : decode cX6_hand 8 = .ok (.aload_n 0, 1) := by decide +kernel
theorem dX6_hand_9 : decode cX6_hand 9 = .ok (.iconst (-1), 1) := by decide +kernel
theorem dX6_hand_10 : decode cX6_hand 10 = .ok (.invokevirtual 79, 3) := by decide +kernel
theorem dX6_hand_13 : decode cX6_hand 13 = .ok (.ireturn, 1) := by decide +kernel
theorem dX6_hand_14 : decode cX6_hand 14 = .ok (.aload_n 0, 1) := by decide +kernel
theorem dX6_hand_15 : decode cX6_hand 15 = .ok (.getfield 72, 3) := by decide +kernel
theorem dX6_hand_18 : decode cX6_hand 18 = .ok (.bipush 8, 2) := by decide +kernel
theorem dX6_hand_20 : decode cX6_hand 20 = .ok (.if_icmp .ne 10, 3) := by decide +kernel
theorem dX6_hand_23 : decode cX6_hand 23 = .ok (.aload_n 0, 1) := by decide +kernel
theorem dX6_hand_24 : decode cX6_hand 24 = .ok (.bipush (-6), 2) := by decide +kernel
theorem dX6_hand_26 : decode cX6_hand 26 = .ok (.invokevirtual 79, 3) := by decide +kernel
theorem dX6_hand_29 : decode cX6_hand 29 = .ok (.ireturn, 1) := by decide +kernel
theorem dX6_hand_30 : decode cX6_hand 30 = .ok (.aload_n 0, 1) := by decide +kernel
theorem dX6_hand_31 : decode cX6_hand 31 = .ok (.iload_n 1, 1) := by decide +kernel
theorem dX6_hand_32 : decode cX6_hand 32 = .ok (.invokevirtual 96, 3) := by decide +kernel
theorem dX6_hand_35 : decode cX6_hand 35 = .ok (.ireturn, 1) := by decide +kernel
set_option maxRecDepth 20000 in
theorem ggX6_tell_X6_isHand : GoodIn wsX6_tell wsX6_isHand := goodIn_r _ [6, 7, 18, 19, 20, 21, 22, 23, 24, 25, 26, 27, 28, 29, 30, 31, 32, 33, 34, 35, 36, 37, 38, 39, 40, 41, 42, 43, 44, 45, 46, 47, 48] (by decide +kernel) (by decide +kernel)
set_option maxRecDepth 20000 in
theorem gX6_tell_X6_isHand : GoodIn wsX6_tell (wsV RX6 99 RX6 yX6_isHand wsX6_isHand) := goodIn_app (goodIn_of _ (by decide +kernel)) ggX6_tell_X6_isHand
set_option maxRecDepth 20000 in
theorem ggX6_tell_X6_isStep : GoodIn wsX6_tell wsX6_isStep := goodIn_r _ [11, 12, 18, 19, 20, 21, 22, 23, 24, 25, 26, 27, 28, 29, 30, 31, 32, 33, 34, 35, 36, 37, 38, 39, 40, 41, 42, 43, 44, 45, 46, 47, 48] (by decide +kernel) (by decide +kernel)
set_option maxRecDepth 20000 in
theorem gX6_tell_X6_isStep : GoodIn wsX6_tell (wsV RX6 93 RX6 yX6_isStep wsX6_isStep) := goodIn_app (goodIn_of _ (by decide +kernel)) ggX6_tell_X6_isStep
set_option maxRecDepth 20000 in
theorem ggX6_tell_X6_no : GoodIn wsX6_tell wsX6_no := goodIn_r _ [16, 17, 18, 19, 20, 21, 22, 23, 24, 25, 26, 27, 28, 29, 30, 31, 32, 33, 34, 35, 36, 37, 38, 39, 40, 41, 42, 43, 44, 45, 46, 47, 48] (by decide +kernel) (by decide +kernel)
set_option maxRecDepth 20000 in
theorem gX6_tell_X6_no : GoodIn wsX6_tell (wsV RX6 79 RX6 yX6_no wsX6_no) := goodIn_app (goodIn_of _ (by decide +kernel)) ggX6_tell_X6_no
theorem dX6_tell_0 : decode cX6_tell 0 = .ok (.aload_n 0, 1) := by decide +kernel
theorem dX6_tell_1 : decode cX6_tell 1 = .ok (.iload_n 1, 1) := by decide +kernel
theorem dX6_tell_2 : decode cX6_tell 2 = .ok (.invokevirtual 99, 3) := by decide +kernel
theorem dX6_tell_5 : decode cX6_tell 5 = .ok (.ifCond .eq 11, 3) := by decide +kernel
theorem dX6_tell_8 : decode cX6_tell 8 = .ok (.aload_n 0, 1) := by decide +kernel
theorem dX6_tell_9 : decode cX6_tell 9 = .ok (.iload_n 2, 1) := by decide +kernel
theorem dX6_tell_10 : decode cX6_tell 10 = .ok (.invokevirtual 93, 3) := by decide +kernel
theorem dX6_tell_13 : decode cX6_tell 13 = .ok (.ifCond .ne 9, 3) := by decide +kernel
theorem dX6_tell_16 : decode cX6_tell 16 = .ok (.aload_n 0, 1) := by decide +kernel
theorem dX6_tell_17 : decode cX6_tell 17 = .ok (.iconst (-1), 1) := by decide +kernel
theorem dX6_tell_18 : decode cX6_tell 18 = .ok (.invokevirtual 79, 3) := by decide +kernel
theorem dX6_tell_21 : decode cX6_tell 21 = .ok (.ireturn, 1) := by decide +kernel
theorem dX6_tell_22 : decode cX6_tell 22 = .ok (.aload_n 0, 1) := by decide +kernel
theorem dX6_tell_23 : decode cX6_tell 23 = .ok (.getfield 13, 3) := by decide +kernel
theorem dX6_tell_26 : decode cX6_tell 26 = .ok (.iload_n 1, 1) := by decide +kernel
theorem dX6_tell_27 : decode cX6_tell 27 = .ok (.iaload, 1) := by decide +kernel
theorem dX6_tell_28 : decode cX6_tell 28 = .ok (.iload_n 2, 1) := by decide +kernel
theorem dX6_tell_29 : decode cX6_tell 29 = .ok (.ishr, 1) := by decide +kernel
theorem dX6_tell_30 : decode cX6_tell 30 = .ok (.iconst 1, 1) := by decide +kernel
theorem dX6_tell_31 : decode cX6_tell 31 = .ok (.iand, 1) := by decide +kernel
theorem dX6_tell_32 : decode cX6_tell 32 = .ok (.iconst 1, 1) := by decide +kernel
theorem dX6_tell_33 : decode cX6_tell 33 = .ok (.if_icmp .ne 7, 3) := by decide +kernel
theorem dX6_tell_36 : decode cX6_tell 36 = .ok (.iconst 1, 1) := by decide +kernel
theorem dX6_tell_37 : decode cX6_tell 37 = .ok (.goto 4, 3) := by decide +kernel
theorem dX6_tell_40 : decode cX6_tell 40 = .ok (.iconst 0, 1) := by decide +kernel
theorem dX6_tell_41 : decode cX6_tell 41 = .ok (.iload_n 3, 1) := by decide +kernel
theorem dX6_tell_42 : decode cX6_tell 42 = .ok (.if_icmp .ne 5, 3) := by decide +kernel
theorem dX6_tell_45 : decode cX6_tell 45 = .ok (.iconst 0, 1) := by decide +kernel
theorem dX6_tell_46 : decode cX6_tell 46 = .ok (.ireturn, 1) := by decide +kernel
theorem dX6_tell_47 : decode cX6_tell 47 = .ok (.aload_n 0, 1) := by decide +kernel
theorem dX6_tell_48 : decode cX6_tell 48 = .ok (.getfield 13, 3) := by decide +kernel
theorem dX6_tell_51 : decode cX6_tell 51 = .ok (.iload_n 1, 1) := by decide +kernel
theorem dX6_tell_52 : decode cX6_tell 52 = .ok (.dup2, 1) := by decide +kernel
theorem dX6_tell_53 : decode cX6_tell 53 = .ok (.iaload, 1) := by decide +kernel
theorem dX6_tell_54 : decode cX6_tell 54 = .ok (.iconst 1, 1) := by decide +kernel
theorem dX6_tell_55 : decode cX6_tell 55 = .ok (.iload_n 2, 1) := by decide +kernel
theorem dX6_tell_56 : decode cX6_tell 56 = .ok (.ishl, 1) := by decide +kernel
theorem dX6_tell_57 : decode cX6_tell 57 = .ok (.ixor, 1) := by decide +kernel
theorem dX6_tell_58 : decode cX6_tell 58 = .ok (.iastore, 1) := by decide +kernel
theorem dX6_tell_59 : decode cX6_tell 59 = .ok (.iconst 1, 1) := by decide +kernel
theorem dX6_tell_60 : decode cX6_tell 60 = .ok (.ireturn, 1) := by decide +kernel
set_option maxRecDepth 20000 in
theorem ggX6_chance_X6_isHand : GoodIn wsX6_chance wsX6_isHand := goodIn_r _ [6, 7, 16, 17, 18, 19, 20, 21, 22, 23, 24, 25, 26, 27, 28, 29, 30, 31, 32, 33, 34, 35, 36, 37, 38, 39, 40, 41, 42, 43, 44, 45, 46] (by decide +kernel) (by decide +kernel)
set_option maxRecDepth 20000 in
theorem gX6_chance_X6_isHand : GoodIn wsX6_chance (wsV RX6 99 RX6 yX6_isHand wsX6_isHand) := goodIn_app (goodIn_of _ (by decide +kernel)) ggX6_chance_X6_isHand
set_option maxRecDepth 20000 in
theorem ggX6_chance_X6_no : GoodIn wsX6_chance wsX6_no := goodIn_r _ [11, 12, 16, 17, 18, 19, 20, 21, 22, 23, 24, 25, 26, 27, 28, 29, 30, 31, 32, 33, 34, 35, 36, 37, 38, 39, 40, 41, 42, 43, 44, 45, 46] (by decide +kernel) (by decide +kernel)
set_option maxRecDepth 20000 in
theorem gX6_chance_X6_no : GoodIn wsX6_chance (wsV RX6 79 RX6 yX6_no wsX6_no) := goodIn_app (goodIn_of _ (by decide +kernel)) ggX6_chance_X6_no
set_option maxRecDepth 20000 in
theorem ggX6_chance_X6_bound : GoodIn wsX6_chance wsX6_bound := goodIn_r _ [15] (by decide +kernel) (by decide +kernel)
set_option maxRecDepth 20000 in
theorem gX6_chance_X6_bound : GoodIn wsX6_chance (va_wsS RX6 75 yX6_bound wsX6_bound) := goodIn_app (goodIn_of _ (by decide +kernel)) ggX6_chance_X6_bound
theorem dX6_chance_0 : decode cX6_chance 0 = .ok (.aload_n 0, 1) := by decide +kernel
theorem dX6_chance_1 : decode cX6_chance 1 = .ok (.iload_n 1, 1) := by decide +kernel
theorem dX6_chance_2 : decode cX6_chance 2 = .ok (.invokevirtual 99, 3) := by decide +kernel
theorem dX6_chance_5 : decode cX6_chance 5 = .ok (.ifCond .ne 9, 3) := by decide +kernel
theorem dX6_chance_8 : decode cX6_chance 8 = .ok (.aload_n 0, 1) := by decide +kernel
theorem dX6_chance_9 : decode cX6_chance 9 = .ok (.iconst (-1), 1) := by decide +kernel
theorem dX6_chance_10 : decode cX6_chance 10 = .ok (.invokevirtual 79, 3) := by decide +kernel
theorem dX6_chance_13 : decode cX6_chance 13 = .ok (.ireturn, 1) := by decide +kernel
theorem dX6_chance_14 : decode cX6_chance 14 = .ok (.iload_n 2, 1) := by decide +kernel
theorem dX6_chance_15 : decode cX6_chance 15 = .ok (.iconst 0, 1) := by decide +kernel
theorem dX6_chance_16 : decode cX6_chance 16 = .ok (.bipush 100, 2) := by decide +kernel
theorem dX6_chance_18 : decode cX6_chance 18 = .ok (.invokestatic 75, 3) := by decide +kernel
theorem dX6_chance_21 : decode cX6_chance 21 = .ok (.istore_n 3, 1) := by decide +kernel
theorem dX6_chance_22 : decode cX6_chance 22 = .ok (.iload_n 3, 1) := by decide +kernel
theorem dX6_chance_23 : decode cX6_chance 23 = .ok (.ifCond .eq 9, 3) := by decide +kernel
theorem dX6_chance_26 : decode cX6_chance 26 = .ok (.aload_n 0, 1) := by decide +kernel
theorem dX6_chance_27 : decode cX6_chance 27 = .ok (.iload_n 3, 1) := by decide +kernel
theorem dX6_chance_28 : decode cX6_chance 28 = .ok (.invokevirtual 79, 3) := by decide +kernel
theorem dX6_chance_31 : decode cX6_chance 31 = .ok (.ireturn, 1) := by decide +kernel
theorem dX6_chance_32 : decode cX6_chance 32 = .ok (.aload_n 0, 1) := by decide +kernel
theorem dX6_chance_33 : decode cX6_chance 33 = .ok (.getfield 16, 3) := by decide +kernel
theorem dX6_chance_36 : decode cX6_chance 36 = .ok (.iload_n 1, 1) := by decide +kernel
theorem dX6_chance_37 : decode cX6_chance 37 = .ok (.iaload, 1) := by decide +kernel
theorem dX6_chance_38 : decode cX6_chance 38 = .ok (.istore 4, 2) := by decide +kernel
theorem dX6_chance_40 : decode cX6_chance 40 = .ok (.aload_n 0, 1) := by decide +kernel
theorem dX6_chance_41 : decode cX6_chance 41 = .ok (.getfield 16, 3) := by decide +kernel
theorem dX6_chance_44 : decode cX6_chance 44 = .ok (.iload_n 1, 1) := by decide +kernel
theorem dX6_chance_45 : decode cX6_chance 45 = .ok (.iload_n 2, 1) := by decide +kernel
theorem dX6_chance_46 : decode cX6_chance 46 = .ok (.iastore, 1) := by decide +kernel
theorem dX6_chance_47 : decode cX6_chance 47 = .ok (.iload 4, 2) := by decide +kernel
theorem dX6_chance_49 : decode cX6_chance 49 = .ok (.ireturn, 1) := by decide +kernel
set_option maxRecDepth 20000 in
theorem ggX6_over_X6_isHand : GoodIn wsX6_over wsX6_isHand := goodIn_r _ [6, 7, 13, 14, 15, 16, 17, 18, 19, 20, 21, 22, 23, 24, 25, 26, 27, 28, 29, 30, 31, 32, 33, 34, 35, 36, 37, 38, 39, 40, 41, 42, 43] (by decide +kernel) (by decide +kernel)
set_option maxRecDepth 20000 in
theorem gX6_over_X6_isHand : GoodIn wsX6_over (wsV RX6 99 RX6 yX6_isHand wsX6_isHand) := goodIn_app (goodIn_of _ (by decide +kernel)) ggX6_over_X6_isHand
set_option maxRecDepth 20000 in
theorem ggX6_over_X6_no : GoodIn wsX6_over wsX6_no := goodIn_r _ [11, 12, 13, 14, 15, 16, 17, 18, 19, 20, 21, 22, 23, 24, 25, 26, 27, 28, 29, 30, 31, 32, 33, 34, 35, 36, 37, 38, 39, 40, 41, 42, 43] (by decide +kernel) (by decide +kernel)
set_option maxRecDepth 20000 in
theorem gX6_over_X6_no : GoodIn wsX6_over (wsV RX6 79 RX6 yX6_no wsX6_no) := goodIn_app (goodIn_of _ (by decide +kernel)) ggX6_over_X6_no
theorem dX6_over_0 : decode cX6_over 0 = .ok (.aload_n 0, 1) := by decide +kernel
theorem dX6_over_1 : decode cX6_over 1 = .ok (.iload_n 1, 1) := by decide +kernel
theorem dX6_over_2 : decode cX6_over 2 = .ok (.invokevirtual 99, 3) := by decide +kernel
theorem dX6_over_5 : decode cX6_over 5 = .ok (.ifCond .ne 9, 3) := by decide +kernel
theorem dX6_over_8 : decode cX6_over 8 = .ok (.aload_n 0, 1) := by decide +kernel
theorem dX6_over_9 : decode cX6_over 9 = .ok (.iconst (-1), 1) := by decide +kernel
theorem dX6_over_10 : decode cX6_over 10 = .ok (.invokevirtual 79, 3) := by decide +kernel
theorem dX6_over_13 : decode cX6_over 13 = .ok (.ireturn, 1) := by decide +kernel
theorem dX6_over_14 : decode cX6_over 14 = .ok (.aload_n 0, 1) := by decide +kernel
theorem dX6_over_15 : decode cX6_over 15 = .ok (.getfield 19, 3) := by decide +kernel
theorem dX6_over_18 : decode cX6_over 18 = .ok (.iload_n 1, 1) := by decide +kernel
theorem dX6_over_19 : decode cX6_over 19 = .ok (.iaload, 1) := by decide +kernel
theorem dX6_over_20 : decode cX6_over 20 = .ok (.iconst 1, 1) := by decide +kernel
theorem dX6_over_21 : decode cX6_over 21 = .ok (.if_icmp .ne 7, 3) := by decide +kernel
theorem dX6_over_24 : decode cX6_over 24 = .ok (.iconst 1, 1) := by decide +kernel
theorem dX6_over_25 : decode cX6_over 25 = .ok (.goto 4, 3) := by decide +kernel
theorem dX6_over_28 : decode cX6_over 28 = .ok (.iconst 0, 1) := by decide +kernel
theorem dX6_over_29 : decode cX6_over 29 = .ok (.iload_n 2, 1) := by decide +kernel
theorem dX6_over_30 : decode cX6_over 30 = .ok (.if_icmp .ne 5, 3) := by decide +kernel
theorem dX6_over_33 : decode cX6_over 33 = .ok (.iconst 0, 1) := by decide +kernel
theorem dX6_over_34 : decode cX6_over 34 = .ok (.ireturn, 1) := by decide +kernel
theorem dX6_over_35 : decode cX6_over 35 = .ok (.aload_n 0, 1) := by decide +kernel
theorem dX6_over_36 : decode cX6_over 36 = .ok (.getfield 19, 3) := by decide +kernel
theorem dX6_over_39 : decode cX6_over 39 = .ok (.iload_n 1, 1) := by decide +kernel
theorem dX6_over_40 : decode cX6_over 40 = .ok (.iload_n 2, 1) := by decide +kernel
theorem dX6_over_41 : decode cX6_over 41 = .ok (.ifCond .eq 7, 3) := by decide +kernel
theorem dX6_over_44 : decode cX6_over 44 = .ok (.iconst 1, 1) := by decide +kernel
theorem dX6_over_45 : decode cX6_over 45 = .ok (.goto 4, 3) := by decide +kernel
theorem dX6_over_48 : decode cX6_over 48 = .ok (.iconst 0, 1) := by decide +kernel
theorem dX6_over_49 : decode cX6_over 49 = .ok (.iastore, 1) := by decide +kernel
theorem dX6_over_50 : decode cX6_over 50 = .ok (.iconst 1, 1) := by decide +kernel
theorem dX6_over_51 : decode cX6_over 51 = .ok (.ireturn, 1) := by decide +kernel
set_option maxRecDepth 20000 in
theorem ggX6_areTwo_X6_isHand : GoodIn wsX6_areTwo wsX6_isHand := goodIn_r _ [5, 6, 7, 8, 9, 10, 11, 12, 13, 14, 15, 16, 17, 18, 19, 20, 21, 22, 23, 24, 25, 26, 27, 28, 29, 30, 31, 32, 33, 34, 35, 36, 37] (by decide +kernel) (by decide +kernel)
set_option maxRecDepth 20000 in
theorem gX6_areTwo_X6_isHand : GoodIn wsX6_areTwo (wsV RX6 99 RX6 yX6_isHand wsX6_isHand) := goodIn_app (goodIn_of _ (by decide +kernel)) ggX6_areTwo_X6_isHand
theorem dX6_areTwo_0 : decode cX6_areTwo 0 = .ok (.aload_n 0, 1) := by decide +kernel
theorem dX6_areTwo_1 : decode cX6_areTwo 1 = .ok (.iload_n 1, 1) := by decide +kernel
theorem dX6_areTwo_2 : decode cX6_areTwo 2 = .ok (.invokevirtual 99, 3) := by decide +kernel
theorem dX6_areTwo_5 : decode cX6_areTwo 5 = .ok (.ifCond .eq 20, 3) := by decide +kernel
theorem dX6_areTwo_8 : decode cX6_areTwo 8 = .ok (.aload_n 0, 1) := by decide +kernel
theorem dX6_areTwo_9 : decode cX6_areTwo 9 = .ok (.iload_n 2, 1) := by decide +kernel
theorem dX6_areTwo_10 : decode cX6_areTwo 10 = .ok (.invokevirtual 99, 3) := by decide +kernel
theorem dX6_areTwo_13 : decode cX6_areTwo 13 = .ok (.ifCond .eq 12, 3) := by decide +kernel
theorem dX6_areTwo_16 : decode cX6_areTwo 16 = .ok (.iload_n 1, 1) := by decide +kernel
theorem dX6_areTwo_17 : decode cX6_areTwo 17 = .ok (.iload_n 2, 1) := by decide +kernel
theorem dX6_areTwo_18 : decode cX6_areTwo 18 = .ok (.if_icmp .eq 7, 3) := by decide +kernel
theorem dX6_areTwo_21 : decode cX6_areTwo 21 = .ok (.iconst 1, 1) := by decide +kernel
theorem dX6_areTwo_22 : decode cX6_areTwo 22 = .ok (.goto 4, 3) := by decide +kernel
theorem dX6_areTwo_25 : decode cX6_areTwo 25 = .ok (.iconst 0, 1) := by decide +kernel
theorem dX6_areTwo_26 : decode cX6_areTwo 26 = .ok (.ireturn, 1) := by decide +kernel
theorem dX6_hasSight_0 : decode cX6_hasSight 0 = .ok (.iconst 0, 1) := by decide +kernel
theorem dX6_hasSight_1 : decode cX6_hasSight 1 = .ok (.istore_n 3, 1) := by decide +kernel
theorem dX6_hasSight_2 : decode cX6_hasSight 2 = .ok (.iload_n 3, 1) := by decide +kernel
theorem dX6_hasSight_3 : decode cX6_hasSight 3 = .ok (.aload_n 0, 1) := by decide +kernel
theorem dX6_hasSight_4 : decode cX6_hasSight 4 = .ok (.getfield 102, 3) := by decide +kernel
theorem dX6_hasSight_7 : decode cX6_hasSight 7 = .ok (.if_icmp .ge 31, 3) := by decide +kernel
theorem dX6_hasSight_10 : decode cX6_hasSight 10 = .ok (.aload_n 0, 1) := by decide +kernel
theorem dX6_hasSight_11 : decode cX6_hasSight 11 = .ok (.getfield 22, 3) := by decide +kernel
theorem dX6_hasSight_14 : decode cX6_hasSight 14 = .ok (.iload_n 3, 1) := by decide +kernel
theorem dX6_hasSight_15 : decode cX6_hasSight 15 = .ok (.iaload, 1) := by decide +kernel
theorem dX6_hasSight_16 : decode cX6_hasSight 16 = .ok (.iload_n 1, 1) := by decide +kernel
theorem dX6_hasSight_17 : decode cX6_hasSight 17 = .ok (.if_icmp .ne 15, 3) := by decide +kernel
theorem dX6_hasSight_20 : decode cX6_hasSight 20 = .ok (.aload_n 0, 1) := by decide +kernel
theorem dX6_hasSight_21 : decode cX6_hasSight 21 = .ok (.getfield 25, 3) := by decide +kernel
theorem dX6_hasSight_24 : decode cX6_hasSight 24 = .ok (.iload_n 3, 1) := by decide +kernel
theorem dX6_hasSight_25 : decode cX6_hasSight 25 = .ok (.iaload, 1) := by decide +kernel
theorem dX6_hasSight_26 : decode cX6_hasSight 26 = .ok (.iload_n 2, 1) := by decide +kernel
theorem dX6_hasSight_27 : decode cX6_hasSight 27 = .ok (.if_icmp .ne 5, 3) := by decide +kernel
theorem dX6_hasSight_30 : decode cX6_hasSight 30 = .ok (.iconst 1, 1) := by decide +kernel
theorem dX6_hasSight_31 : decode cX6_hasSight 31 = .ok (.ireturn, 1) := by decide +kernel
theorem dX6_hasSight_32 : decode cX6_hasSight 32 = .ok (.iinc 3 1, 3) := by decide +kernel
theorem dX6_hasSight_35 : decode cX6_hasSight 35 = .ok (.goto (-33), 3) := by decide +kernel
theorem dX6_hasSight_38 : decode cX6_hasSight 38 = .ok (.iconst 0, 1) := by decide +kernel
theorem dX6_hasSight_39 : decode cX6_hasSight 39 = .ok (.ireturn, 1) := by decide +kernel
theorem dX6_comesSight_0 : decode cX6_comesSight 0 = .ok (.aload_n 0, 1) := by decide +kernel
theorem dX6_comesSight_1 : decode cX6_comesSight 1 = .ok (.getfield 22, 3) := by decide +kernel
theorem dX6_comesSight_4 : decode cX6_comesSight 4 = .ok (.aload_n 0, 1) := by decide +kernel
theorem dX6_comesSight_5 : decode cX6_comesSight 5 = .ok (.getfield 102, 3) := by decide +kernel
theorem dX6_comesSight_8 : decode cX6_comesSight 8 = .ok (.iload_n 1, 1) := by decide +kernel
theorem dX6_comesSight_9 : decode cX6_comesSight 9 = .ok (.iastore, 1) := by decide +kernel
theorem dX6_comesSight_10 : decode cX6_comesSight 10 = .ok (.aload_n 0, 1) := by decide +kernel
theorem dX6_comesSight_11 : decode cX6_comesSight 11 = .ok (.getfield 25, 3) := by decide +kernel
theorem dX6_comesSight_14 : decode cX6_comesSight 14 = .ok (.aload_n 0, 1) := by decide +kernel
theorem dX6_comesSight_15 : decode cX6_comesSight 15 = .ok (.getfield 102, 3) := by decide +kernel
theorem dX6_comesSight_18 : decode cX6_comesSight 18 = .ok (.iload_n 2, 1) := by decide +kernel
theorem dX6_comesSight_19 : decode cX6_comesSight 19 = .ok (.iastore, 1) := by decide +kernel
theorem dX6_comesSight_20 : decode cX6_comesSight 20 = .ok (.aload_n 0, 1) := by decide +kernel
theorem dX6_comesSight_21 : decode cX6_comesSight 21 = .ok (.dup, 1) := by decide +kernel
theorem dX6_comesSight_22 : decode cX6_comesSight 22 = .ok (.getfield 102, 3) := by decide +kernel
theorem dX6_comesSight_25 : decode cX6_comesSight 25 = .ok (.iconst 1, 1) := by decide +kernel
theorem dX6_comesSight_26 : decode cX6_comesSight 26 = .ok (.iadd, 1) := by decide +kernel
theorem dX6_comesSight_27 : decode cX6_comesSight 27 = .ok (.putfield 102, 3) := by decide +kernel
theorem dX6_comesSight_30 : decode cX6_comesSight 30 = .ok (.aload_n 0, 1) := by decide +kernel
theorem dX6_comesSight_31 : decode cX6_comesSight 31 = .ok (.getfield 102, 3) := by decide +kernel
theorem dX6_comesSight_34 : decode cX6_comesSight 34 = .ok (.iconst 1, 1) := by decide +kernel
theorem dX6_comesSight_35 : decode cX6_comesSight 35 = .ok (.isub, 1) := by decide +kernel
theorem dX6_comesSight_36 : decode cX6_comesSight 36 = .ok (.ireturn, 1) := by decide +kernel
set_option maxRecDepth 20000 in
theorem ggX6_sight_X6_areTwo : GoodIn wsX6_sight wsX6_areTwo := goodIn_r _ [6, 7, 8, 9, 5, 10, 11, 27, 28, 29, 30, 31, 32, 33, 34, 35, 36, 37, 38, 39, 40, 41, 42, 43, 44, 45, 46, 47, 48, 49, 50, 51, 52, 53, 54, 55, 56, 57] (by decide +kernel) (by decide +kernel)
set_option maxRecDepth 20000 in
theorem gX6_sight_X6_areTwo : GoodIn wsX6_sight (wsV RX6 105 RX6 yX6_areTwo wsX6_areTwo) := goodIn_app (goodIn_of _ (by decide +kernel)) ggX6_sight_X6_areTwo
set_option maxRecDepth 20000 in
theorem ggX6_sight_X6_no : GoodIn wsX6_sight wsX6_no := goodIn_r _ [15, 16, 27, 28, 29, 30, 31, 32, 33, 34, 35, 36, 37, 38, 39, 40, 41, 42, 43, 44, 45, 46, 47, 48, 49, 50, 51, 52, 53, 54, 55, 56, 57] (by decide +kernel) (by decide +kernel)
set_option maxRecDepth 20000 in
theorem gX6_sight_X6_no : GoodIn wsX6_sight (wsV RX6 79 RX6 yX6_no wsX6_no) := goodIn_app (goodIn_of _ (by decide +kernel)) ggX6_sight_X6_no
set_option maxRecDepth 20000 in
theorem ggX6_sight_X6_hasSight : GoodIn wsX6_sight wsX6_hasSight := goodIn_r _ [20, 1, 21, 22, 27, 28, 29, 30, 31, 32, 33, 34, 35, 36, 37, 38, 39, 40, 41, 42, 43, 44, 45, 46, 47, 48, 49, 50, 51, 52, 53, 54, 55, 56, 57] (by decide +kernel) (by decide +kernel)
set_option maxRecDepth 20000 in
theorem gX6_sight_X6_hasSight : GoodIn wsX6_sight (wsV RX6 109 RX6 yX6_hasSight wsX6_hasSight) := goodIn_app (goodIn_of _ (by decide +kernel)) ggX6_sight_X6_hasSight
set_option maxRecDepth 20000 in
theorem ggX6_sight_X6_comesSight : GoodIn wsX6_sight wsX6_comesSight := goodIn_r _ [26, 21, 1, 22, 27, 28, 29, 30, 31, 32, 33, 34, 35, 36, 37, 38, 39, 40, 41, 42, 43, 44, 45, 46, 47, 48, 49, 50, 51, 52, 53, 54, 55, 56, 57] (by decide +kernel) (by decide +kernel)
set_option maxRecDepth 20000 in
theorem gX6_sight_X6_comesSight : GoodIn wsX6_sight (wsV RX6 112 RX6 yX6_comesSight wsX6_comesSight) := goodIn_app (goodIn_of _ (by decide +kernel)) ggX6_sight_X6_comesSight
theorem dX6_sight_0 : decode cX6_sight 0 = .ok (.aload_n 0, 1) := by decide +kernel
theorem dX6_sight_1 : decode cX6_sight 1 = .ok (.iload_n 1, 1) := by decide +kernel
theorem dX6_sight_2 : decode cX6_sight 2 = .ok (.iload_n 2, 1) := by decide +kernel
theorem dX6_sight_3 : decode cX6_sight 3 = .ok (.invokevirtual 105, 3) := by decide +kernel
theorem dX6_sight_6 : decode cX6_sight 6 = .ok (.ifCond .ne 9, 3) := by decide +kernel
theorem dX6_sight_9 : decode cX6_sight 9 = .ok (.aload_n 0, 1) := by decide +kernel
theorem dX6_sight_10 : decode cX6_sight 10 = .ok (.iconst (-1), 1) := by decide +kernel
theorem dX6_sight_11 : decode cX6_sight 11 = .ok (.invokevirtual 79, 3) := by decide +kernel
theorem dX6_sight_14 : decode cX6_sight 14 = .ok (.ireturn, 1) := by decide +kernel
theorem dX6_sight_15 : decode cX6_sight 15 = .ok (.aload_n 0, 1) := by decide +kernel
theorem dX6_sight_16 : decode cX6_sight 16 = .ok (.iload_n 1, 1) := by decide +kernel
theorem dX6_sight_17 : decode cX6_sight 17 = .ok (.iload_n 2, 1) := by decide +kernel
theorem dX6_sight_18 : decode cX6_sight 18 = .ok (.invokevirtual 109, 3) := by decide +kernel
theorem dX6_sight_21 : decode cX6_sight 21 = .ok (.ifCond .eq 10, 3) := by decide +kernel
theorem dX6_sight_24 : decode cX6_sight 24 = .ok (.aload_n 0, 1) := by decide +kernel
theorem dX6_sight_25 : decode cX6_sight 25 = .ok (.bipush (-3), 2) := by decide +kernel
theorem dX6_sight_27 : decode cX6_sight 27 = .ok (.invokevirtual 79, 3) := by decide +kernel
theorem dX6_sight_30 : decode cX6_sight 30 = .ok (.ireturn, 1) := by decide +kernel
theorem dX6_sight_31 : decode cX6_sight 31 = .ok (.aload_n 0, 1) := by decide +kernel
theorem dX6_sight_32 : decode cX6_sight 32 = .ok (.getfield 102, 3) := by decide +kernel
theorem dX6_sight_35 : decode cX6_sight 35 = .ok (.bipush 12, 2) := by decide +kernel
theorem dX6_sight_37 : decode cX6_sight 37 = .ok (.if_icmp .ne 10, 3) := by decide +kernel
theorem dX6_sight_40 : decode cX6_sight 40 = .ok (.aload_n 0, 1) := by decide +kernel
theorem dX6_sight_41 : decode cX6_sight 41 = .ok (.bipush (-6), 2) := by decide +kernel
theorem dX6_sight_43 : decode cX6_sight 43 = .ok (.invokevirtual 79, 3) := by decide +kernel
theorem dX6_sight_46 : decode cX6_sight 46 = .ok (.ireturn, 1) := by decide +kernel
theorem dX6_sight_47 : decode cX6_sight 47 = .ok (.aload_n 0, 1) := by decide +kernel
theorem dX6_sight_48 : decode cX6_sight 48 = .ok (.iload_n 1, 1) := by decide +kernel
theorem dX6_sight_49 : decode cX6_sight 49 = .ok (.iload_n 2, 1) := by decide +kernel
theorem dX6_sight_50 : decode cX6_sight 50 = .ok (.invokevirtual 112, 3) := by decide +kernel
theorem dX6_sight_53 : decode cX6_sight 53 = .ok (.ireturn, 1) := by decide +kernel
theorem dX6_comesTie_0 : decode cX6_comesTie 0 = .ok (.aload_n 0, 1) := by decide +kernel
theorem dX6_comesTie_1 : decode cX6_comesTie 1 = .ok (.getfield 28, 3) := by decide +kernel
theorem dX6_comesTie_4 : decode cX6_comesTie 4 = .ok (.aload_n 0, 1) := by decide +kernel
theorem dX6_comesTie_5 : decode cX6_comesTie 5 = .ok (.getfield 116, 3) := by decide +kernel
theorem dX6_comesTie_8 : decode cX6_comesTie 8 = .ok (.iload_n 1, 1) := by decide +kernel
theorem dX6_comesTie_9 : decode cX6_comesTie 9 = .ok (.iastore, 1) := by decide +kernel
theorem dX6_comesTie_10 : decode cX6_comesTie 10 = .ok (.aload_n 0, 1) := by decide +kernel
theorem dX6_comesTie_11 : decode cX6_comesTie 11 = .ok (.getfield 31, 3) := by decide +kernel
theorem dX6_comesTie_14 : decode cX6_comesTie 14 = .ok (.aload_n 0, 1) := by decide +kernel
theorem dX6_comesTie_15 : decode cX6_comesTie 15 = .ok (.getfield 116, 3) := by decide +kernel
theorem dX6_comesTie_18 : decode cX6_comesTie 18 = .ok (.iload_n 2, 1) := by decide +kernel
theorem dX6_comesTie_19 : decode cX6_comesTie 19 = .ok (.iastore, 1) := by decide +kernel
theorem dX6_comesTie_20 : decode cX6_comesTie 20 = .ok (.aload_n 0, 1) := by decide +kernel
theorem dX6_comesTie_21 : decode cX6_comesTie 21 = .ok (.dup, 1) := by decide +kernel
theorem dX6_comesTie_22 : decode cX6_comesTie 22 = .ok (.getfield 116, 3) := by decide +kernel
theorem dX6_comesTie_25 : decode cX6_comesTie 25 = .ok (.iconst 1, 1) := by decide +kernel
theorem dX6_comesTie_26 : decode cX6_comesTie 26 = .ok (.iadd, 1) := by decide +kernel
theorem dX6_comesTie_27 : decode cX6_comesTie 27 = .ok (.putfield 116, 3) := by decide +kernel
theorem dX6_comesTie_30 : decode cX6_comesTie 30 = .ok (.aload_n 0, 1) := by decide +kernel
theorem dX6_comesTie_31 : decode cX6_comesTie 31 = .ok (.getfield 116, 3) := by decide +kernel
theorem dX6_comesTie_34 : decode cX6_comesTie 34 = .ok (.ireturn, 1) := by decide +kernel
set_option maxRecDepth 20000 in
theorem ggX6_tie_X6_areTwo : GoodIn wsX6_tie wsX6_areTwo := goodIn_r _ [6, 7, 8, 9, 5, 10, 11, 23, 24, 25, 26, 27, 28, 29, 30, 31, 32, 33, 34, 35, 36, 37, 38, 39, 40, 41, 42, 43, 44, 45, 46, 47, 48, 49, 50, 51, 52, 53] (by decide +kernel) (by decide +kernel)
set_option maxRecDepth 20000 in
theorem gX6_tie_X6_areTwo : GoodIn wsX6_tie (wsV RX6 105 RX6 yX6_areTwo wsX6_areTwo) := goodIn_app (goodIn_of _ (by decide +kernel)) ggX6_tie_X6_areTwo
set_option maxRecDepth 20000 in
theorem ggX6_tie_X6_no : GoodIn wsX6_tie wsX6_no := goodIn_r _ [15, 16, 23, 24, 25, 26, 27, 28, 29, 30, 31, 32, 33, 34, 35, 36, 37, 38, 39, 40, 41, 42, 43, 44, 45, 46, 47, 48, 49, 50, 51, 52, 53] (by decide +kernel) (by decide +kernel)
set_option maxRecDepth 20000 in
theorem gX6_tie_X6_no : GoodIn wsX6_tie (wsV RX6 79 RX6 yX6_no wsX6_no) := goodIn_app (goodIn_of _ (by decide +kernel)) ggX6_tie_X6_no
set_option maxRecDepth 20000 in
theorem ggX6_tie_X6_comesTie : GoodIn wsX6_tie wsX6_comesTie := goodIn_r _ [20, 21, 1, 22, 23, 24, 25, 26, 27, 28, 29, 30, 31, 32, 33, 34, 35, 36, 37, 38, 39, 40, 41, 42, 43, 44, 45, 46, 47, 48, 49, 50, 51, 52, 53] (by decide +kernel) (by decide +kernel)
set_option maxRecDepth 20000 in
theorem gX6_tie_X6_comesTie : GoodIn wsX6_tie (wsV RX6 119 RX6 yX6_comesTie wsX6_comesTie) := goodIn_app (goodIn_of _ (by decide +kernel)) ggX6_tie_X6_comesTie
theorem dX6_tie_0 : decode cX6_tie 0 = .ok (.aload_n 0, 1) := by decide +kernel
theorem dX6_tie_1 : decode cX6_tie 1 = .ok (.iload_n 1, 1) := by decide +kernel
theorem dX6_tie_2 : decode cX6_tie 2 = .ok (.iload_n 2, 1) := by decide +kernel
theorem dX6_tie_3 : decode cX6_tie 3 = .ok (.invokevirtual 105, 3) := by decide +kernel
theorem dX6_tie_6 : decode cX6_tie 6 = .ok (.ifCond .ne 9, 3) := by decide +kernel
theorem dX6_tie_9 : decode cX6_tie 9 = .ok (.aload_n 0, 1) := by decide +kernel
theorem dX6_tie_10 : decode cX6_tie 10 = .ok (.iconst (-1), 1) := by decide +kernel
theorem dX6_tie_11 : decode cX6_tie 11 = .ok (.invokevirtual 79, 3) := by decide +kernel
theorem dX6_tie_14 : decode cX6_tie 14 = .ok (.ireturn, 1) := by decide +kernel
theorem dX6_tie_15 : decode cX6_tie 15 = .ok (.aload_n 0, 1) := by decide +kernel
theorem dX6_tie_16 : decode cX6_tie 16 = .ok (.getfield 116, 3) := by decide +kernel
theorem dX6_tie_19 : decode cX6_tie 19 = .ok (.bipush 12, 2) := by decide +kernel
theorem dX6_tie_21 : decode cX6_tie 21 = .ok (.if_icmp .ne 10, 3) := by decide +kernel
theorem dX6_tie_24 : decode cX6_tie 24 = .ok (.aload_n 0, 1) := by decide +kernel
theorem dX6_tie_25 : decode cX6_tie 25 = .ok (.bipush (-6), 2) := by decide +kernel
theorem dX6_tie_27 : decode cX6_tie 27 = .ok (.invokevirtual 79, 3) := by decide +kernel
theorem dX6_tie_30 : decode cX6_tie 30 = .ok (.ireturn, 1) := by decide +kernel
theorem dX6_tie_31 : decode cX6_tie 31 = .ok (.aload_n 0, 1) := by decide +kernel
theorem dX6_tie_32 : decode cX6_tie 32 = .ok (.iload_n 1, 1) := by decide +kernel
theorem dX6_tie_33 : decode cX6_tie 33 = .ok (.iload_n 2, 1) := by decide +kernel
theorem dX6_tie_34 : decode cX6_tie 34 = .ok (.invokevirtual 119, 3) := by decide +kernel
theorem dX6_tie_37 : decode cX6_tie 37 = .ok (.ireturn, 1) := by decide +kernel
theorem dX6_comesGuess_0 : decode cX6_comesGuess 0 = .ok (.aload_n 0, 1) := by decide +kernel
theorem dX6_comesGuess_1 : decode cX6_comesGuess 1 = .ok (.getfield 34, 3) := by decide +kernel
theorem dX6_comesGuess_4 : decode cX6_comesGuess 4 = .ok (.aload_n 0, 1) := by decide +kernel
theorem dX6_comesGuess_5 : decode cX6_comesGuess 5 = .ok (.getfield 86, 3) := by decide +kernel
theorem dX6_comesGuess_8 : decode cX6_comesGuess 8 = .ok (.iload_n 1, 1) := by decide +kernel
theorem dX6_comesGuess_9 : decode cX6_comesGuess 9 = .ok (.iastore, 1) := by decide +kernel
theorem dX6_comesGuess_10 : decode cX6_comesGuess 10 = .ok (.aload_n 0, 1) := by decide +kernel
theorem dX6_comesGuess_11 : decode cX6_comesGuess 11 = .ok (.getfield 37, 3) := by decide +kernel
theorem dX6_comesGuess_14 : decode cX6_comesGuess 14 = .ok (.aload_n 0, 1) := by decide +kernel
theorem dX6_comesGuess_15 : decode cX6_comesGuess 15 = .ok (.getfield 86, 3) := by decide +kernel
theorem dX6_comesGuess_18 : decode cX6_comesGuess 18 = .ok (.iload_n 2, 1) := by decide +kernel
theorem dX6_comesGuess_19 : decode cX6_comesGuess 19 = .ok (.iastore, 1) := by decide +kernel
theorem dX6_comesGuess_20 : decode cX6_comesGuess 20 = .ok (.aload_n 0, 1) := by decide +kernel
theorem dX6_comesGuess_21 : decode cX6_comesGuess 21 = .ok (.dup, 1) := by decide +kernel
theorem dX6_comesGuess_22 : decode cX6_comesGuess 22 = .ok (.getfield 86, 3) := by decide +kernel
theorem dX6_comesGuess_25 : decode cX6_comesGuess 25 = .ok (.iconst 1, 1) := by decide +kernel
theorem dX6_comesGuess_26 : decode cX6_comesGuess 26 = .ok (.iadd, 1) := by decide +kernel
theorem dX6_comesGuess_27 : decode cX6_comesGuess 27 = .ok (.putfield 86, 3) := by decide +kernel
theorem dX6_comesGuess_30 : decode cX6_comesGuess 30 = .ok (.aload_n 0, 1) := by decide +kernel
theorem dX6_comesGuess_31 : decode cX6_comesGuess 31 = .ok (.getfield 86, 3) := by decide +kernel
theorem dX6_comesGuess_34 : decode cX6_comesGuess 34 = .ok (.ireturn, 1) := by decide +kernel
set_option maxRecDepth 20000 in
theorem ggX6_guess_X6_isSet : GoodIn wsX6_guess wsX6_isSet := goodIn_r _ [6, 7, 8, 9, 5, 10, 11, 27, 28, 29, 30, 31, 32, 33, 34, 35, 36, 37, 38, 39, 40, 41, 42, 43, 44, 45, 46, 47, 48, 49, 50, 51, 52, 53, 54, 55, 56, 57] (by decide +kernel) (by decide +kernel)
set_option maxRecDepth 20000 in
theorem gX6_guess_X6_isSet : GoodIn wsX6_guess (wsV RX6 89 RX6 yX6_isSet wsX6_isSet) := goodIn_app (goodIn_of _ (by decide +kernel)) ggX6_guess_X6_isSet
set_option maxRecDepth 20000 in
theorem ggX6_guess_X6_isStep : GoodIn wsX6_guess wsX6_isStep := goodIn_r _ [15, 11, 27, 28, 29, 30, 31, 32, 33, 34, 35, 36, 37, 38, 39, 40, 41, 42, 43, 44, 45, 46, 47, 48, 49, 50, 51, 52, 53, 54, 55, 56, 57] (by decide +kernel) (by decide +kernel)
set_option maxRecDepth 20000 in
theorem gX6_guess_X6_isStep : GoodIn wsX6_guess (wsV RX6 93 RX6 yX6_isStep wsX6_isStep) := goodIn_app (goodIn_of _ (by decide +kernel)) ggX6_guess_X6_isStep
set_option maxRecDepth 20000 in
theorem ggX6_guess_X6_no : GoodIn wsX6_guess wsX6_no := goodIn_r _ [19, 20, 27, 28, 29, 30, 31, 32, 33, 34, 35, 36, 37, 38, 39, 40, 41, 42, 43, 44, 45, 46, 47, 48, 49, 50, 51, 52, 53, 54, 55, 56, 57] (by decide +kernel) (by decide +kernel)
set_option maxRecDepth 20000 in
theorem gX6_guess_X6_no : GoodIn wsX6_guess (wsV RX6 79 RX6 yX6_no wsX6_no) := goodIn_app (goodIn_of _ (by decide +kernel)) ggX6_guess_X6_no
set_option maxRecDepth 20000 in
theorem ggX6_guess_X6_comesGuess : GoodIn wsX6_guess wsX6_comesGuess := goodIn_r _ [24, 25, 1, 26, 27, 28, 29, 30, 31, 32, 33, 34, 35, 36, 37, 38, 39, 40, 41, 42, 43, 44, 45, 46, 47, 48, 49, 50, 51, 52, 53, 54, 55, 56, 57] (by decide +kernel) (by decide +kernel)
set_option maxRecDepth 20000 in
theorem gX6_guess_X6_comesGuess : GoodIn wsX6_guess (wsV RX6 122 RX6 yX6_comesGuess wsX6_comesGuess) := goodIn_app (goodIn_of _ (by decide +kernel)) ggX6_guess_X6_comesGuess
theorem dX6_guess_0 : decode cX6_guess 0 = .ok (.aload_n 0, 1) := by decide +kernel
theorem dX6_guess_1 : decode cX6_guess 1 = .ok (.iload_n 1, 1) := by decide +kernel
theorem dX6_guess_2 : decode cX6_guess 2 = .ok (.invokevirtual 89, 3) := by decide +kernel
theorem dX6_guess_5 : decode cX6_guess 5 = .ok (.ifCond .eq 24, 3) := by decide +kernel
theorem dX6_guess_8 : decode cX6_guess 8 = .ok (.iload_n 1, 1) := by decide +kernel
theorem dX6_guess_9 : decode cX6_guess 9 = .ok (.ifCond .eq 20, 3) := by decide +kernel
theorem dX6_guess_12 : decode cX6_guess 12 = .ok (.aload_n 0, 1) := by decide +kernel
theorem dX6_guess_13 : decode cX6_guess 13 = .ok (.iload_n 2, 1) := by decide +kernel
theorem dX6_guess_14 : decode cX6_guess 14 = .ok (.invokevirtual 93, 3) := by decide +kernel
theorem dX6_guess_17 : decode cX6_guess 17 = .ok (.ifCond .eq 12, 3) := by decide +kernel
theorem dX6_guess_20 : decode cX6_guess 20 = .ok (.iload_n 1, 1) := by decide +kernel
theorem dX6_guess_21 : decode cX6_guess 21 = .ok (.iload_n 2, 1) := by decide +kernel
theorem dX6_guess_22 : decode cX6_guess 22 = .ok (.ishr, 1) := by decide +kernel
theorem dX6_guess_23 : decode cX6_guess 23 = .ok (.iconst 1, 1) := by decide +kernel
theorem dX6_guess_24 : decode cX6_guess 24 = .ok (.iand, 1) := by decide +kernel
theorem dX6_guess_25 : decode cX6_guess 25 = .ok (.iconst 1, 1) := by decide +kernel
theorem dX6_guess_26 : decode cX6_guess 26 = .ok (.if_icmp .ne 9, 3) := by decide +kernel
theorem dX6_guess_29 : decode cX6_guess 29 = .ok (.aload_n 0, 1) := by decide +kernel
theorem dX6_guess_30 : decode cX6_guess 30 = .ok (.iconst (-1), 1) := by decide +kernel
theorem dX6_guess_31 : decode cX6_guess 31 = .ok (.invokevirtual 79, 3) := by decide +kernel
theorem dX6_guess_34 : decode cX6_guess 34 = .ok (.ireturn, 1) := by decide +kernel
theorem dX6_guess_35 : decode cX6_guess 35 = .ok (.aload_n 0, 1) := by decide +kernel
theorem dX6_guess_36 : decode cX6_guess 36 = .ok (.getfield 86, 3) := by decide +kernel
theorem dX6_guess_39 : decode cX6_guess 39 = .ok (.bipush 12, 2) := by decide +kernel
theorem dX6_guess_41 : decode cX6_guess 41 = .ok (.if_icmp .ne 10, 3) := by decide +kernel
theorem dX6_guess_44 : decode cX6_guess 44 = .ok (.aload_n 0, 1) := by decide +kernel
theorem dX6_guess_45 : decode cX6_guess 45 = .ok (.bipush (-6), 2) := by decide +kernel
theorem dX6_guess_47 : decode cX6_guess 47 = .ok (.invokevirtual 79, 3) := by decide +kernel
theorem dX6_guess_50 : decode cX6_guess 50 = .ok (.ireturn, 1) := by decide +kernel
theorem dX6_guess_51 : decode cX6_guess 51 = .ok (.aload_n 0, 1) := by decide +kernel
theorem dX6_guess_52 : decode cX6_guess 52 = .ok (.iload_n 1, 1) := by decide +kernel
theorem dX6_guess_53 : decode cX6_guess 53 = .ok (.iload_n 2, 1) := by decide +kernel
theorem dX6_guess_54 : decode cX6_guess 54 = .ok (.invokevirtual 122, 3) := by decide +kernel
theorem dX6_guess_57 : decode cX6_guess 57 = .ok (.ireturn, 1) := by decide +kernel
set_option maxRecDepth 20000 in
theorem ggX6_paper_X6_isSet : GoodIn wsX6_paper wsX6_isSet := goodIn_r _ [6, 7, 8, 9, 5, 10, 11, 17, 18, 19, 20, 21, 22, 23, 24, 25, 26, 27, 28, 29, 30, 31, 32, 33, 34, 35, 36, 37, 38, 39, 40, 41, 42, 43, 44, 45, 46, 47] (by decide +kernel) (by decide +kernel)
set_option maxRecDepth 20000 in
theorem gX6_paper_X6_isSet : GoodIn wsX6_paper (wsV RX6 89 RX6 yX6_isSet wsX6_isSet) := goodIn_app (goodIn_of _ (by decide +kernel)) ggX6_paper_X6_isSet
set_option maxRecDepth 20000 in
theorem ggX6_paper_X6_no : GoodIn wsX6_paper wsX6_no := goodIn_r _ [15, 16, 17, 18, 19, 20, 21, 22, 23, 24, 25, 26, 27, 28, 29, 30, 31, 32, 33, 34, 35, 36, 37, 38, 39, 40, 41, 42, 43, 44, 45, 46, 47] (by decide +kernel) (by decide +kernel)
set_option maxRecDepth 20000 in
theorem gX6_paper_X6_no : GoodIn wsX6_paper (wsV RX6 79 RX6 yX6_no wsX6_no) := goodIn_app (goodIn_of _ (by decide +kernel)) ggX6_paper_X6_no
theorem dX6_paper_0 : decode cX6_paper 0 = .ok (.aload_n 0, 1) := by decide +kernel
theorem dX6_paper_1 : decode cX6_paper 1 = .ok (.iload_n 1, 1) := by decide +kernel
theorem dX6_paper_2 : decode cX6_paper 2 = .ok (.invokevirtual 89, 3) := by decide +kernel
theorem dX6_paper_5 : decode cX6_paper 5 = .ok (.ifCond .ne 9, 3) := by decide +kernel
theorem dX6_paper_8 : decode cX6_paper 8 = .ok (.aload_n 0, 1) := by decide +kernel
theorem dX6_paper_9 : decode cX6_paper 9 = .ok (.iconst (-1), 1) := by decide +kernel
theorem dX6_paper_10 : decode cX6_paper 10 = .ok (.invokevirtual 79, 3) := by decide +kernel
theorem dX6_paper_13 : decode cX6_paper 13 = .ok (.ireturn, 1) := by decide +kernel
theorem dX6_paper_14 : decode cX6_paper 14 = .ok (.aload_n 0, 1) := by decide +kernel
theorem dX6_paper_15 : decode cX6_paper 15 = .ok (.getfield 83, 3) := by decide +kernel
theorem dX6_paper_18 : decode cX6_paper 18 = .ok (.istore_n 2, 1) := by decide +kernel
theorem dX6_paper_19 : decode cX6_paper 19 = .ok (.aload_n 0, 1) := by decide +kernel
theorem dX6_paper_20 : decode cX6_paper 20 = .ok (.iload_n 1, 1) := by decide +kernel
theorem dX6_paper_21 : decode cX6_paper 21 = .ok (.putfield 83, 3) := by decide +kernel
theorem dX6_paper_24 : decode cX6_paper 24 = .ok (.iload_n 2, 1) := by decide +kernel
theorem dX6_paper_25 : decode cX6_paper 25 = .ok (.ireturn, 1) := by decide +kernel
set_option maxRecDepth 20000 in
theorem ggX6_feed_X6_bound : GoodIn wsX6_feed wsX6_bound := goodIn_r _ [7] (by decide +kernel) (by decide +kernel)
set_option maxRecDepth 20000 in
theorem gX6_feed_X6_bound : GoodIn wsX6_feed (va_wsS RX6 75 yX6_bound wsX6_bound) := goodIn_app (goodIn_of _ (by decide +kernel)) ggX6_feed_X6_bound
set_option maxRecDepth 20000 in
theorem ggX6_feed_X6_no : GoodIn wsX6_feed wsX6_no := goodIn_r _ [11, 12, 13, 14, 15, 16, 17, 18, 19, 20, 21, 22, 23, 24, 25, 26, 27, 28, 29, 30, 31, 32, 33, 34, 35, 36, 37, 38, 39, 40, 41, 42, 43] (by decide +kernel) (by decide +kernel)
set_option maxRecDepth 20000 in
theorem gX6_feed_X6_no : GoodIn wsX6_feed (wsV RX6 79 RX6 yX6_no wsX6_no) := goodIn_app (goodIn_of _ (by decide +kernel)) ggX6_feed_X6_no
theorem dX6_feed_0 : decode cX6_feed 0 = .ok (.iload_n 1, 1) := by decide +kernel
theorem dX6_feed_1 : decode cX6_feed 1 = .ok (.iconst 1, 1) := by decide +kernel
theorem dX6_feed_2 : decode cX6_feed 2 = .ok (.bipush 8, 2) := by decide +kernel
theorem dX6_feed_4 : decode cX6_feed 4 = .ok (.invokestatic 75, 3) := by decide +kernel
theorem dX6_feed_7 : decode cX6_feed 7 = .ok (.istore 4, 2) := by decide +kernel
theorem dX6_feed_9 : decode cX6_feed 9 = .ok (.iload 4, 2) := by decide +kernel
theorem dX6_feed_11 : decode cX6_feed 11 = .ok (.ifCond .ne 18, 3) := by decide +kernel
theorem dX6_feed_14 : decode cX6_feed 14 = .ok (.aload_n 0, 1) := by decide +kernel
theorem dX6_feed_15 : decode cX6_feed 15 = .ok (.getfield 125, 3) := by decide +kernel
theorem dX6_feed_18 : decode cX6_feed 18 = .ok (.iload_n 1, 1) := by decide +kernel
theorem dX6_feed_19 : decode cX6_feed 19 = .ok (.iadd, 1) := by decide +kernel
theorem dX6_feed_20 : decode cX6_feed 20 = .ok (.bipush 80, 2) := by decide +kernel
theorem dX6_feed_22 : decode cX6_feed 22 = .ok (.if_icmp .le 7, 3) := by decide +kernel
theorem dX6_feed_25 : decode cX6_feed 25 = .ok (.bipush (-6), 2) := by decide +kernel
theorem dX6_feed_27 : decode cX6_feed 27 = .ok (.istore 4, 2) := by decide +kernel
theorem dX6_feed_29 : decode cX6_feed 29 = .ok (.iload 4, 2) := by decide +kernel
theorem dX6_feed_31 : decode cX6_feed 31 = .ok (.ifCond .eq 10, 3) := by decide +kernel
theorem dX6_feed_34 : decode cX6_feed 34 = .ok (.aload_n 0, 1) := by decide +kernel
theorem dX6_feed_35 : decode cX6_feed 35 = .ok (.iload 4, 2) := by decide +kernel
theorem dX6_feed_37 : decode cX6_feed 37 = .ok (.invokevirtual 79, 3) := by decide +kernel
theorem dX6_feed_40 : decode cX6_feed 40 = .ok (.ireturn, 1) := by decide +kernel
theorem dX6_feed_41 : decode cX6_feed 41 = .ok (.iconst 0, 1) := by decide +kernel
theorem dX6_feed_42 : decode cX6_feed 42 = .ok (.istore 5, 2) := by decide +kernel
theorem dX6_feed_44 : decode cX6_feed 44 = .ok (.iload 5, 2) := by decide +kernel
theorem dX6_feed_46 : decode cX6_feed 46 = .ok (.iload_n 1, 1) := by decide +kernel
theorem dX6_feed_47 : decode cX6_feed 47 = .ok (.if_icmp .ge 40, 3) := by decide +kernel
theorem dX6_feed_50 : decode cX6_feed 50 = .ok (.aload_n 0, 1) := by decide +kernel
theorem dX6_feed_51 : decode cX6_feed 51 = .ok (.getfield 44, 3) := by decide +kernel
theorem dX6_feed_54 : decode cX6_feed 54 = .ok (.aload_n 0, 1) := by decide +kernel
theorem dX6_feed_55 : decode cX6_feed 55 = .ok (.getfield 125, 3) := by decide +kernel
theorem dX6_feed_58 : decode cX6_feed 58 = .ok (.lload_n 2, 1) := by decide +kernel
theorem dX6_feed_59 : decode cX6_feed 59 = .ok (.bipush 8, 2) := by decide +kernel
theorem dX6_feed_61 : decode cX6_feed 61 = .ok (.iload 5, 2) := by decide +kernel
theorem dX6_feed_63 : decode cX6_feed 63 = .ok (.imul, 1) := by decide +kernel
theorem dX6_feed_64 : decode cX6_feed 64 = .ok (.lshr, 1) := by decide +kernel
theorem dX6_feed_65 : decode cX6_feed 65 = .ok (.ldc2_w 128, 3) := by decide +kernel
theorem dX6_feed_68 : decode cX6_feed 68 = .ok (.land, 1) := by decide +kernel
theorem dX6_feed_69 : decode cX6_feed 69 = .ok (.l2i, 1) := by decide +kernel
theorem dX6_feed_70 : decode cX6_feed 70 = .ok (.iastore, 1) := by decide +kernel
theorem dX6_feed_71 : decode cX6_feed 71 = .ok (.aload_n 0, 1) := by decide +kernel
theorem dX6_feed_72 : decode cX6_feed 72 = .ok (.dup, 1) := by decide +kernel
theorem dX6_feed_73 : decode cX6_feed 73 = .ok (.getfield 125, 3) := by decide +kernel
theorem dX6_feed_76 : decode cX6_feed 76 = .ok (.iconst 1, 1) := by decide +kernel
theorem dX6_feed_77 : decode cX6_feed 77 = .ok (.iadd, 1) := by decide +kernel
theorem dX6_feed_78 : decode cX6_feed 78 = .ok (.putfield 125, 3) := by decide +kernel
theorem dX6_feed_81 : decode cX6_feed 81 = .ok (.iinc 5 1, 3) := by decide +kernel
theorem dX6_feed_84 : decode cX6_feed 84 = .ok (.goto (-40), 3) := by decide +kernel
theorem dX6_feed_87 : decode cX6_feed 87 = .ok (.aload_n 0, 1) := by decide +kernel
theorem dX6_feed_88 : decode cX6_feed 88 = .ok (.getfield 125, 3) := by decide +kernel
theorem dX6_feed_91 : decode cX6_feed 91 = .ok (.ireturn, 1) := by decide +kernel
theorem dX6_sign_0 : decode cX6_sign 0 = .ok (.aload_n 0, 1) := by decide +kernel
theorem dX6_sign_1 : decode cX6_sign 1 = .ok (.getfield 130, 3) := by decide +kernel
theorem dX6_sign_4 : decode cX6_sign 4 = .ok (.aload_n 0, 1) := by decide +kernel
theorem dX6_sign_5 : decode cX6_sign 5 = .ok (.getfield 125, 3) := by decide +kernel
theorem dX6_sign_8 : decode cX6_sign 8 = .ok (.if_icmp .ge 15, 3) := by decide +kernel
theorem dX6_sign_11 : decode cX6_sign 11 = .ok (.aload_n 0, 1) := by decide +kernel
theorem dX6_sign_12 : decode cX6_sign 12 = .ok (.getfield 44, 3) := by decide +kernel
theorem dX6_sign_15 : decode cX6_sign 15 = .ok (.aload_n 0, 1) := by decide +kernel
theorem dX6_sign_16 : decode cX6_sign 16 = .ok (.getfield 130, 3) := by decide +kernel
theorem dX6_sign_19 : decode cX6_sign 19 = .ok (.iaload, 1) := by decide +kernel
theorem dX6_sign_20 : decode cX6_sign 20 = .ok (.goto 4, 3) := by decide +kernel
theorem dX6_sign_23 : decode cX6_sign 23 = .ok (.iconst (-1), 1) := by decide +kernel
theorem dX6_sign_24 : decode cX6_sign 24 = .ok (.ireturn, 1) := by decide +kernel
set_option maxRecDepth 20000 in
theorem ggX6_takes_X6_sign : GoodIn wsX6_takes wsX6_sign := goodIn_r _ [6, 1, 7, 8, 9, 10, 11, 12, 13, 14, 15, 16, 17, 18, 19, 20, 21, 22, 23, 24, 25, 26, 27, 28, 29, 30, 31, 32, 33, 34, 35, 36, 37, 38, 39] (by decide +kernel) (by decide +kernel)
set_option maxRecDepth 20000 in
theorem gX6_takes_X6_sign : GoodIn wsX6_takes (wsV RX6 133 RX6 yX6_sign wsX6_sign) := goodIn_app (goodIn_of _ (by decide +kernel)) ggX6_takes_X6_sign
theorem dX6_takes_0 : decode cX6_takes 0 = .ok (.aload_n 0, 1) := by decide +kernel
theorem dX6_takes_1 : decode cX6_takes 1 = .ok (.invokevirtual 133, 3) := by decide +kernel
theorem dX6_takes_4 : decode cX6_takes 4 = .ok (.iload_n 1, 1) := by decide +kernel
theorem dX6_takes_5 : decode cX6_takes 5 = .ok (.if_icmp .eq 5, 3) := by decide +kernel
theorem dX6_takes_8 : decode cX6_takes 8 = .ok (.iconst 0, 1) := by decide +kernel
theorem dX6_takes_9 : decode cX6_takes 9 = .ok (.ireturn, 1) := by decide +kernel
theorem dX6_takes_10 : decode cX6_takes 10 = .ok (.aload_n 0, 1) := by decide +kernel
theorem dX6_takes_11 : decode cX6_takes 11 = .ok (.dup, 1) := by decide +kernel
theorem dX6_takes_12 : decode cX6_takes 12 = .ok (.getfield 130, 3) := by decide +kernel
theorem dX6_takes_15 : decode cX6_takes 15 = .ok (.iconst 1, 1) := by decide +kernel
theorem dX6_takes_16 : decode cX6_takes 16 = .ok (.iadd, 1) := by decide +kernel
theorem dX6_takes_17 : decode cX6_takes 17 = .ok (.putfield 130, 3) := by decide +kernel
theorem dX6_takes_20 : decode cX6_takes 20 = .ok (.iconst 1, 1) := by decide +kernel
theorem dX6_takes_21 : decode cX6_takes 21 = .ok (.ireturn, 1) := by decide +kernel
set_option maxRecDepth 20000 in
theorem ggX6_letters_X6_sign : GoodIn wsX6_letters wsX6_sign := goodIn_r _ [6, 1, 7, 8, 14, 15, 16, 17, 18, 19, 20, 21, 22, 23, 24, 25, 26, 27, 28, 29, 30, 31, 32, 33, 34, 35, 36, 37, 38, 39, 40, 41, 42, 43, 44] (by decide +kernel) (by decide +kernel)
set_option maxRecDepth 20000 in
theorem gX6_letters_X6_sign : GoodIn wsX6_letters (wsV RX6 133 RX6 yX6_sign wsX6_sign) := goodIn_app (goodIn_of _ (by decide +kernel)) ggX6_letters_X6_sign
set_option maxRecDepth 20000 in
theorem ggX6_letters_X6_isStep : GoodIn wsX6_letters wsX6_isStep := goodIn_r _ [12, 13, 14, 15, 16, 17, 18, 19, 20, 21, 22, 23, 24, 25, 26, 27, 28, 29, 30, 31, 32, 33, 34, 35, 36, 37, 38, 39, 40, 41, 42, 43, 44] (by decide +kernel) (by decide +kernel)
set_option maxRecDepth 20000 in
theorem gX6_letters_X6_isStep : GoodIn wsX6_letters (wsV RX6 93 RX6 yX6_isStep wsX6_isStep) := goodIn_app (goodIn_of _ (by decide +kernel)) ggX6_letters_X6_isStep
theorem dX6_letters_0 : decode cX6_letters 0 = .ok (.iconst 0, 1) := by decide +kernel
theorem dX6_letters_1 : decode cX6_letters 1 = .ok (.istore_n 1, 1) := by decide +kernel
theorem dX6_letters_2 : decode cX6_letters 2 = .ok (.aload_n 0, 1) := by decide +kernel
theorem dX6_letters_3 : decode cX6_letters 3 = .ok (.aload_n 0, 1) := by decide +kernel
theorem dX6_letters_4 : decode cX6_letters 4 = .ok (.invokevirtual 133, 3) := by decide +kernel
theorem dX6_letters_7 : decode cX6_letters 7 = .ok (.bipush 97, 2) := by decide +kernel
theorem dX6_letters_9 : decode cX6_letters 9 = .ok (.isub, 1) := by decide +kernel
theorem dX6_letters_10 : decode cX6_letters 10 = .ok (.invokevirtual 93, 3) := by decide +kernel
theorem dX6_letters_13 : decode cX6_letters 13 = .ok (.ifCond .eq 41, 3) := by decide +kernel
theorem dX6_letters_16 : decode cX6_letters 16 = .ok (.iload_n 1, 1) := by decide +kernel
theorem dX6_letters_17 : decode cX6_letters 17 = .ok (.iconst 1, 1) := by decide +kernel
theorem dX6_letters_18 : decode cX6_letters 18 = .ok (.aload_n 0, 1) := by decide +kernel
theorem dX6_letters_19 : decode cX6_letters 19 = .ok (.invokevirtual 133, 3) := by decide +kernel
theorem dX6_letters_22 : decode cX6_letters 22 = .ok (.bipush 97, 2) := by decide +kernel
theorem dX6_letters_24 : decode cX6_letters 24 = .ok (.isub, 1) := by decide +kernel
theorem dX6_letters_25 : decode cX6_letters 25 = .ok (.ishl, 1) := by decide +kernel
theorem dX6_letters_26 : decode cX6_letters 26 = .ok (.if_icmp .ge 28, 3) := by decide +kernel
theorem dX6_letters_29 : decode cX6_letters 29 = .ok (.iload_n 1, 1) := by decide +kernel
theorem dX6_letters_30 : decode cX6_letters 30 = .ok (.iconst 1, 1) := by decide +kernel
theorem dX6_letters_31 : decode cX6_letters 31 = .ok (.aload_n 0, 1) := by decide +kernel
theorem dX6_letters_32 : decode cX6_letters 32 = .ok (.invokevirtual 133, 3) := by decide +kernel
theorem dX6_letters_35 : decode cX6_letters 35 = .ok (.bipush 97, 2) := by decide +kernel
theorem dX6_letters_37 : decode cX6_letters 37 = .ok (.isub, 1) := by decide +kernel
theorem dX6_letters_38 : decode cX6_letters 38 = .ok (.ishl, 1) := by decide +kernel
theorem dX6_letters_39 : decode cX6_letters 39 = .ok (.ior, 1) := by decide +kernel
theorem dX6_letters_40 : decode cX6_letters 40 = .ok (.istore_n 1, 1) := by decide +kernel
theorem dX6_letters_41 : decode cX6_letters 41 = .ok (.aload_n 0, 1) := by decide +kernel
theorem dX6_letters_42 : decode cX6_letters 42 = .ok (.dup, 1) := by decide +kernel
theorem dX6_letters_43 : decode cX6_letters 43 = .ok (.getfield 130, 3) := by decide +kernel
theorem dX6_letters_46 : decode cX6_letters 46 = .ok (.iconst 1, 1) := by decide +kernel
theorem dX6_letters_47 : decode cX6_letters 47 = .ok (.iadd, 1) := by decide +kernel
theorem dX6_letters_48 : decode cX6_letters 48 = .ok (.putfield 130, 3) := by decide +kernel
theorem dX6_letters_51 : decode cX6_letters 51 = .ok (.goto (-49), 3) := by decide +kernel
theorem dX6_letters_54 : decode cX6_letters 54 = .ok (.iload_n 1, 1) := by decide +kernel
theorem dX6_letters_55 : decode cX6_letters 55 = .ok (.ireturn, 1) := by decide +kernel
set_option maxRecDepth 20000 in
theorem ggX6_readsTwo_X6_sign : GoodIn wsX6_readsTwo wsX6_sign := goodIn_r _ [6, 1, 7, 8, 36, 37, 38, 39, 40, 41, 42, 43, 44, 45, 46, 47, 48, 49, 50, 51, 52, 53, 54, 55, 56, 57, 58, 59, 60, 61, 62, 63, 64, 65, 66] (by decide +kernel) (by decide +kernel)
set_option maxRecDepth 20000 in
theorem gX6_readsTwo_X6_sign : GoodIn wsX6_readsTwo (wsV RX6 133 RX6 yX6_sign wsX6_sign) := goodIn_app (goodIn_of _ (by decide +kernel)) ggX6_readsTwo_X6_sign
set_option maxRecDepth 20000 in
theorem ggX6_readsTwo_X6_isHand : GoodIn wsX6_readsTwo wsX6_isHand := goodIn_r _ [12, 13, 36, 37, 38, 39, 40, 41, 42, 43, 44, 45, 46, 47, 48, 49, 50, 51, 52, 53, 54, 55, 56, 57, 58, 59, 60, 61, 62, 63, 64, 65, 66] (by decide +kernel) (by decide +kernel)
set_option maxRecDepth 20000 in
theorem gX6_readsTwo_X6_isHand : GoodIn wsX6_readsTwo (wsV RX6 99 RX6 yX6_isHand wsX6_isHand) := goodIn_app (goodIn_of _ (by decide +kernel)) ggX6_readsTwo_X6_isHand
set_option maxRecDepth 20000 in
theorem ggX6_readsTwo_X6_hasSight : GoodIn wsX6_readsTwo wsX6_hasSight := goodIn_r _ [17, 18, 19, 20, 36, 37, 38, 39, 40, 41, 42, 43, 44, 45, 46, 47, 48, 49, 50, 51, 52, 53, 54, 55, 56, 57, 58, 59, 60, 61, 62, 63, 64, 65, 66] (by decide +kernel) (by decide +kernel)
set_option maxRecDepth 20000 in
theorem gX6_readsTwo_X6_hasSight : GoodIn wsX6_readsTwo (wsV RX6 109 RX6 yX6_hasSight wsX6_hasSight) := goodIn_app (goodIn_of _ (by decide +kernel)) ggX6_readsTwo_X6_hasSight
set_option maxRecDepth 20000 in
theorem ggX6_readsTwo_X6_takes : GoodIn wsX6_readsTwo wsX6_takes := goodIn_r _ [24, 1, 2, 3, 4, 5, 6, 7, 8, 36, 37, 38, 39, 40, 41, 42, 43, 44, 45, 46, 47, 48, 49, 50, 51, 52, 53, 54, 55, 56, 57, 58, 59, 60, 61, 62, 63, 64, 65, 66] (by decide +kernel) (by decide +kernel)
set_option maxRecDepth 20000 in
theorem gX6_readsTwo_X6_takes : GoodIn wsX6_readsTwo (wsV RX6 136 RX6 yX6_takes wsX6_takes) := goodIn_app (goodIn_of _ (by decide +kernel)) ggX6_readsTwo_X6_takes
set_option maxRecDepth 20000 in
theorem ggX6_readsTwo_X6_comesSight : GoodIn wsX6_readsTwo wsX6_comesSight := goodIn_r _ [28, 19, 18, 20, 36, 37, 38, 39, 40, 41, 42, 43, 44, 45, 46, 47, 48, 49, 50, 51, 52, 53, 54, 55, 56, 57, 58, 59, 60, 61, 62, 63, 64, 65, 66] (by decide +kernel) (by decide +kernel)
set_option maxRecDepth 20000 in
theorem gX6_readsTwo_X6_comesSight : GoodIn wsX6_readsTwo (wsV RX6 112 RX6 yX6_comesSight wsX6_comesSight) := goodIn_app (goodIn_of _ (by decide +kernel)) ggX6_readsTwo_X6_comesSight
set_option maxRecDepth 20000 in
theorem ggX6_readsTwo_X6_comesTie : GoodIn wsX6_readsTwo wsX6_comesTie := goodIn_r _ [32, 33, 34, 35, 36, 37, 38, 39, 40, 41, 42, 43, 44, 45, 46, 47, 48, 49, 50, 51, 52, 53, 54, 55, 56, 57, 58, 59, 60, 61, 62, 63, 64, 65, 66] (by decide +kernel) (by decide +kernel)
set_option maxRecDepth 20000 in
theorem gX6_readsTwo_X6_comesTie : GoodIn wsX6_readsTwo (wsV RX6 119 RX6 yX6_comesTie wsX6_comesTie) := goodIn_app (goodIn_of _ (by decide +kernel)) ggX6_readsTwo_X6_comesTie
theorem dX6_readsTwo_0 : decode cX6_readsTwo 0 = .ok (.aload_n 0, 1) := by decide +kernel
theorem dX6_readsTwo_1 : decode cX6_readsTwo 1 = .ok (.getfield 130, 3) := by decide +kernel
theorem dX6_readsTwo_4 : decode cX6_readsTwo 4 = .ok (.iconst 1, 1) := by decide +kernel
theorem dX6_readsTwo_5 : decode cX6_readsTwo 5 = .ok (.isub, 1) := by decide +kernel
theorem dX6_readsTwo_6 : decode cX6_readsTwo 6 = .ok (.istore_n 2, 1) := by decide +kernel
theorem dX6_readsTwo_7 : decode cX6_readsTwo 7 = .ok (.aload_n 0, 1) := by decide +kernel
theorem dX6_readsTwo_8 : decode cX6_readsTwo 8 = .ok (.invokevirtual 133, 3) := by decide +kernel
theorem dX6_readsTwo_11 : decode cX6_readsTwo 11 = .ok (.bipush 48, 2) := by decide +kernel
theorem dX6_readsTwo_13 : decode cX6_readsTwo 13 = .ok (.isub, 1) := by decide +kernel
theorem dX6_readsTwo_14 : decode cX6_readsTwo 14 = .ok (.istore_n 3, 1) := by decide +kernel
theorem dX6_readsTwo_15 : decode cX6_readsTwo 15 = .ok (.aload_n 0, 1) := by decide +kernel
theorem dX6_readsTwo_16 : decode cX6_readsTwo 16 = .ok (.iload_n 3, 1) := by decide +kernel
theorem dX6_readsTwo_17 : decode cX6_readsTwo 17 = .ok (.invokevirtual 99, 3) := by decide +kernel
theorem dX6_readsTwo_20 : decode cX6_readsTwo 20 = .ok (.ifCond .ne 5, 3) := by decide +kernel
theorem dX6_readsTwo_23 : decode cX6_readsTwo 23 = .ok (.iconst 0, 1) := by decide +kernel
theorem dX6_readsTwo_24 : decode cX6_readsTwo 24 = .ok (.ireturn, 1) := by decide +kernel
theorem dX6_readsTwo_25 : decode cX6_readsTwo 25 = .ok (.aload_n 0, 1) := by decide +kernel
theorem dX6_readsTwo_26 : decode cX6_readsTwo 26 = .ok (.dup, 1) := by decide +kernel
theorem dX6_readsTwo_27 : decode cX6_readsTwo 27 = .ok (.getfield 130, 3) := by decide +kernel
theorem dX6_readsTwo_30 : decode cX6_readsTwo 30 = .ok (.iconst 1, 1) := by decide +kernel
theorem dX6_readsTwo_31 : decode cX6_readsTwo 31 = .ok (.iadd, 1) := by decide +kernel
theorem dX6_readsTwo_32 : decode cX6_readsTwo 32 = .ok (.putfield 130, 3) := by decide +kernel
theorem dX6_readsTwo_35 : decode cX6_readsTwo 35 = .ok (.aload_n 0, 1) := by decide +kernel
theorem dX6_readsTwo_36 : decode cX6_readsTwo 36 = .ok (.invokevirtual 133, 3) := by decide +kernel
theorem dX6_readsTwo_39 : decode cX6_readsTwo 39 = .ok (.bipush 48, 2) := by decide +kernel
theorem dX6_readsTwo_41 : decode cX6_readsTwo 41 = .ok (.isub, 1) := by decide +kernel
theorem dX6_readsTwo_42 : decode cX6_readsTwo 42 = .ok (.istore 4, 2) := by decide +kernel
theorem dX6_readsTwo_44 : decode cX6_readsTwo 44 = .ok (.aload_n 0, 1) := by decide +kernel
theorem dX6_readsTwo_45 : decode cX6_readsTwo 45 = .ok (.iload 4, 2) := by decide +kernel
theorem dX6_readsTwo_47 : decode cX6_readsTwo 47 = .ok (.invokevirtual 99, 3) := by decide +kernel
theorem dX6_readsTwo_50 : decode cX6_readsTwo 50 = .ok (.ifCond .eq 9, 3) := by decide +kernel
theorem dX6_readsTwo_53 : decode cX6_readsTwo 53 = .ok (.iload_n 3, 1) := by decide +kernel
theorem dX6_readsTwo_54 : decode cX6_readsTwo 54 = .ok (.iload 4, 2) := by decide +kernel
theorem dX6_readsTwo_56 : decode cX6_readsTwo 56 = .ok (.if_icmp .ne 5, 3) := by decide +kernel
theorem dX6_readsTwo_59 : decode cX6_readsTwo 59 = .ok (.iconst 0, 1) := by decide +kernel
theorem dX6_readsTwo_60 : decode cX6_readsTwo 60 = .ok (.ireturn, 1) := by decide +kernel
theorem dX6_readsTwo_61 : decode cX6_readsTwo 61 = .ok (.aload_n 0, 1) := by decide +kernel
theorem dX6_readsTwo_62 : decode cX6_readsTwo 62 = .ok (.dup, 1) := by decide +kernel
theorem dX6_readsTwo_63 : decode cX6_readsTwo 63 = .ok (.getfield 130, 3) := by decide +kernel
theorem dX6_readsTwo_66 : decode cX6_readsTwo 66 = .ok (.iconst 1, 1) := by decide +kernel
theorem dX6_readsTwo_67 : decode cX6_readsTwo 67 = .ok (.iadd, 1) := by decide +kernel
theorem dX6_readsTwo_68 : decode cX6_readsTwo 68 = .ok (.putfield 130, 3) := by decide +kernel
theorem dX6_readsTwo_71 : decode cX6_readsTwo 71 = .ok (.iload_n 1, 1) := by decide +kernel
theorem dX6_readsTwo_72 : decode cX6_readsTwo 72 = .ok (.ifCond .eq 20, 3) := by decide +kernel
theorem dX6_readsTwo_75 : decode cX6_readsTwo 75 = .ok (.aload_n 0, 1) := by decide +kernel
theorem dX6_readsTwo_76 : decode cX6_readsTwo 76 = .ok (.iload_n 3, 1) := by decide +kernel
theorem dX6_readsTwo_77 : decode cX6_readsTwo 77 = .ok (.iload 4, 2) := by decide +kernel
theorem dX6_readsTwo_79 : decode cX6_readsTwo 79 = .ok (.invokevirtual 109, 3) := by decide +kernel
theorem dX6_readsTwo_82 : decode cX6_readsTwo 82 = .ok (.ifCond .eq 10, 3) := by decide +kernel
theorem dX6_readsTwo_85 : decode cX6_readsTwo 85 = .ok (.aload_n 0, 1) := by decide +kernel
theorem dX6_readsTwo_86 : decode cX6_readsTwo 86 = .ok (.iload_n 2, 1) := by decide +kernel
theorem dX6_readsTwo_87 : decode cX6_readsTwo 87 = .ok (.putfield 130, 3) := by decide +kernel
theorem dX6_readsTwo_90 : decode cX6_readsTwo 90 = .ok (.iconst 0, 1) := by decide +kernel
theorem dX6_readsTwo_91 : decode cX6_readsTwo 91 = .ok (.ireturn, 1) := by decide +kernel
theorem dX6_readsTwo_92 : decode cX6_readsTwo 92 = .ok (.aload_n 0, 1) := by decide +kernel
theorem dX6_readsTwo_93 : decode cX6_readsTwo 93 = .ok (.bipush 59, 2) := by decide +kernel
theorem dX6_readsTwo_95 : decode cX6_readsTwo 95 = .ok (.invokevirtual 136, 3) := by decide +kernel
theorem dX6_readsTwo_98 : decode cX6_readsTwo 98 = .ok (.ifCond .ne 5, 3) := by decide +kernel
theorem dX6_readsTwo_101 : decode cX6_readsTwo 101 = .ok (.iconst 0, 1) := by decide +kernel
theorem dX6_readsTwo_102 : decode cX6_readsTwo 102 = .ok (.ireturn, 1) := by decide +kernel
theorem dX6_readsTwo_103 : decode cX6_readsTwo 103 = .ok (.iload_n 1, 1) := by decide +kernel
theorem dX6_readsTwo_104 : decode cX6_readsTwo 104 = .ok (.ifCond .eq 14, 3) := by decide +kernel
theorem dX6_readsTwo_107 : decode cX6_readsTwo 107 = .ok (.aload_n 0, 1) := by decide +kernel
theorem dX6_readsTwo_108 : decode cX6_readsTwo 108 = .ok (.iload_n 3, 1) := by decide +kernel
theorem dX6_readsTwo_109 : decode cX6_readsTwo 109 = .ok (.iload 4, 2) := by decide +kernel
theorem dX6_readsTwo_111 : decode cX6_readsTwo 111 = .ok (.invokevirtual 112, 3) := by decide +kernel
theorem dX6_readsTwo_114 : decode cX6_readsTwo 114 = .ok (.pop, 1) := by decide +kernel
theorem dX6_readsTwo_115 : decode cX6_readsTwo 115 = .ok (.goto 11, 3) := by decide +kernel
theorem dX6_readsTwo_118 : decode cX6_readsTwo 118 = .ok (.aload_n 0, 1) := by decide +kernel
theorem dX6_readsTwo_119 : decode cX6_readsTwo 119 = .ok (.iload_n 3, 1) := by decide +kernel
theorem dX6_readsTwo_120 : decode cX6_readsTwo 120 = .ok (.iload 4, 2) := by decide +kernel
theorem dX6_readsTwo_122 : decode cX6_readsTwo 122 = .ok (.invokevirtual 119, 3) := by decide +kernel
theorem dX6_readsTwo_125 : decode cX6_readsTwo 125 = .ok (.pop, 1) := by decide +kernel
theorem dX6_readsTwo_126 : decode cX6_readsTwo 126 = .ok (.iconst 1, 1) := by decide +kernel
theorem dX6_readsTwo_127 : decode cX6_readsTwo 127 = .ok (.ireturn, 1) := by decide +kernel
set_option maxRecDepth 20000 in
theorem ggX6_readsGuess_X6_letters : GoodIn wsX6_readsGuess wsX6_letters := goodIn_r _ [6, 1, 7, 8, 9, 5, 10, 11, 12, 13, 14, 15, 16, 17, 29, 30, 31, 32, 33, 34, 35, 36, 37, 38, 39, 40, 41, 42, 43, 44, 45, 46, 47, 48, 49, 50, 51, 52, 53, 54, 55, 56, 57, 58, 59] (by decide +kernel) (by decide +kernel)
set_option maxRecDepth 20000 in
theorem gX6_readsGuess_X6_letters : GoodIn wsX6_readsGuess (wsV RX6 139 RX6 yX6_letters wsX6_letters) := goodIn_app (goodIn_of _ (by decide +kernel)) ggX6_readsGuess_X6_letters
set_option maxRecDepth 20000 in
theorem ggX6_readsGuess_X6_takes : GoodIn wsX6_readsGuess wsX6_takes := goodIn_r _ [21, 1, 7, 8, 9, 5, 10, 11, 12, 29, 30, 31, 32, 33, 34, 35, 36, 37, 38, 39, 40, 41, 42, 43, 44, 45, 46, 47, 48, 49, 50, 51, 52, 53, 54, 55, 56, 57, 58, 59] (by decide +kernel) (by decide +kernel)
set_option maxRecDepth 20000 in
theorem gX6_readsGuess_X6_takes : GoodIn wsX6_readsGuess (wsV RX6 136 RX6 yX6_takes wsX6_takes) := goodIn_app (goodIn_of _ (by decide +kernel)) ggX6_readsGuess_X6_takes
