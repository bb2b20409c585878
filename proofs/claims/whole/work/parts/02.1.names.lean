theorem dX0_init_0 : decode cX0_init 0 = .ok (.aload_n 0, 1) := by decide +kernel
theorem dX0_init_1 : decode cX0_init 1 = .ok (.invokespecial 3, 3) := by decide +kernel
theorem dX0_init_4 : decode cX0_init 4 = .ok (.aload_n 0, 1) := by decide +kernel
theorem dX0_init_5 : decode cX0_init 5 = .ok (.bipush 70, 2) := by decide +kernel
theorem dX0_init_7 : decode cX0_init 7 = .ok (.newarray .int, 2) := by decide +kernel
theorem dX0_init_9 : decode cX0_init 9 = .ok (.putfield 9, 3) := by decide +kernel
theorem dX0_init_12 : decode cX0_init 12 = .ok (.aload_n 0, 1) := by decide +kernel
theorem dX0_init_13 : decode cX0_init 13 = .ok (.iconst 0, 1) := by decide +kernel
theorem dX0_init_14 : decode cX0_init 14 = .ok (.putfield 15, 3) := by decide +kernel
theorem dX0_init_17 : decode cX0_init 17 = .ok (.aload_n 0, 1) := by decide +kernel
theorem dX0_init_18 : decode cX0_init 18 = .ok (.iconst 0, 1) := by decide +kernel
theorem dX0_init_19 : decode cX0_init 19 = .ok (.putfield 19, 3) := by decide +kernel
theorem dX0_init_22 : decode cX0_init 22 = .ok (.return_, 1) := by decide +kernel
set_option maxRecDepth 20000 in
theorem ggX0_choose_J6_bitCount_0f7a4 : GoodIn wsX0_choose wsJ6_bitCount_0f7a4 := goodIn_r _ [11, 12, 13, 14] (by decide +kernel) (by decide +kernel)
set_option maxRecDepth 20000 in
theorem gX0_choose_J6_bitCount_0f7a4 : GoodIn wsX0_choose (va_wsS RX0 22 yJ6_bitCount_0f7a4 wsJ6_bitCount_0f7a4) := goodIn_app (goodIn_of _ (by decide +kernel)) ggX0_choose_J6_bitCount_0f7a4
theorem dX0_choose_0 : decode cX0_choose 0 = .ok (.iload_n 2, 1) := by decide +kernel
theorem dX0_choose_1 : decode cX0_choose 1 = .ok (.iload_n 1, 1) := by decide +kernel
theorem dX0_choose_2 : decode cX0_choose 2 = .ok (.invokestatic 22, 3) := by decide +kernel
theorem dX0_choose_5 : decode cX0_choose 5 = .ok (.invokestatic 28, 3) := by decide +kernel
theorem dX0_choose_8 : decode cX0_choose 8 = .ok (.istore_n 3, 1) := by decide +kernel
theorem dX0_choose_9 : decode cX0_choose 9 = .ok (.aload_n 0, 1) := by decide +kernel
theorem dX0_choose_10 : decode cX0_choose 10 = .ok (.iconst 0, 1) := by decide +kernel
theorem dX0_choose_11 : decode cX0_choose 11 = .ok (.putfield 15, 3) := by decide +kernel
theorem dX0_choose_14 : decode cX0_choose 14 = .ok (.aload_n 0, 1) := by decide +kernel
theorem dX0_choose_15 : decode cX0_choose 15 = .ok (.iconst 0, 1) := by decide +kernel
theorem dX0_choose_16 : decode cX0_choose 16 = .ok (.putfield 19, 3) := by decide +kernel
theorem dX0_choose_19 : decode cX0_choose 19 = .ok (.iconst 0, 1) := by decide +kernel
theorem dX0_choose_20 : decode cX0_choose 20 = .ok (.istore 4, 2) := by decide +kernel
theorem dX0_choose_22 : decode cX0_choose 22 = .ok (.iload 4, 2) := by decide +kernel
theorem dX0_choose_24 : decode cX0_choose 24 = .ok (.iload_n 1, 1) := by decide +kernel
theorem dX0_choose_25 : decode cX0_choose 25 = .ok (.if_icmp .gt 57, 3) := by decide +kernel
theorem dX0_choose_28 : decode cX0_choose 28 = .ok (.iload 4, 2) := by decide +kernel
theorem dX0_choose_30 : decode cX0_choose 30 = .ok (.iload_n 1, 1) := by decide +kernel
theorem dX0_choose_31 : decode cX0_choose 31 = .ok (.iconst (-1), 1) := by decide +kernel
theorem dX0_choose_32 : decode cX0_choose 32 = .ok (.ixor, 1) := by decide +kernel
theorem dX0_choose_33 : decode cX0_choose 33 = .ok (.iand, 1) := by decide +kernel
theorem dX0_choose_34 : decode cX0_choose 34 = .ok (.ifCond .ne 42, 3) := by decide +kernel
theorem dX0_choose_37 : decode cX0_choose 37 = .ok (.iload 4, 2) := by decide +kernel
theorem dX0_choose_39 : decode cX0_choose 39 = .ok (.invokestatic 22, 3) := by decide +kernel
theorem dX0_choose_42 : decode cX0_choose 42 = .ok (.iload_n 3, 1) := by decide +kernel
theorem dX0_choose_43 : decode cX0_choose 43 = .ok (.if_icmp .ne 33, 3) := by decide +kernel
theorem dX0_choose_46 : decode cX0_choose 46 = .ok (.aload_n 0, 1) := by decide +kernel
theorem dX0_choose_47 : decode cX0_choose 47 = .ok (.getfield 15, 3) := by decide +kernel
theorem dX0_choose_50 : decode cX0_choose 50 = .ok (.bipush 70, 2) := by decide +kernel
theorem dX0_choose_52 : decode cX0_choose 52 = .ok (.if_icmp .ge 24, 3) := by decide +kernel
theorem dX0_choose_55 : decode cX0_choose 55 = .ok (.aload_n 0, 1) := by decide +kernel
theorem dX0_choose_56 : decode cX0_choose 56 = .ok (.getfield 9, 3) := by decide +kernel
theorem dX0_choose_59 : decode cX0_choose 59 = .ok (.aload_n 0, 1) := by decide +kernel
theorem dX0_choose_60 : decode cX0_choose 60 = .ok (.getfield 15, 3) := by decide +kernel
theorem dX0_choose_63 : decode cX0_choose 63 = .ok (.iload 4, 2) := by decide +kernel
theorem dX0_choose_65 : decode cX0_choose 65 = .ok (.iastore, 1) := by decide +kernel
theorem dX0_choose_66 : decode cX0_choose 66 = .ok (.aload_n 0, 1) := by decide +kernel
theorem dX0_choose_67 : decode cX0_choose 67 = .ok (.dup, 1) := by decide +kernel
theorem dX0_choose_68 : decode cX0_choose 68 = .ok (.getfield 15, 3) := by decide +kernel
theorem dX0_choose_71 : decode cX0_choose 71 = .ok (.iconst 1, 1) := by decide +kernel
theorem dX0_choose_72 : decode cX0_choose 72 = .ok (.iadd, 1) := by decide +kernel
theorem dX0_choose_73 : decode cX0_choose 73 = .ok (.putfield 15, 3) := by decide +kernel
theorem dX0_choose_76 : decode cX0_choose 76 = .ok (.iinc 4 1, 3) := by decide +kernel
theorem dX0_choose_79 : decode cX0_choose 79 = .ok (.goto (-57), 3) := by decide +kernel
theorem dX0_choose_82 : decode cX0_choose 82 = .ok (.return_, 1) := by decide +kernel
theorem dX0_next_0 : decode cX0_next 0 = .ok (.iload_n 1, 1) := by decide +kernel
theorem dX0_next_1 : decode cX0_next 1 = .ok (.iconst 1, 1) := by decide +kernel
theorem dX0_next_2 : decode cX0_next 2 = .ok (.iadd, 1) := by decide +kernel
theorem dX0_next_3 : decode cX0_next 3 = .ok (.aload_n 0, 1) := by decide +kernel
theorem dX0_next_4 : decode cX0_next 4 = .ok (.getfield 15, 3) := by decide +kernel
theorem dX0_next_7 : decode cX0_next 7 = .ok (.if_icmp .ge 9, 3) := by decide +kernel
theorem dX0_next_10 : decode cX0_next 10 = .ok (.iload_n 1, 1) := by decide +kernel
theorem dX0_next_11 : decode cX0_next 11 = .ok (.iconst 1, 1) := by decide +kernel
theorem dX0_next_12 : decode cX0_next 12 = .ok (.iadd, 1) := by decide +kernel
theorem dX0_next_13 : decode cX0_next 13 = .ok (.goto 4, 3) := by decide +kernel
theorem dX0_next_16 : decode cX0_next 16 = .ok (.iconst 0, 1) := by decide +kernel
theorem dX0_next_17 : decode cX0_next 17 = .ok (.ireturn, 1) := by decide +kernel
set_option maxRecDepth 20000 in
theorem ggX1_init_X3_init : GoodIn wsX1_init wsX3_init := goodIn_r _ [18, 19, 2, 3, 4, 20, 21, 22, 32, 33, 34] (by decide +kernel) (by decide +kernel)
set_option maxRecDepth 20000 in
theorem gX1_init_X3_init_n20 : GoodIn wsX1_init (wsX3_init) := ggX1_init_X3_init
theorem dX1_init_0 : decode cX1_init 0 = .ok (.aload_n 0, 1) := by decide +kernel
theorem dX1_init_1 : decode cX1_init 1 = .ok (.invokespecial 3, 3) := by decide +kernel
theorem dX1_init_4 : decode cX1_init 4 = .ok (.aload_n 0, 1) := by decide +kernel
theorem dX1_init_5 : decode cX1_init 5 = .ok (.bipush 8, 2) := by decide +kernel
theorem dX1_init_7 : decode cX1_init 7 = .ok (.newarray .int, 2) := by decide +kernel
theorem dX1_init_9 : decode cX1_init 9 = .ok (.putfield 9, 3) := by decide +kernel
theorem dX1_init_12 : decode cX1_init 12 = .ok (.aload_n 0, 1) := by decide +kernel
theorem dX1_init_13 : decode cX1_init 13 = .ok (.bipush 8, 2) := by decide +kernel
theorem dX1_init_15 : decode cX1_init 15 = .ok (.newarray .int, 2) := by decide +kernel
theorem dX1_init_17 : decode cX1_init 17 = .ok (.putfield 15, 3) := by decide +kernel
theorem dX1_init_20 : decode cX1_init 20 = .ok (.aload_n 0, 1) := by decide +kernel
theorem dX1_init_21 : decode cX1_init 21 = .ok (.new 18, 3) := by decide +kernel
theorem dX1_init_24 : decode cX1_init 24 = .ok (.dup, 1) := by decide +kernel
theorem dX1_init_25 : decode cX1_init 25 = .ok (.invokespecial 20, 3) := by decide +kernel
theorem dX1_init_28 : decode cX1_init 28 = .ok (.putfield 21, 3) := by decide +kernel
theorem dX1_init_31 : decode cX1_init 31 = .ok (.aload_n 0, 1) := by decide +kernel
theorem dX1_init_32 : decode cX1_init 32 = .ok (.new 18, 3) := by decide +kernel
theorem dX1_init_35 : decode cX1_init 35 = .ok (.dup, 1) := by decide +kernel
theorem dX1_init_36 : decode cX1_init 36 = .ok (.invokespecial 20, 3) := by decide +kernel
theorem dX1_init_39 : decode cX1_init 39 = .ok (.putfield 25, 3) := by decide +kernel
theorem dX1_init_42 : decode cX1_init 42 = .ok (.aload_n 0, 1) := by decide +kernel
theorem dX1_init_43 : decode cX1_init 43 = .ok (.new 18, 3) := by decide +kernel
theorem dX1_init_46 : decode cX1_init 46 = .ok (.dup, 1) := by decide +kernel
theorem dX1_init_47 : decode cX1_init 47 = .ok (.invokespecial 20, 3) := by decide +kernel
theorem dX1_init_50 : decode cX1_init 50 = .ok (.putfield 28, 3) := by decide +kernel
theorem dX1_init_53 : decode cX1_init 53 = .ok (.aload_n 0, 1) := by decide +kernel
theorem dX1_init_54 : decode cX1_init 54 = .ok (.iconst 4, 1) := by decide +kernel
theorem dX1_init_55 : decode cX1_init 55 = .ok (.putfield 31, 3) := by decide +kernel
theorem dX1_init_58 : decode cX1_init 58 = .ok (.aload_n 0, 1) := by decide +kernel
theorem dX1_init_59 : decode cX1_init 59 = .ok (.iconst 0, 1) := by decide +kernel
theorem dX1_init_60 : decode cX1_init 60 = .ok (.putfield 35, 3) := by decide +kernel
theorem dX1_init_63 : decode cX1_init 63 = .ok (.aload_n 0, 1) := by decide +kernel
theorem dX1_init_64 : decode cX1_init 64 = .ok (.iconst 0, 1) := by decide +kernel
theorem dX1_init_65 : decode cX1_init 65 = .ok (.putfield 38, 3) := by decide +kernel
theorem dX1_init_68 : decode cX1_init 68 = .ok (.aload_n 0, 1) := by decide +kernel
theorem dX1_init_69 : decode cX1_init 69 = .ok (.iconst 0, 1) := by decide +kernel
theorem dX1_init_70 : decode cX1_init 70 = .ok (.putfield 41, 3) := by decide +kernel
theorem dX1_init_73 : decode cX1_init 73 = .ok (.return_, 1) := by decide +kernel
theorem dX1_it_0 : decode cX1_it 0 = .ok (.iconst 1, 1) := by decide +kernel
theorem dX1_it_1 : decode cX1_it 1 = .ok (.aload_n 0, 1) := by decide +kernel
theorem dX1_it_2 : decode cX1_it 2 = .ok (.getfield 31, 3) := by decide +kernel
theorem dX1_it_5 : decode cX1_it 5 = .ok (.ishl, 1) := by decide +kernel
theorem dX1_it_6 : decode cX1_it 6 = .ok (.iconst 1, 1) := by decide +kernel
theorem dX1_it_7 : decode cX1_it 7 = .ok (.isub, 1) := by decide +kernel
theorem dX1_it_8 : decode cX1_it 8 = .ok (.ireturn, 1) := by decide +kernel
theorem dX1_inHouse_0 : decode cX1_inHouse 0 = .ok (.iconst 1, 1) := by decide +kernel
theorem dX1_inHouse_1 : decode cX1_inHouse 1 = .ok (.aload_n 0, 1) := by decide +kernel
theorem dX1_inHouse_2 : decode cX1_inHouse 2 = .ok (.getfield 35, 3) := by decide +kernel
theorem dX1_inHouse_5 : decode cX1_inHouse 5 = .ok (.ishl, 1) := by decide +kernel
theorem dX1_inHouse_6 : decode cX1_inHouse 6 = .ok (.iconst 1, 1) := by decide +kernel
theorem dX1_inHouse_7 : decode cX1_inHouse 7 = .ok (.isub, 1) := by decide +kernel
theorem dX1_inHouse_8 : decode cX1_inHouse 8 = .ok (.aload_n 0, 1) := by decide +kernel
theorem dX1_inHouse_9 : decode cX1_inHouse 9 = .ok (.getfield 38, 3) := by decide +kernel
theorem dX1_inHouse_12 : decode cX1_inHouse 12 = .ok (.iconst (-1), 1) := by decide +kernel
theorem dX1_inHouse_13 : decode cX1_inHouse 13 = .ok (.ixor, 1) := by decide +kernel
theorem dX1_inHouse_14 : decode cX1_inHouse 14 = .ok (.iand, 1) := by decide +kernel
theorem dX1_inHouse_15 : decode cX1_inHouse 15 = .ok (.ireturn, 1) := by decide +kernel
theorem dX1_isStep_0 : decode cX1_isStep 0 = .ok (.iload_n 1, 1) := by decide +kernel
theorem dX1_isStep_1 : decode cX1_isStep 1 = .ok (.ifCond .lt 15, 3) := by decide +kernel
theorem dX1_isStep_4 : decode cX1_isStep 4 = .ok (.iload_n 1, 1) := by decide +kernel
theorem dX1_isStep_5 : decode cX1_isStep 5 = .ok (.aload_n 0, 1) := by decide +kernel
theorem dX1_isStep_6 : decode cX1_isStep 6 = .ok (.getfield 31, 3) := by decide +kernel
theorem dX1_isStep_9 : decode cX1_isStep 9 = .ok (.if_icmp .ge 7, 3) := by decide +kernel
theorem dX1_isStep_12 : decode cX1_isStep 12 = .ok (.iconst 1, 1) := by decide +kernel
theorem dX1_isStep_13 : decode cX1_isStep 13 = .ok (.goto 4, 3) := by decide +kernel
theorem dX1_isStep_16 : decode cX1_isStep 16 = .ok (.iconst 0, 1) := by decide +kernel
theorem dX1_isStep_17 : decode cX1_isStep 17 = .ok (.ireturn, 1) := by decide +kernel
theorem dX1_isStepSet_0 : decode cX1_isStepSet 0 = .ok (.iload_n 1, 1) := by decide +kernel
theorem dX1_isStepSet_1 : decode cX1_isStepSet 1 = .ok (.aload_n 0, 1) := by decide +kernel
theorem dX1_isStepSet_2 : decode cX1_isStepSet 2 = .ok (.getfield 31, 3) := by decide +kernel
theorem dX1_isStepSet_5 : decode cX1_isStepSet 5 = .ok (.ishr, 1) := by decide +kernel
theorem dX1_isStepSet_6 : decode cX1_isStepSet 6 = .ok (.ifCond .ne 7, 3) := by decide +kernel
theorem dX1_isStepSet_9 : decode cX1_isStepSet 9 = .ok (.iconst 1, 1) := by decide +kernel
theorem dX1_isStepSet_10 : decode cX1_isStepSet 10 = .ok (.goto 4, 3) := by decide +kernel
theorem dX1_isStepSet_13 : decode cX1_isStepSet 13 = .ok (.iconst 0, 1) := by decide +kernel
theorem dX1_isStepSet_14 : decode cX1_isStepSet 14 = .ok (.ireturn, 1) := by decide +kernel
theorem dX1_isHand_0 : decode cX1_isHand 0 = .ok (.iload_n 1, 1) := by decide +kernel
theorem dX1_isHand_1 : decode cX1_isHand 1 = .ok (.ifCond .lt 15, 3) := by decide +kernel
theorem dX1_isHand_4 : decode cX1_isHand 4 = .ok (.iload_n 1, 1) := by decide +kernel
theorem dX1_isHand_5 : decode cX1_isHand 5 = .ok (.aload_n 0, 1) := by decide +kernel
theorem dX1_isHand_6 : decode cX1_isHand 6 = .ok (.getfield 35, 3) := by decide +kernel
theorem dX1_isHand_9 : decode cX1_isHand 9 = .ok (.if_icmp .ge 7, 3) := by decide +kernel
theorem dX1_isHand_12 : decode cX1_isHand 12 = .ok (.iconst 1, 1) := by decide +kernel
theorem dX1_isHand_13 : decode cX1_isHand 13 = .ok (.goto 4, 3) := by decide +kernel
theorem dX1_isHand_16 : decode cX1_isHand 16 = .ok (.iconst 0, 1) := by decide +kernel
theorem dX1_isHand_17 : decode cX1_isHand 17 = .ok (.ireturn, 1) := by decide +kernel
theorem dX1_isHandSet_0 : decode cX1_isHandSet 0 = .ok (.iload_n 1, 1) := by decide +kernel
theorem dX1_isHandSet_1 : decode cX1_isHandSet 1 = .ok (.aload_n 0, 1) := by decide +kernel
theorem dX1_isHandSet_2 : decode cX1_isHandSet 2 = .ok (.getfield 35, 3) := by decide +kernel
theorem dX1_isHandSet_5 : decode cX1_isHandSet 5 = .ok (.ishr, 1) := by decide +kernel
theorem dX1_isHandSet_6 : decode cX1_isHandSet 6 = .ok (.ifCond .ne 7, 3) := by decide +kernel
theorem dX1_isHandSet_9 : decode cX1_isHandSet 9 = .ok (.iconst 1, 1) := by decide +kernel
theorem dX1_isHandSet_10 : decode cX1_isHandSet 10 = .ok (.goto 4, 3) := by decide +kernel
theorem dX1_isHandSet_13 : decode cX1_isHandSet 13 = .ok (.iconst 0, 1) := by decide +kernel
theorem dX1_isHandSet_14 : decode cX1_isHandSet 14 = .ok (.ireturn, 1) := by decide +kernel
set_option maxRecDepth 20000 in
theorem ggX1_areTwoHands_X1_isHand : GoodIn wsX1_areTwoHands wsX1_isHand := goodIn_r _ [5, 6, 7, 8, 9, 10, 11, 12, 13, 14, 15] (by decide +kernel) (by decide +kernel)
set_option maxRecDepth 20000 in
theorem gX1_areTwoHands_X1_isHand : GoodIn wsX1_areTwoHands (wsV RX1 44 RX1 yX1_isHand wsX1_isHand) := goodIn_app (goodIn_of _ (by decide +kernel)) ggX1_areTwoHands_X1_isHand
theorem dX1_areTwoHands_0 : decode cX1_areTwoHands 0 = .ok (.aload_n 0, 1) := by decide +kernel
theorem dX1_areTwoHands_1 : decode cX1_areTwoHands 1 = .ok (.iload_n 1, 1) := by decide +kernel
theorem dX1_areTwoHands_2 : decode cX1_areTwoHands 2 = .ok (.invokevirtual 44, 3) := by decide +kernel
theorem dX1_areTwoHands_5 : decode cX1_areTwoHands 5 = .ok (.ifCond .eq 20, 3) := by decide +kernel
theorem dX1_areTwoHands_8 : decode cX1_areTwoHands 8 = .ok (.aload_n 0, 1) := by decide +kernel
theorem dX1_areTwoHands_9 : decode cX1_areTwoHands 9 = .ok (.iload_n 2, 1) := by decide +kernel
theorem dX1_areTwoHands_10 : decode cX1_areTwoHands 10 = .ok (.invokevirtual 44, 3) := by decide +kernel
theorem dX1_areTwoHands_13 : decode cX1_areTwoHands 13 = .ok (.ifCond .eq 12, 3) := by decide +kernel
theorem dX1_areTwoHands_16 : decode cX1_areTwoHands 16 = .ok (.iload_n 1, 1) := by decide +kernel
theorem dX1_areTwoHands_17 : decode cX1_areTwoHands 17 = .ok (.iload_n 2, 1) := by decide +kernel
theorem dX1_areTwoHands_18 : decode cX1_areTwoHands 18 = .ok (.if_icmp .eq 7, 3) := by decide +kernel
theorem dX1_areTwoHands_21 : decode cX1_areTwoHands 21 = .ok (.iconst 1, 1) := by decide +kernel
theorem dX1_areTwoHands_22 : decode cX1_areTwoHands 22 = .ok (.goto 4, 3) := by decide +kernel
theorem dX1_areTwoHands_25 : decode cX1_areTwoHands 25 = .ok (.iconst 0, 1) := by decide +kernel
theorem dX1_areTwoHands_26 : decode cX1_areTwoHands 26 = .ok (.ireturn, 1) := by decide +kernel
theorem dX1_addHand_0 : decode cX1_addHand 0 = .ok (.aload_n 0, 1) := by decide +kernel
theorem dX1_addHand_1 : decode cX1_addHand 1 = .ok (.getfield 35, 3) := by decide +kernel
theorem dX1_addHand_4 : decode cX1_addHand 4 = .ok (.bipush 8, 2) := by decide +kernel
theorem dX1_addHand_6 : decode cX1_addHand 6 = .ok (.if_icmp .ge 33, 3) := by decide +kernel
theorem dX1_addHand_9 : decode cX1_addHand 9 = .ok (.aload_n 0, 1) := by decide +kernel
theorem dX1_addHand_10 : decode cX1_addHand 10 = .ok (.getfield 9, 3) := by decide +kernel
theorem dX1_addHand_13 : decode cX1_addHand 13 = .ok (.aload_n 0, 1) := by decide +kernel
theorem dX1_addHand_14 : decode cX1_addHand 14 = .ok (.getfield 35, 3) := by decide +kernel
theorem dX1_addHand_17 : decode cX1_addHand 17 = .ok (.iload_n 1, 1) := by decide +kernel
theorem dX1_addHand_18 : decode cX1_addHand 18 = .ok (.iastore, 1) := by decide +kernel
theorem dX1_addHand_19 : decode cX1_addHand 19 = .ok (.aload_n 0, 1) := by decide +kernel
theorem dX1_addHand_20 : decode cX1_addHand 20 = .ok (.getfield 15, 3) := by decide +kernel
theorem dX1_addHand_23 : decode cX1_addHand 23 = .ok (.aload_n 0, 1) := by decide +kernel
theorem dX1_addHand_24 : decode cX1_addHand 24 = .ok (.getfield 35, 3) := by decide +kernel
theorem dX1_addHand_27 : decode cX1_addHand 27 = .ok (.iconst 5, 1) := by decide +kernel
theorem dX1_addHand_28 : decode cX1_addHand 28 = .ok (.iastore, 1) := by decide +kernel
theorem dX1_addHand_29 : decode cX1_addHand 29 = .ok (.aload_n 0, 1) := by decide +kernel
theorem dX1_addHand_30 : decode cX1_addHand 30 = .ok (.dup, 1) := by decide +kernel
theorem dX1_addHand_31 : decode cX1_addHand 31 = .ok (.getfield 35, 3) := by decide +kernel
theorem dX1_addHand_34 : decode cX1_addHand 34 = .ok (.iconst 1, 1) := by decide +kernel
theorem dX1_addHand_35 : decode cX1_addHand 35 = .ok (.iadd, 1) := by decide +kernel
theorem dX1_addHand_36 : decode cX1_addHand 36 = .ok (.putfield 35, 3) := by decide +kernel
theorem dX1_addHand_39 : decode cX1_addHand 39 = .ok (.return_, 1) := by decide +kernel
set_option maxRecDepth 20000 in
theorem ggX1_setSteps_X1_it : GoodIn wsX1_setSteps wsX1_it := goodIn_r _ [9, 1, 34, 35, 36, 37, 38, 39, 40, 41, 42] (by decide +kernel) (by decide +kernel)
set_option maxRecDepth 20000 in
theorem gX1_setSteps_X1_it : GoodIn wsX1_setSteps (wsV RX1 48 RX1 yX1_it wsX1_it) := goodIn_app (goodIn_of _ (by decide +kernel)) ggX1_setSteps_X1_it
set_option maxRecDepth 20000 in
theorem ggX1_setSteps_X1_dropGuesses : GoodIn wsX1_setSteps wsX1_dropGuesses := goodIn_r _ [13, 14, 15, 16, 17, 18, 19, 20, 8, 21, 1, 22, 23, 24, 25, 26, 27, 28, 29, 30, 31, 32, 33, 34, 35, 36, 37, 38, 39, 40, 41, 42, 43, 44, 45] (by decide +kernel) (by decide +kernel)
set_option maxRecDepth 20000 in
theorem gX1_setSteps_X1_dropGuesses : GoodIn wsX1_setSteps (wsV RX1 52 RX1 yX1_dropGuesses wsX1_dropGuesses) := goodIn_app (goodIn_of _ (by decide +kernel)) ggX1_setSteps_X1_dropGuesses
theorem dX1_setSteps_0 : decode cX1_setSteps 0 = .ok (.aload_n 0, 1) := by decide +kernel
theorem dX1_setSteps_1 : decode cX1_setSteps 1 = .ok (.iload_n 1, 1) := by decide +kernel
theorem dX1_setSteps_2 : decode cX1_setSteps 2 = .ok (.putfield 31, 3) := by decide +kernel
theorem dX1_setSteps_5 : decode cX1_setSteps 5 = .ok (.iconst 0, 1) := by decide +kernel
theorem dX1_setSteps_6 : decode cX1_setSteps 6 = .ok (.istore_n 2, 1) := by decide +kernel
theorem dX1_setSteps_7 : decode cX1_setSteps 7 = .ok (.iload_n 2, 1) := by decide +kernel
theorem dX1_setSteps_8 : decode cX1_setSteps 8 = .ok (.aload_n 0, 1) := by decide +kernel
theorem dX1_setSteps_9 : decode cX1_setSteps 9 = .ok (.getfield 35, 3) := by decide +kernel
theorem dX1_setSteps_12 : decode cX1_setSteps 12 = .ok (.if_icmp .ge 22, 3) := by decide +kernel
theorem dX1_setSteps_15 : decode cX1_setSteps 15 = .ok (.aload_n 0, 1) := by decide +kernel
theorem dX1_setSteps_16 : decode cX1_setSteps 16 = .ok (.getfield 9, 3) := by decide +kernel
theorem dX1_setSteps_19 : decode cX1_setSteps 19 = .ok (.iload_n 2, 1) := by decide +kernel
theorem dX1_setSteps_20 : decode cX1_setSteps 20 = .ok (.dup2, 1) := by decide +kernel
theorem dX1_setSteps_21 : decode cX1_setSteps 21 = .ok (.iaload, 1) := by decide +kernel
theorem dX1_setSteps_22 : decode cX1_setSteps 22 = .ok (.aload_n 0, 1) := by decide +kernel
theorem dX1_setSteps_23 : decode cX1_setSteps 23 = .ok (.invokevirtual 48, 3) := by decide +kernel
theorem dX1_setSteps_26 : decode cX1_setSteps 26 = .ok (.iand, 1) := by decide +kernel
theorem dX1_setSteps_27 : decode cX1_setSteps 27 = .ok (.iastore, 1) := by decide +kernel
theorem dX1_setSteps_28 : decode cX1_setSteps 28 = .ok (.iinc 2 1, 3) := by decide +kernel
theorem dX1_setSteps_31 : decode cX1_setSteps 31 = .ok (.goto (-24), 3) := by decide +kernel
theorem dX1_setSteps_34 : decode cX1_setSteps 34 = .ok (.aload_n 0, 1) := by decide +kernel
theorem dX1_setSteps_35 : decode cX1_setSteps 35 = .ok (.dup, 1) := by decide +kernel
theorem dX1_setSteps_36 : decode cX1_setSteps 36 = .ok (.getfield 41, 3) := by decide +kernel
theorem dX1_setSteps_39 : decode cX1_setSteps 39 = .ok (.aload_n 0, 1) := by decide +kernel
theorem dX1_setSteps_40 : decode cX1_setSteps 40 = .ok (.invokevirtual 48, 3) := by decide +kernel
theorem dX1_setSteps_43 : decode cX1_setSteps 43 = .ok (.iand, 1) := by decide +kernel
theorem dX1_setSteps_44 : decode cX1_setSteps 44 = .ok (.putfield 41, 3) := by decide +kernel
theorem dX1_setSteps_47 : decode cX1_setSteps 47 = .ok (.aload_n 0, 1) := by decide +kernel
theorem dX1_setSteps_48 : decode cX1_setSteps 48 = .ok (.invokevirtual 52, 3) := by decide +kernel
theorem dX1_setSteps_51 : decode cX1_setSteps 51 = .ok (.return_, 1) := by decide +kernel
set_option maxRecDepth 20000 in
theorem ggX1_dropGuesses_X1_isStepSet : GoodIn wsX1_dropGuesses wsX1_isStepSet := goodIn_r _ [9, 10, 23, 24, 25, 26, 27, 28, 29, 30, 31] (by decide +kernel) (by decide +kernel)
set_option maxRecDepth 20000 in
theorem gX1_dropGuesses_X1_isStepSet : GoodIn wsX1_dropGuesses (wsV RX1 64 RX1 yX1_isStepSet wsX1_isStepSet) := goodIn_app (goodIn_of _ (by decide +kernel)) ggX1_dropGuesses_X1_isStepSet
set_option maxRecDepth 20000 in
theorem ggX1_dropGuesses_X1_isStep : GoodIn wsX1_dropGuesses wsX1_isStep := goodIn_r _ [14, 10, 23, 24, 25, 26, 27, 28, 29, 30, 31] (by decide +kernel) (by decide +kernel)
set_option maxRecDepth 20000 in
theorem gX1_dropGuesses_X1_isStep : GoodIn wsX1_dropGuesses (wsV RX1 67 RX1 yX1_isStep wsX1_isStep) := goodIn_app (goodIn_of _ (by decide +kernel)) ggX1_dropGuesses_X1_isStep
set_option maxRecDepth 20000 in
theorem ggX1_dropGuesses_X3_add : GoodIn wsX1_dropGuesses wsX3_add := goodIn_r _ [19, 20, 21, 22, 32, 33, 34] (by decide +kernel) (by decide +kernel)
set_option maxRecDepth 20000 in
theorem gX1_dropGuesses_X3_add : GoodIn wsX1_dropGuesses (wsV RX1 70 RX3 yX3_add wsX3_add) := goodIn_app (goodIn_of _ (by decide +kernel)) ggX1_dropGuesses_X3_add
theorem dX1_dropGuesses_0 : decode cX1_dropGuesses 0 = .ok (.aload_n 0, 1) := by decide +kernel
theorem dX1_dropGuesses_1 : decode cX1_dropGuesses 1 = .ok (.getfield 28, 3) := by decide +kernel
theorem dX1_dropGuesses_4 : decode cX1_dropGuesses 4 = .ok (.getfield 55, 3) := by decide +kernel
theorem dX1_dropGuesses_7 : decode cX1_dropGuesses 7 = .ok (.istore_n 1, 1) := by decide +kernel
theorem dX1_dropGuesses_8 : decode cX1_dropGuesses 8 = .ok (.aload_n 0, 1) := by decide +kernel
theorem dX1_dropGuesses_9 : decode cX1_dropGuesses 9 = .ok (.getfield 28, 3) := by decide +kernel
theorem dX1_dropGuesses_12 : decode cX1_dropGuesses 12 = .ok (.iconst 0, 1) := by decide +kernel
theorem dX1_dropGuesses_13 : decode cX1_dropGuesses 13 = .ok (.putfield 55, 3) := by decide +kernel
theorem dX1_dropGuesses_16 : decode cX1_dropGuesses 16 = .ok (.iconst 0, 1) := by decide +kernel
theorem dX1_dropGuesses_17 : decode cX1_dropGuesses 17 = .ok (.istore_n 2, 1) := by decide +kernel
theorem dX1_dropGuesses_18 : decode cX1_dropGuesses 18 = .ok (.iload_n 2, 1) := by decide +kernel
theorem dX1_dropGuesses_19 : decode cX1_dropGuesses 19 = .ok (.iload_n 1, 1) := by decide +kernel
theorem dX1_dropGuesses_20 : decode cX1_dropGuesses 20 = .ok (.if_icmp .ge 57, 3) := by decide +kernel
theorem dX1_dropGuesses_23 : decode cX1_dropGuesses 23 = .ok (.aload_n 0, 1) := by decide +kernel
theorem dX1_dropGuesses_24 : decode cX1_dropGuesses 24 = .ok (.getfield 28, 3) := by decide +kernel
theorem dX1_dropGuesses_27 : decode cX1_dropGuesses 27 = .ok (.getfield 58, 3) := by decide +kernel
theorem dX1_dropGuesses_30 : decode cX1_dropGuesses 30 = .ok (.iload_n 2, 1) := by decide +kernel
theorem dX1_dropGuesses_31 : decode cX1_dropGuesses 31 = .ok (.iaload, 1) := by decide +kernel
theorem dX1_dropGuesses_32 : decode cX1_dropGuesses 32 = .ok (.istore_n 3, 1) := by decide +kernel
theorem dX1_dropGuesses_33 : decode cX1_dropGuesses 33 = .ok (.aload_n 0, 1) := by decide +kernel
theorem dX1_dropGuesses_34 : decode cX1_dropGuesses 34 = .ok (.getfield 28, 3) := by decide +kernel
theorem dX1_dropGuesses_37 : decode cX1_dropGuesses 37 = .ok (.getfield 61, 3) := by decide +kernel
theorem dX1_dropGuesses_40 : decode cX1_dropGuesses 40 = .ok (.iload_n 2, 1) := by decide +kernel
theorem dX1_dropGuesses_41 : decode cX1_dropGuesses 41 = .ok (.iaload, 1) := by decide +kernel
theorem dX1_dropGuesses_42 : decode cX1_dropGuesses 42 = .ok (.istore 4, 2) := by decide +kernel
theorem dX1_dropGuesses_44 : decode cX1_dropGuesses 44 = .ok (.aload_n 0, 1) := by decide +kernel
theorem dX1_dropGuesses_45 : decode cX1_dropGuesses 45 = .ok (.iload_n 3, 1) := by decide +kernel
theorem dX1_dropGuesses_46 : decode cX1_dropGuesses 46 = .ok (.invokevirtual 64, 3) := by decide +kernel
theorem dX1_dropGuesses_49 : decode cX1_dropGuesses 49 = .ok (.ifCond .eq 22, 3) := by decide +kernel
theorem dX1_dropGuesses_52 : decode cX1_dropGuesses 52 = .ok (.aload_n 0, 1) := by decide +kernel
theorem dX1_dropGuesses_53 : decode cX1_dropGuesses 53 = .ok (.iload 4, 2) := by decide +kernel
theorem dX1_dropGuesses_55 : decode cX1_dropGuesses 55 = .ok (.invokevirtual 67, 3) := by decide +kernel
theorem dX1_dropGuesses_58 : decode cX1_dropGuesses 58 = .ok (.ifCond .eq 13, 3) := by decide +kernel
theorem dX1_dropGuesses_61 : decode cX1_dropGuesses 61 = .ok (.aload_n 0, 1) := by decide +kernel
theorem dX1_dropGuesses_62 : decode cX1_dropGuesses 62 = .ok (.getfield 28, 3) := by decide +kernel
theorem dX1_dropGuesses_65 : decode cX1_dropGuesses 65 = .ok (.iload_n 3, 1) := by decide +kernel
theorem dX1_dropGuesses_66 : decode cX1_dropGuesses 66 = .ok (.iload 4, 2) := by decide +kernel
theorem dX1_dropGuesses_68 : decode cX1_dropGuesses 68 = .ok (.invokevirtual 70, 3) := by decide +kernel
theorem dX1_dropGuesses_71 : decode cX1_dropGuesses 71 = .ok (.iinc 2 1, 3) := by decide +kernel
theorem dX1_dropGuesses_74 : decode cX1_dropGuesses 74 = .ok (.goto (-56), 3) := by decide +kernel
theorem dX1_dropGuesses_77 : decode cX1_dropGuesses 77 = .ok (.return_, 1) := by decide +kernel
set_option maxRecDepth 20000 in
theorem ggX1_toldInAll_J6_bitCount_0f7a4 : GoodIn wsX1_toldInAll wsJ6_bitCount_0f7a4 := goodIn_r _ [6, 7, 8, 9] (by decide +kernel) (by decide +kernel)
set_option maxRecDepth 20000 in
theorem gX1_toldInAll_J6_bitCount_0f7a4 : GoodIn wsX1_toldInAll (va_wsS RX1 74 yJ6_bitCount_0f7a4 wsJ6_bitCount_0f7a4) := goodIn_app (goodIn_of _ (by decide +kernel)) ggX1_toldInAll_J6_bitCount_0f7a4
theorem dX1_toldInAll_0 : decode cX1_toldInAll 0 = .ok (.iconst 0, 1) := by decide +kernel
theorem dX1_toldInAll_1 : decode cX1_toldInAll 1 = .ok (.istore_n 1, 1) := by decide +kernel
theorem dX1_toldInAll_2 : decode cX1_toldInAll 2 = .ok (.iconst 0, 1) := by decide +kernel
theorem dX1_toldInAll_3 : decode cX1_toldInAll 3 = .ok (.istore_n 2, 1) := by decide +kernel
theorem dX1_toldInAll_4 : decode cX1_toldInAll 4 = .ok (.iload_n 2, 1) := by decide +kernel
theorem dX1_toldInAll_5 : decode cX1_toldInAll 5 = .ok (.aload_n 0, 1) := by decide +kernel
theorem dX1_toldInAll_6 : decode cX1_toldInAll 6 = .ok (.getfield 35, 3) := by decide +kernel
theorem dX1_toldInAll_9 : decode cX1_toldInAll 9 = .ok (.if_icmp .ge 21, 3) := by decide +kernel
theorem dX1_toldInAll_12 : decode cX1_toldInAll 12 = .ok (.iload_n 1, 1) := by decide +kernel
theorem dX1_toldInAll_13 : decode cX1_toldInAll 13 = .ok (.aload_n 0, 1) := by decide +kernel
theorem dX1_toldInAll_14 : decode cX1_toldInAll 14 = .ok (.getfield 9, 3) := by decide +kernel
theorem dX1_toldInAll_17 : decode cX1_toldInAll 17 = .ok (.iload_n 2, 1) := by decide +kernel
theorem dX1_toldInAll_18 : decode cX1_toldInAll 18 = .ok (.iaload, 1) := by decide +kernel
theorem dX1_toldInAll_19 : decode cX1_toldInAll 19 = .ok (.invokestatic 74, 3) := by decide +kernel
theorem dX1_toldInAll_22 : decode cX1_toldInAll 22 = .ok (.iadd, 1) := by decide +kernel
theorem dX1_toldInAll_23 : decode cX1_toldInAll 23 = .ok (.istore_n 1, 1) := by decide +kernel
theorem dX1_toldInAll_24 : decode cX1_toldInAll 24 = .ok (.iinc 2 1, 3) := by decide +kernel
theorem dX1_toldInAll_27 : decode cX1_toldInAll 27 = .ok (.goto (-23), 3) := by decide +kernel
theorem dX1_toldInAll_30 : decode cX1_toldInAll 30 = .ok (.iload_n 1, 1) := by decide +kernel
theorem dX1_toldInAll_31 : decode cX1_toldInAll 31 = .ok (.ireturn, 1) := by decide +kernel
set_option maxRecDepth 20000 in
theorem ggX1_weightOf_X1_inHouse : GoodIn wsX1_weightOf wsX1_inHouse := goodIn_r _ [7, 1, 8, 12, 13, 14, 15, 16, 17, 18, 19, 20] (by decide +kernel) (by decide +kernel)
set_option maxRecDepth 20000 in
theorem gX1_weightOf_X1_inHouse : GoodIn wsX1_weightOf (wsV RX1 80 RX1 yX1_inHouse wsX1_inHouse) := goodIn_app (goodIn_of _ (by decide +kernel)) ggX1_weightOf_X1_inHouse
set_option maxRecDepth 20000 in
theorem ggX1_weightOf_X5_contains : GoodIn wsX1_weightOf wsX5_contains := goodIn_r _ [11] (by decide +kernel) (by decide +kernel)
set_option maxRecDepth 20000 in
theorem gX1_weightOf_X5_contains_n83 : GoodIn wsX1_weightOf (wsX5_contains) := ggX1_weightOf_X5_contains
theorem dX1_weightOf_0 : decode cX1_weightOf 0 = .ok (.lconst 1, 1) := by decide +kernel
theorem dX1_weightOf_1 : decode cX1_weightOf 1 = .ok (.lstore_n 2, 1) := by decide +kernel
theorem dX1_weightOf_2 : decode cX1_weightOf 2 = .ok (.iconst 0, 1) := by decide +kernel
theorem dX1_weightOf_3 : decode cX1_weightOf 3 = .ok (.istore 4, 2) := by decide +kernel
theorem dX1_weightOf_5 : decode cX1_weightOf 5 = .ok (.iload 4, 2) := by decide +kernel
theorem dX1_weightOf_7 : decode cX1_weightOf 7 = .ok (.aload_n 0, 1) := by decide +kernel
theorem dX1_weightOf_8 : decode cX1_weightOf 8 = .ok (.getfield 35, 3) := by decide +kernel
theorem dX1_weightOf_11 : decode cX1_weightOf 11 = .ok (.if_icmp .ge 54, 3) := by decide +kernel
theorem dX1_weightOf_14 : decode cX1_weightOf 14 = .ok (.aload_n 0, 1) := by decide +kernel
theorem dX1_weightOf_15 : decode cX1_weightOf 15 = .ok (.invokevirtual 80, 3) := by decide +kernel
theorem dX1_weightOf_18 : decode cX1_weightOf 18 = .ok (.iload 4, 2) := by decide +kernel
theorem dX1_weightOf_20 : decode cX1_weightOf 20 = .ok (.invokestatic 83, 3) := by decide +kernel
theorem dX1_weightOf_23 : decode cX1_weightOf 23 = .ok (.ifCond .eq 36, 3) := by decide +kernel
theorem dX1_weightOf_26 : decode cX1_weightOf 26 = .ok (.aload_n 0, 1) := by decide +kernel
theorem dX1_weightOf_27 : decode cX1_weightOf 27 = .ok (.getfield 15, 3) := by decide +kernel
theorem dX1_weightOf_30 : decode cX1_weightOf 30 = .ok (.iload 4, 2) := by decide +kernel
theorem dX1_weightOf_32 : decode cX1_weightOf 32 = .ok (.iaload, 1) := by decide +kernel
theorem dX1_weightOf_33 : decode cX1_weightOf 33 = .ok (.istore 5, 2) := by decide +kernel
theorem dX1_weightOf_35 : decode cX1_weightOf 35 = .ok (.lload_n 2, 1) := by decide +kernel
theorem dX1_weightOf_36 : decode cX1_weightOf 36 = .ok (.iload_n 1, 1) := by decide +kernel
theorem dX1_weightOf_37 : decode cX1_weightOf 37 = .ok (.iload 4, 2) := by decide +kernel
theorem dX1_weightOf_39 : decode cX1_weightOf 39 = .ok (.invokestatic 83, 3) := by decide +kernel
theorem dX1_weightOf_42 : decode cX1_weightOf 42 = .ok (.ifCond .eq 9, 3) := by decide +kernel
theorem dX1_weightOf_45 : decode cX1_weightOf 45 = .ok (.iload 5, 2) := by decide +kernel
theorem dX1_weightOf_47 : decode cX1_weightOf 47 = .ok (.i2l, 1) := by decide +kernel
theorem dX1_weightOf_48 : decode cX1_weightOf 48 = .ok (.goto 9, 3) := by decide +kernel
theorem dX1_weightOf_51 : decode cX1_weightOf 51 = .ok (.bipush 100, 2) := by decide +kernel
theorem dX1_weightOf_53 : decode cX1_weightOf 53 = .ok (.iload 5, 2) := by decide +kernel
theorem dX1_weightOf_55 : decode cX1_weightOf 55 = .ok (.isub, 1) := by decide +kernel
theorem dX1_weightOf_56 : decode cX1_weightOf 56 = .ok (.i2l, 1) := by decide +kernel
theorem dX1_weightOf_57 : decode cX1_weightOf 57 = .ok (.lmul, 1) := by decide +kernel
theorem dX1_weightOf_58 : decode cX1_weightOf 58 = .ok (.lstore_n 2, 1) := by decide +kernel
theorem dX1_weightOf_59 : decode cX1_weightOf 59 = .ok (.iinc 4 1, 3) := by decide +kernel
theorem dX1_weightOf_62 : decode cX1_weightOf 62 = .ok (.goto (-57), 3) := by decide +kernel
theorem dX1_weightOf_65 : decode cX1_weightOf 65 = .ok (.lload_n 2, 1) := by decide +kernel
theorem dX1_weightOf_66 : decode cX1_weightOf 66 = .ok (.lreturn, 1) := by decide +kernel
set_option maxRecDepth 20000 in
theorem ggX1_copyFrom_X3_copyFrom : GoodIn wsX1_copyFrom wsX3_copyFrom := goodIn_r _ [18, 19, 20, 3, 4, 5, 21, 22, 32, 33, 34] (by decide +kernel) (by decide +kernel)
set_option maxRecDepth 20000 in
theorem gX1_copyFrom_X3_copyFrom : GoodIn wsX1_copyFrom (wsV RX1 93 RX3 yX3_copyFrom wsX3_copyFrom) := goodIn_app (goodIn_of _ (by decide +kernel)) ggX1_copyFrom_X3_copyFrom
theorem dX1_copyFrom_0 : decode cX1_copyFrom 0 = .ok (.aload_n 1, 1) := by decide +kernel
theorem dX1_copyFrom_1 : decode cX1_copyFrom 1 = .ok (.getfield 9, 3) := by decide +kernel
theorem dX1_copyFrom_4 : decode cX1_copyFrom 4 = .ok (.iconst 0, 1) := by decide +kernel
theorem dX1_copyFrom_5 : decode cX1_copyFrom 5 = .ok (.aload_n 0, 1) := by decide +kernel
theorem dX1_copyFrom_6 : decode cX1_copyFrom 6 = .ok (.getfield 9, 3) := by decide +kernel
theorem dX1_copyFrom_9 : decode cX1_copyFrom 9 = .ok (.iconst 0, 1) := by decide +kernel
theorem dX1_copyFrom_10 : decode cX1_copyFrom 10 = .ok (.bipush 8, 2) := by decide +kernel
theorem dX1_copyFrom_12 : decode cX1_copyFrom 12 = .ok (.invokestatic 87, 3) := by decide +kernel
theorem dX1_copyFrom_15 : decode cX1_copyFrom 15 = .ok (.aload_n 1, 1) := by decide +kernel
theorem dX1_copyFrom_16 : decode cX1_copyFrom 16 = .ok (.getfield 15, 3) := by decide +kernel
theorem dX1_copyFrom_19 : decode cX1_copyFrom 19 = .ok (.iconst 0, 1) := by decide +kernel
theorem dX1_copyFrom_20 : decode cX1_copyFrom 20 = .ok (.aload_n 0, 1) := by decide +kernel
theorem dX1_copyFrom_21 : decode cX1_copyFrom 21 = .ok (.getfield 15, 3) := by decide +kernel
theorem dX1_copyFrom_24 : decode cX1_copyFrom 24 = .ok (.iconst 0, 1) := by decide +kernel
theorem dX1_copyFrom_25 : decode cX1_copyFrom 25 = .ok (.bipush 8, 2) := by decide +kernel
theorem dX1_copyFrom_27 : decode cX1_copyFrom 27 = .ok (.invokestatic 87, 3) := by decide +kernel
theorem dX1_copyFrom_30 : decode cX1_copyFrom 30 = .ok (.aload_n 0, 1) := by decide +kernel
theorem dX1_copyFrom_31 : decode cX1_copyFrom 31 = .ok (.getfield 21, 3) := by decide +kernel
theorem dX1_copyFrom_34 : decode cX1_copyFrom 34 = .ok (.aload_n 1, 1) := by decide +kernel
theorem dX1_copyFrom_35 : decode cX1_copyFrom 35 = .ok (.getfield 21, 3) := by decide +kernel
theorem dX1_copyFrom_38 : decode cX1_copyFrom 38 = .ok (.invokevirtual 93, 3) := by decide +kernel
theorem dX1_copyFrom_41 : decode cX1_copyFrom 41 = .ok (.aload_n 0, 1) := by decide +kernel
theorem dX1_copyFrom_42 : decode cX1_copyFrom 42 = .ok (.getfield 25, 3) := by decide +kernel
theorem dX1_copyFrom_45 : decode cX1_copyFrom 45 = .ok (.aload_n 1, 1) := by decide +kernel
theorem dX1_copyFrom_46 : decode cX1_copyFrom 46 = .ok (.getfield 25, 3) := by decide +kernel
theorem dX1_copyFrom_49 : decode cX1_copyFrom 49 = .ok (.invokevirtual 93, 3) := by decide +kernel
theorem dX1_copyFrom_52 : decode cX1_copyFrom 52 = .ok (.aload_n 0, 1) := by decide +kernel
theorem dX1_copyFrom_53 : decode cX1_copyFrom 53 = .ok (.getfield 28, 3) := by decide +kernel
theorem dX1_copyFrom_56 : decode cX1_copyFrom 56 = .ok (.aload_n 1, 1) := by decide +kernel
theorem dX1_copyFrom_57 : decode cX1_copyFrom 57 = .ok (.getfield 28, 3) := by decide +kernel
theorem dX1_copyFrom_60 : decode cX1_copyFrom 60 = .ok (.invokevirtual 93, 3) := by decide +kernel
theorem dX1_copyFrom_63 : decode cX1_copyFrom 63 = .ok (.aload_n 0, 1) := by decide +kernel
theorem dX1_copyFrom_64 : decode cX1_copyFrom 64 = .ok (.aload_n 1, 1) := by decide +kernel
theorem dX1_copyFrom_65 : decode cX1_copyFrom 65 = .ok (.getfield 31, 3) := by decide +kernel
theorem dX1_copyFrom_68 : decode cX1_copyFrom 68 = .ok (.putfield 31, 3) := by decide +kernel
theorem dX1_copyFrom_71 : decode cX1_copyFrom 71 = .ok (.aload_n 0, 1) := by decide +kernel
theorem dX1_copyFrom_72 : decode cX1_copyFrom 72 = .ok (.aload_n 1, 1) := by decide +kernel
theorem dX1_copyFrom_73 : decode cX1_copyFrom 73 = .ok (.getfield 35, 3) := by decide +kernel
theorem dX1_copyFrom_76 : decode cX1_copyFrom 76 = .ok (.putfield 35, 3) := by decide +kernel
theorem dX1_copyFrom_79 : decode cX1_copyFrom 79 = .ok (.aload_n 0, 1) := by decide +kernel
theorem dX1_copyFrom_80 : decode cX1_copyFrom 80 = .ok (.aload_n 1, 1) := by decide +kernel
theorem dX1_copyFrom_81 : decode cX1_copyFrom 81 = .ok (.getfield 38, 3) := by decide +kernel
theorem dX1_copyFrom_84 : decode cX1_copyFrom 84 = .ok (.putfield 38, 3) := by decide +kernel
theorem dX1_copyFrom_87 : decode cX1_copyFrom 87 = .ok (.aload_n 0, 1) := by decide +kernel
theorem dX1_copyFrom_88 : decode cX1_copyFrom 88 = .ok (.aload_n 1, 1) := by decide +kernel
theorem dX1_copyFrom_89 : decode cX1_copyFrom 89 = .ok (.getfield 41, 3) := by decide +kernel
theorem dX1_copyFrom_92 : decode cX1_copyFrom 92 = .ok (.putfield 41, 3) := by decide +kernel
theorem dX1_copyFrom_95 : decode cX1_copyFrom 95 = .ok (.return_, 1) := by decide +kernel
set_option maxRecDepth 20000 in
theorem ggX2_init_X0_init : GoodIn wsX2_init wsX0_init := goodIn_r _ [20, 21, 2, 3, 4, 22, 23, 24, 36, 37, 38] (by decide +kernel) (by decide +kernel)
set_option maxRecDepth 20000 in
theorem gX2_init_X0_init_n26 : GoodIn wsX2_init (wsX0_init) := ggX2_init_X0_init
theorem dX2_init_0 : decode cX2_init 0 = .ok (.aload_n 0, 1) := by decide +kernel
theorem dX2_init_1 : decode cX2_init 1 = .ok (.invokespecial 3, 3) := by decide +kernel
theorem dX2_init_4 : decode cX2_init 4 = .ok (.aload_n 0, 1) := by decide +kernel
theorem dX2_init_5 : decode cX2_init 5 = .ok (.bipush 8, 2) := by decide +kernel
theorem dX2_init_7 : decode cX2_init 7 = .ok (.newarray .int, 2) := by decide +kernel
theorem dX2_init_9 : decode cX2_init 9 = .ok (.putfield 9, 3) := by decide +kernel
theorem dX2_init_12 : decode cX2_init 12 = .ok (.aload_n 0, 1) := by decide +kernel
theorem dX2_init_13 : decode cX2_init 13 = .ok (.bipush 8, 2) := by decide +kernel
theorem dX2_init_15 : decode cX2_init 15 = .ok (.newarray .int, 2) := by decide +kernel
theorem dX2_init_17 : decode cX2_init 17 = .ok (.putfield 15, 3) := by decide +kernel
theorem dX2_init_20 : decode cX2_init 20 = .ok (.aload_n 0, 1) := by decide +kernel
theorem dX2_init_21 : decode cX2_init 21 = .ok (.bipush 8, 2) := by decide +kernel
theorem dX2_init_23 : decode cX2_init 23 = .ok (.newarray .int, 2) := by decide +kernel
theorem dX2_init_25 : decode cX2_init 25 = .ok (.putfield 18, 3) := by decide +kernel
theorem dX2_init_28 : decode cX2_init 28 = .ok (.aload_n 0, 1) := by decide +kernel
theorem dX2_init_29 : decode cX2_init 29 = .ok (.bipush 8, 2) := by decide +kernel
theorem dX2_init_31 : decode cX2_init 31 = .ok (.newarray .int, 2) := by decide +kernel
theorem dX2_init_33 : decode cX2_init 33 = .ok (.putfield 21, 3) := by decide +kernel
theorem dX2_init_36 : decode cX2_init 36 = .ok (.aload_n 0, 1) := by decide +kernel
theorem dX2_init_37 : decode cX2_init 37 = .ok (.new 24, 3) := by decide +kernel
theorem dX2_init_40 : decode cX2_init 40 = .ok (.dup, 1) := by decide +kernel
theorem dX2_init_41 : decode cX2_init 41 = .ok (.invokespecial 26, 3) := by decide +kernel
theorem dX2_init_44 : decode cX2_init 44 = .ok (.putfield 27, 3) := by decide +kernel
theorem dX2_init_47 : decode cX2_init 47 = .ok (.aload_n 0, 1) := by decide +kernel
theorem dX2_init_48 : decode cX2_init 48 = .ok (.new 24, 3) := by decide +kernel
theorem dX2_init_51 : decode cX2_init 51 = .ok (.dup, 1) := by decide +kernel
theorem dX2_init_52 : decode cX2_init 52 = .ok (.invokespecial 26, 3) := by decide +kernel
theorem dX2_init_55 : decode cX2_init 55 = .ok (.putfield 31, 3) := by decide +kernel
theorem dX2_init_58 : decode cX2_init 58 = .ok (.aload_n 0, 1) := by decide +kernel
theorem dX2_init_59 : decode cX2_init 59 = .ok (.iconst 0, 1) := by decide +kernel
theorem dX2_init_60 : decode cX2_init 60 = .ok (.putfield 34, 3) := by decide +kernel
theorem dX2_init_63 : decode cX2_init 63 = .ok (.aload_n 0, 1) := by decide +kernel
theorem dX2_init_64 : decode cX2_init 64 = .ok (.iconst 0, 1) := by decide +kernel
theorem dX2_init_65 : decode cX2_init 65 = .ok (.putfield 38, 3) := by decide +kernel
theorem dX2_init_68 : decode cX2_init 68 = .ok (.aload_n 0, 1) := by decide +kernel
theorem dX2_init_69 : decode cX2_init 69 = .ok (.iconst 0, 1) := by decide +kernel
theorem dX2_init_70 : decode cX2_init 70 = .ok (.putfield 41, 3) := by decide +kernel
theorem dX2_init_73 : decode cX2_init 73 = .ok (.aload_n 0, 1) := by decide +kernel
theorem dX2_init_74 : decode cX2_init 74 = .ok (.iconst 0, 1) := by decide +kernel
theorem dX2_init_75 : decode cX2_init 75 = .ok (.putfield 44, 3) := by decide +kernel
theorem dX2_init_78 : decode cX2_init 78 = .ok (.aload_n 0, 1) := by decide +kernel
theorem dX2_init_79 : decode cX2_init 79 = .ok (.aload_n 1, 1) := by decide +kernel
theorem dX2_init_80 : decode cX2_init 80 = .ok (.putfield 47, 3) := by decide +kernel
theorem dX2_init_83 : decode cX2_init 83 = .ok (.return_, 1) := by decide +kernel
set_option maxRecDepth 20000 in
theorem ggX2_begin_X1_inHouse : GoodIn wsX2_begin wsX1_inHouse := goodIn_r _ [18, 19, 20, 60, 61, 62, 63, 64, 65, 66, 67, 68] (by decide +kernel) (by decide +kernel)
set_option maxRecDepth 20000 in
theorem gX2_begin_X1_inHouse : GoodIn wsX2_begin (wsV RX2 63 RX1 yX1_inHouse wsX1_inHouse) := goodIn_app (goodIn_of _ (by decide +kernel)) ggX2_begin_X1_inHouse
set_option maxRecDepth 20000 in
theorem ggX2_begin_X1_it : GoodIn wsX2_begin wsX1_it := goodIn_r _ [24, 25, 60, 61, 62, 63, 64, 65, 66, 67, 68] (by decide +kernel) (by decide +kernel)
set_option maxRecDepth 20000 in
theorem gX2_begin_X1_it : GoodIn wsX2_begin (wsV RX2 67 RX1 yX1_it wsX1_it) := goodIn_app (goodIn_of _ (by decide +kernel)) ggX2_begin_X1_it
set_option maxRecDepth 20000 in
theorem ggX2_begin_X2_join : GoodIn wsX2_begin wsX2_join := goodIn_r _ [30, 31, 1, 32, 33, 34, 35, 36, 37, 38, 49, 50, 51, 52, 53, 54, 55, 56, 57, 58, 59, 60, 61, 62, 63, 64, 65, 66, 67, 68, 69, 70, 71] (by decide +kernel) (by decide +kernel)
set_option maxRecDepth 20000 in
theorem gX2_begin_X2_join : GoodIn wsX2_begin (wsV RX2 70 RX2 yX2_join wsX2_join) := goodIn_app (goodIn_of _ (by decide +kernel)) ggX2_begin_X2_join
set_option maxRecDepth 20000 in
theorem ggX2_begin_X2_lookAround : GoodIn wsX2_begin wsX2_lookAround := goodIn_r _ [42, 43, 1, 44, 33, 34, 35, 8, 45, 31, 36, 37, 38, 46, 47, 29, 48, 49, 50, 51, 52, 53, 54, 55, 56, 57, 58, 59, 60, 61, 62, 63, 64, 65, 66, 67, 68, 69, 70, 71] (by decide +kernel) (by decide +kernel)
set_option maxRecDepth 20000 in
theorem gX2_begin_X2_lookAround : GoodIn wsX2_begin (wsV RX2 73 RX2 yX2_lookAround wsX2_lookAround) := goodIn_app (goodIn_of _ (by decide +kernel)) ggX2_begin_X2_lookAround
theorem dX2_begin_0 : decode cX2_begin 0 = .ok (.aload_n 0, 1) := by decide +kernel
theorem dX2_begin_1 : decode cX2_begin 1 = .ok (.getfield 47, 3) := by decide +kernel
theorem dX2_begin_4 : decode cX2_begin 4 = .ok (.getfield 51, 3) := by decide +kernel
theorem dX2_begin_7 : decode cX2_begin 7 = .ok (.iconst 0, 1) := by decide +kernel
theorem dX2_begin_8 : decode cX2_begin 8 = .ok (.aload_n 0, 1) := by decide +kernel
theorem dX2_begin_9 : decode cX2_begin 9 = .ok (.getfield 9, 3) := by decide +kernel
theorem dX2_begin_12 : decode cX2_begin 12 = .ok (.iconst 0, 1) := by decide +kernel
theorem dX2_begin_13 : decode cX2_begin 13 = .ok (.bipush 8, 2) := by decide +kernel
theorem dX2_begin_15 : decode cX2_begin 15 = .ok (.invokestatic 54, 3) := by decide +kernel
theorem dX2_begin_18 : decode cX2_begin 18 = .ok (.aload_n 0, 1) := by decide +kernel
theorem dX2_begin_19 : decode cX2_begin 19 = .ok (.iconst 1, 1) := by decide +kernel
theorem dX2_begin_20 : decode cX2_begin 20 = .ok (.aload_n 0, 1) := by decide +kernel
theorem dX2_begin_21 : decode cX2_begin 21 = .ok (.getfield 47, 3) := by decide +kernel
theorem dX2_begin_24 : decode cX2_begin 24 = .ok (.getfield 60, 3) := by decide +kernel
theorem dX2_begin_27 : decode cX2_begin 27 = .ok (.ishl, 1) := by decide +kernel
theorem dX2_begin_28 : decode cX2_begin 28 = .ok (.iconst 1, 1) := by decide +kernel
theorem dX2_begin_29 : decode cX2_begin 29 = .ok (.isub, 1) := by decide +kernel
theorem dX2_begin_30 : decode cX2_begin 30 = .ok (.putfield 34, 3) := by decide +kernel
theorem dX2_begin_33 : decode cX2_begin 33 = .ok (.aload_n 0, 1) := by decide +kernel
theorem dX2_begin_34 : decode cX2_begin 34 = .ok (.aload_n 0, 1) := by decide +kernel
theorem dX2_begin_35 : decode cX2_begin 35 = .ok (.getfield 47, 3) := by decide +kernel
theorem dX2_begin_38 : decode cX2_begin 38 = .ok (.invokevirtual 63, 3) := by decide +kernel
theorem dX2_begin_41 : decode cX2_begin 41 = .ok (.putfield 38, 3) := by decide +kernel
theorem dX2_begin_44 : decode cX2_begin 44 = .ok (.aload_n 0, 1) := by decide +kernel
theorem dX2_begin_45 : decode cX2_begin 45 = .ok (.aload_n 0, 1) := by decide +kernel
theorem dX2_begin_46 : decode cX2_begin 46 = .ok (.getfield 47, 3) := by decide +kernel
theorem dX2_begin_49 : decode cX2_begin 49 = .ok (.invokevirtual 67, 3) := by decide +kernel
theorem dX2_begin_52 : decode cX2_begin 52 = .ok (.putfield 41, 3) := by decide +kernel
theorem dX2_begin_55 : decode cX2_begin 55 = .ok (.aload_n 0, 1) := by decide +kernel
theorem dX2_begin_56 : decode cX2_begin 56 = .ok (.aload_n 0, 1) := by decide +kernel
theorem dX2_begin_57 : decode cX2_begin 57 = .ok (.getfield 47, 3) := by decide +kernel
theorem dX2_begin_60 : decode cX2_begin 60 = .ok (.getfield 69, 3) := by decide +kernel
theorem dX2_begin_63 : decode cX2_begin 63 = .ok (.putfield 44, 3) := by decide +kernel
theorem dX2_begin_66 : decode cX2_begin 66 = .ok (.aload_n 0, 1) := by decide +kernel
theorem dX2_begin_67 : decode cX2_begin 67 = .ok (.invokevirtual 70, 3) := by decide +kernel
theorem dX2_begin_70 : decode cX2_begin 70 = .ok (.aload_n 0, 1) := by decide +kernel
theorem dX2_begin_71 : decode cX2_begin 71 = .ok (.iconst 0, 1) := by decide +kernel
theorem dX2_begin_72 : decode cX2_begin 72 = .ok (.invokevirtual 73, 3) := by decide +kernel
theorem dX2_begin_75 : decode cX2_begin 75 = .ok (.return_, 1) := by decide +kernel
set_option maxRecDepth 20000 in
theorem ggX2_join_X5_contains : GoodIn wsX2_join wsX5_contains := goodIn_r _ [9] (by decide +kernel) (by decide +kernel)
set_option maxRecDepth 20000 in
theorem gX2_join_X5_contains_n92 : GoodIn wsX2_join (wsX5_contains) := ggX2_join_X5_contains
theorem dX2_join_0 : decode cX2_join 0 = .ok (.iconst 0, 1) := by decide +kernel
theorem dX2_join_1 : decode cX2_join 1 = .ok (.istore_n 1, 1) := by decide +kernel
theorem dX2_join_2 : decode cX2_join 2 = .ok (.iload_n 1, 1) := by decide +kernel
theorem dX2_join_3 : decode cX2_join 3 = .ok (.bipush 8, 2) := by decide +kernel
theorem dX2_join_5 : decode cX2_join 5 = .ok (.if_icmp .ge 18, 3) := by decide +kernel
theorem dX2_join_8 : decode cX2_join 8 = .ok (.aload_n 0, 1) := by decide +kernel
theorem dX2_join_9 : decode cX2_join 9 = .ok (.getfield 15, 3) := by decide +kernel
theorem dX2_join_12 : decode cX2_join 12 = .ok (.iload_n 1, 1) := by decide +kernel
theorem dX2_join_13 : decode cX2_join 13 = .ok (.iconst 1, 1) := by decide +kernel
theorem dX2_join_14 : decode cX2_join 14 = .ok (.iload_n 1, 1) := by decide +kernel
theorem dX2_join_15 : decode cX2_join 15 = .ok (.ishl, 1) := by decide +kernel
theorem dX2_join_16 : decode cX2_join 16 = .ok (.iastore, 1) := by decide +kernel
theorem dX2_join_17 : decode cX2_join 17 = .ok (.iinc 1 1, 3) := by decide +kernel
theorem dX2_join_20 : decode cX2_join 20 = .ok (.goto (-18), 3) := by decide +kernel
theorem dX2_join_23 : decode cX2_join 23 = .ok (.iconst 0, 1) := by decide +kernel
theorem dX2_join_24 : decode cX2_join 24 = .ok (.istore_n 1, 1) := by decide +kernel
theorem dX2_join_25 : decode cX2_join 25 = .ok (.iload_n 1, 1) := by decide +kernel
theorem dX2_join_26 : decode cX2_join 26 = .ok (.aload_n 0, 1) := by decide +kernel
theorem dX2_join_27 : decode cX2_join 27 = .ok (.getfield 47, 3) := by decide +kernel
theorem dX2_join_30 : decode cX2_join 30 = .ok (.getfield 77, 3) := by decide +kernel
theorem dX2_join_33 : decode cX2_join 33 = .ok (.getfield 81, 3) := by decide +kernel
theorem dX2_join_36 : decode cX2_join 36 = .ok (.if_icmp .ge 74, 3) := by decide +kernel
theorem dX2_join_39 : decode cX2_join 39 = .ok (.aload_n 0, 1) := by decide +kernel
theorem dX2_join_40 : decode cX2_join 40 = .ok (.getfield 15, 3) := by decide +kernel
theorem dX2_join_43 : decode cX2_join 43 = .ok (.aload_n 0, 1) := by decide +kernel
theorem dX2_join_44 : decode cX2_join 44 = .ok (.getfield 47, 3) := by decide +kernel
theorem dX2_join_47 : decode cX2_join 47 = .ok (.getfield 77, 3) := by decide +kernel
theorem dX2_join_50 : decode cX2_join 50 = .ok (.getfield 86, 3) := by decide +kernel
theorem dX2_join_53 : decode cX2_join 53 = .ok (.iload_n 1, 1) := by decide +kernel
theorem dX2_join_54 : decode cX2_join 54 = .ok (.iaload, 1) := by decide +kernel
theorem dX2_join_55 : decode cX2_join 55 = .ok (.iaload, 1) := by decide +kernel
theorem dX2_join_56 : decode cX2_join 56 = .ok (.aload_n 0, 1) := by decide +kernel
theorem dX2_join_57 : decode cX2_join 57 = .ok (.getfield 15, 3) := by decide +kernel
theorem dX2_join_60 : decode cX2_join 60 = .ok (.aload_n 0, 1) := by decide +kernel
theorem dX2_join_61 : decode cX2_join 61 = .ok (.getfield 47, 3) := by decide +kernel
theorem dX2_join_64 : decode cX2_join 64 = .ok (.getfield 77, 3) := by decide +kernel
theorem dX2_join_67 : decode cX2_join 67 = .ok (.getfield 89, 3) := by decide +kernel
theorem dX2_join_70 : decode cX2_join 70 = .ok (.iload_n 1, 1) := by decide +kernel
theorem dX2_join_71 : decode cX2_join 71 = .ok (.iaload, 1) := by decide +kernel
theorem dX2_join_72 : decode cX2_join 72 = .ok (.iaload, 1) := by decide +kernel
theorem dX2_join_73 : decode cX2_join 73 = .ok (.ior, 1) := by decide +kernel
theorem dX2_join_74 : decode cX2_join 74 = .ok (.istore_n 2, 1) := by decide +kernel
theorem dX2_join_75 : decode cX2_join 75 = .ok (.iconst 0, 1) := by decide +kernel
theorem dX2_join_76 : decode cX2_join 76 = .ok (.istore_n 3, 1) := by decide +kernel
theorem dX2_join_77 : decode cX2_join 77 = .ok (.iload_n 3, 1) := by decide +kernel
theorem dX2_join_78 : decode cX2_join 78 = .ok (.bipush 8, 2) := by decide +kernel
theorem dX2_join_80 : decode cX2_join 80 = .ok (.if_icmp .ge 24, 3) := by decide +kernel
theorem dX2_join_83 : decode cX2_join 83 = .ok (.iload_n 2, 1) := by decide +kernel
theorem dX2_join_84 : decode cX2_join 84 = .ok (.iload_n 3, 1) := by decide +kernel
theorem dX2_join_85 : decode cX2_join 85 = .ok (.invokestatic 92, 3) := by decide +kernel
theorem dX2_join_88 : decode cX2_join 88 = .ok (.ifCond .eq 10, 3) := by decide +kernel
theorem dX2_join_91 : decode cX2_join 91 = .ok (.aload_n 0, 1) := by decide +kernel
theorem dX2_join_92 : decode cX2_join 92 = .ok (.getfield 15, 3) := by decide +kernel
theorem dX2_join_95 : decode cX2_join 95 = .ok (.iload_n 3, 1) := by decide +kernel
theorem dX2_join_96 : decode cX2_join 96 = .ok (.iload_n 2, 1) := by decide +kernel
theorem dX2_join_97 : decode cX2_join 97 = .ok (.iastore, 1) := by decide +kernel
theorem dX2_join_98 : decode cX2_join 98 = .ok (.iinc 3 1, 3) := by decide +kernel
theorem dX2_join_101 : decode cX2_join 101 = .ok (.goto (-24), 3) := by decide +kernel
theorem dX2_join_104 : decode cX2_join 104 = .ok (.iinc 1 1, 3) := by decide +kernel
theorem dX2_join_107 : decode cX2_join 107 = .ok (.goto (-82), 3) := by decide +kernel
theorem dX2_join_110 : decode cX2_join 110 = .ok (.return_, 1) := by decide +kernel
set_option maxRecDepth 20000 in
theorem ggX2_lookAround_X5_contains : GoodIn wsX2_lookAround wsX5_contains := goodIn_r _ [12] (by decide +kernel) (by decide +kernel)
set_option maxRecDepth 20000 in
theorem gX2_lookAround_X5_contains_n92 : GoodIn wsX2_lookAround (wsX5_contains) := ggX2_lookAround_X5_contains
set_option maxRecDepth 20000 in
theorem ggX2_lookAround_X2_union : GoodIn wsX2_lookAround wsX2_union := goodIn_r _ [16] (by decide +kernel) (by decide +kernel)
set_option maxRecDepth 20000 in
theorem gX2_lookAround_X2_union : GoodIn wsX2_lookAround (va_wsS RX2 99 yX2_union wsX2_union) := goodIn_app (goodIn_of _ (by decide +kernel)) ggX2_lookAround_X2_union
theorem dX2_lookAround_0 : decode cX2_lookAround 0 = .ok (.iconst 0, 1) := by decide +kernel
theorem dX2_lookAround_1 : decode cX2_lookAround 1 = .ok (.istore_n 2, 1) := by decide +kernel
theorem dX2_lookAround_2 : decode cX2_lookAround 2 = .ok (.iload_n 2, 1) := by decide +kernel
theorem dX2_lookAround_3 : decode cX2_lookAround 3 = .ok (.bipush 8, 2) := by decide +kernel
theorem dX2_lookAround_5 : decode cX2_lookAround 5 = .ok (.if_icmp .ge 18, 3) := by decide +kernel
theorem dX2_lookAround_8 : decode cX2_lookAround 8 = .ok (.aload_n 0, 1) := by decide +kernel
theorem dX2_lookAround_9 : decode cX2_lookAround 9 = .ok (.getfield 18, 3) := by decide +kernel
theorem dX2_lookAround_12 : decode cX2_lookAround 12 = .ok (.iload_n 2, 1) := by decide +kernel
theorem dX2_lookAround_13 : decode cX2_lookAround 13 = .ok (.iconst 1, 1) := by decide +kernel
theorem dX2_lookAround_14 : decode cX2_lookAround 14 = .ok (.iload_n 2, 1) := by decide +kernel
theorem dX2_lookAround_15 : decode cX2_lookAround 15 = .ok (.ishl, 1) := by decide +kernel
theorem dX2_lookAround_16 : decode cX2_lookAround 16 = .ok (.iastore, 1) := by decide +kernel
theorem dX2_lookAround_17 : decode cX2_lookAround 17 = .ok (.iinc 2 1, 3) := by decide +kernel
theorem dX2_lookAround_20 : decode cX2_lookAround 20 = .ok (.goto (-18), 3) := by decide +kernel
theorem dX2_lookAround_23 : decode cX2_lookAround 23 = .ok (.iconst 0, 1) := by decide +kernel
theorem dX2_lookAround_24 : decode cX2_lookAround 24 = .ok (.istore_n 2, 1) := by decide +kernel
theorem dX2_lookAround_25 : decode cX2_lookAround 25 = .ok (.iload_n 2, 1) := by decide +kernel
theorem dX2_lookAround_26 : decode cX2_lookAround 26 = .ok (.aload_n 0, 1) := by decide +kernel
theorem dX2_lookAround_27 : decode cX2_lookAround 27 = .ok (.getfield 47, 3) := by decide +kernel
theorem dX2_lookAround_30 : decode cX2_lookAround 30 = .ok (.getfield 96, 3) := by decide +kernel
theorem dX2_lookAround_33 : decode cX2_lookAround 33 = .ok (.getfield 81, 3) := by decide +kernel
theorem dX2_lookAround_36 : decode cX2_lookAround 36 = .ok (.if_icmp .ge 51, 3) := by decide +kernel
theorem dX2_lookAround_39 : decode cX2_lookAround 39 = .ok (.iload_n 1, 1) := by decide +kernel
theorem dX2_lookAround_40 : decode cX2_lookAround 40 = .ok (.iload_n 2, 1) := by decide +kernel
theorem dX2_lookAround_41 : decode cX2_lookAround 41 = .ok (.invokestatic 92, 3) := by decide +kernel
theorem dX2_lookAround_44 : decode cX2_lookAround 44 = .ok (.ifCond .ne 37, 3) := by decide +kernel
theorem dX2_lookAround_47 : decode cX2_lookAround 47 = .ok (.aload_n 0, 1) := by decide +kernel
theorem dX2_lookAround_48 : decode cX2_lookAround 48 = .ok (.getfield 18, 3) := by decide +kernel
theorem dX2_lookAround_51 : decode cX2_lookAround 51 = .ok (.aload_n 0, 1) := by decide +kernel
theorem dX2_lookAround_52 : decode cX2_lookAround 52 = .ok (.getfield 47, 3) := by decide +kernel
theorem dX2_lookAround_55 : decode cX2_lookAround 55 = .ok (.getfield 96, 3) := by decide +kernel
theorem dX2_lookAround_58 : decode cX2_lookAround 58 = .ok (.getfield 86, 3) := by decide +kernel
theorem dX2_lookAround_61 : decode cX2_lookAround 61 = .ok (.iload_n 2, 1) := by decide +kernel
theorem dX2_lookAround_62 : decode cX2_lookAround 62 = .ok (.iaload, 1) := by decide +kernel
theorem dX2_lookAround_63 : decode cX2_lookAround 63 = .ok (.dup2, 1) := by decide +kernel
theorem dX2_lookAround_64 : decode cX2_lookAround 64 = .ok (.iaload, 1) := by decide +kernel
theorem dX2_lookAround_65 : decode cX2_lookAround 65 = .ok (.iconst 1, 1) := by decide +kernel
theorem dX2_lookAround_66 : decode cX2_lookAround 66 = .ok (.aload_n 0, 1) := by decide +kernel
theorem dX2_lookAround_67 : decode cX2_lookAround 67 = .ok (.getfield 47, 3) := by decide +kernel
theorem dX2_lookAround_70 : decode cX2_lookAround 70 = .ok (.getfield 96, 3) := by decide +kernel
theorem dX2_lookAround_73 : decode cX2_lookAround 73 = .ok (.getfield 89, 3) := by decide +kernel
theorem dX2_lookAround_76 : decode cX2_lookAround 76 = .ok (.iload_n 2, 1) := by decide +kernel
theorem dX2_lookAround_77 : decode cX2_lookAround 77 = .ok (.iaload, 1) := by decide +kernel
theorem dX2_lookAround_78 : decode cX2_lookAround 78 = .ok (.ishl, 1) := by decide +kernel
theorem dX2_lookAround_79 : decode cX2_lookAround 79 = .ok (.ior, 1) := by decide +kernel
theorem dX2_lookAround_80 : decode cX2_lookAround 80 = .ok (.iastore, 1) := by decide +kernel
theorem dX2_lookAround_81 : decode cX2_lookAround 81 = .ok (.iinc 2 1, 3) := by decide +kernel
theorem dX2_lookAround_84 : decode cX2_lookAround 84 = .ok (.goto (-59), 3) := by decide +kernel
theorem dX2_lookAround_87 : decode cX2_lookAround 87 = .ok (.iconst 0, 1) := by decide +kernel
theorem dX2_lookAround_88 : decode cX2_lookAround 88 = .ok (.istore_n 2, 1) := by decide +kernel
theorem dX2_lookAround_89 : decode cX2_lookAround 89 = .ok (.iload_n 2, 1) := by decide +kernel
theorem dX2_lookAround_90 : decode cX2_lookAround 90 = .ok (.aload_n 0, 1) := by decide +kernel
theorem dX2_lookAround_91 : decode cX2_lookAround 91 = .ok (.getfield 47, 3) := by decide +kernel
theorem dX2_lookAround_94 : decode cX2_lookAround 94 = .ok (.getfield 60, 3) := by decide +kernel
theorem dX2_lookAround_97 : decode cX2_lookAround 97 = .ok (.if_icmp .ge 28, 3) := by decide +kernel
theorem dX2_lookAround_100 : decode cX2_lookAround 100 = .ok (.aload_n 0, 1) := by decide +kernel
theorem dX2_lookAround_101 : decode cX2_lookAround 101 = .ok (.getfield 21, 3) := by decide +kernel
theorem dX2_lookAround_104 : decode cX2_lookAround 104 = .ok (.iload_n 2, 1) := by decide +kernel
theorem dX2_lookAround_105 : decode cX2_lookAround 105 = .ok (.aload_n 0, 1) := by decide +kernel
theorem dX2_lookAround_106 : decode cX2_lookAround 106 = .ok (.getfield 18, 3) := by decide +kernel
theorem dX2_lookAround_109 : decode cX2_lookAround 109 = .ok (.aload_n 0, 1) := by decide +kernel
theorem dX2_lookAround_110 : decode cX2_lookAround 110 = .ok (.getfield 15, 3) := by decide +kernel
theorem dX2_lookAround_113 : decode cX2_lookAround 113 = .ok (.iload_n 2, 1) := by decide +kernel
theorem dX2_lookAround_114 : decode cX2_lookAround 114 = .ok (.iaload, 1) := by decide +kernel
theorem dX2_lookAround_115 : decode cX2_lookAround 115 = .ok (.invokestatic 99, 3) := by decide +kernel
theorem dX2_lookAround_118 : decode cX2_lookAround 118 = .ok (.iastore, 1) := by decide +kernel
theorem dX2_lookAround_119 : decode cX2_lookAround 119 = .ok (.iinc 2 1, 3) := by decide +kernel
theorem dX2_lookAround_122 : decode cX2_lookAround 122 = .ok (.goto (-33), 3) := by decide +kernel
theorem dX2_lookAround_125 : decode cX2_lookAround 125 = .ok (.return_, 1) := by decide +kernel
theorem dX2_union_0 : decode cX2_union 0 = .ok (.iconst 0, 1) := by decide +kernel
theorem dX2_union_1 : decode cX2_union 1 = .ok (.istore_n 2, 1) := by decide +kernel
theorem dX2_union_2 : decode cX2_union 2 = .ok (.iconst 0, 1) := by decide +kernel
theorem dX2_union_3 : decode cX2_union 3 = .ok (.istore_n 3, 1) := by decide +kernel
theorem dX2_union_4 : decode cX2_union 4 = .ok (.iload_n 3, 1) := by decide +kernel
theorem dX2_union_5 : decode cX2_union 5 = .ok (.aload_n 0, 1) := by decide +kernel
theorem dX2_union_6 : decode cX2_union 6 = .ok (.arraylength, 1) := by decide +kernel
theorem dX2_union_7 : decode cX2_union 7 = .ok (.if_icmp .ge 23, 3) := by decide +kernel
theorem dX2_union_10 : decode cX2_union 10 = .ok (.iload_n 1, 1) := by decide +kernel
theorem dX2_union_11 : decode cX2_union 11 = .ok (.iload_n 3, 1) := by decide +kernel
theorem dX2_union_12 : decode cX2_union 12 = .ok (.ishr, 1) := by decide +kernel
theorem dX2_union_13 : decode cX2_union 13 = .ok (.iconst 1, 1) := by decide +kernel
theorem dX2_union_14 : decode cX2_union 14 = .ok (.iand, 1) := by decide +kernel
theorem dX2_union_15 : decode cX2_union 15 = .ok (.ifCond .eq 9, 3) := by decide +kernel
theorem dX2_union_18 : decode cX2_union 18 = .ok (.iload_n 2, 1) := by decide +kernel
theorem dX2_union_19 : decode cX2_union 19 = .ok (.aload_n 0, 1) := by decide +kernel
theorem dX2_union_20 : decode cX2_union 20 = .ok (.iload_n 3, 1) := by decide +kernel
theorem dX2_union_21 : decode cX2_union 21 = .ok (.iaload, 1) := by decide +kernel
theorem dX2_union_22 : decode cX2_union 22 = .ok (.ior, 1) := by decide +kernel
theorem dX2_union_23 : decode cX2_union 23 = .ok (.istore_n 2, 1) := by decide +kernel
theorem dX2_union_24 : decode cX2_union 24 = .ok (.iinc 3 1, 3) := by decide +kernel
theorem dX2_union_27 : decode cX2_union 27 = .ok (.goto (-23), 3) := by decide +kernel
theorem dX2_union_30 : decode cX2_union 30 = .ok (.iload_n 2, 1) := by decide +kernel
theorem dX2_union_31 : decode cX2_union 31 = .ok (.ireturn, 1) := by decide +kernel
set_option maxRecDepth 20000 in
theorem ggX2_seenBy_X2_union : GoodIn wsX2_seenBy wsX2_union := goodIn_r _ [6] (by decide +kernel) (by decide +kernel)
set_option maxRecDepth 20000 in
theorem gX2_seenBy_X2_union : GoodIn wsX2_seenBy (va_wsS RX2 99 yX2_union wsX2_union) := goodIn_app (goodIn_of _ (by decide +kernel)) ggX2_seenBy_X2_union
theorem dX2_seenBy_0 : decode cX2_seenBy 0 = .ok (.aload_n 0, 1) := by decide +kernel
theorem dX2_seenBy_1 : decode cX2_seenBy 1 = .ok (.getfield 9, 3) := by decide +kernel
theorem dX2_seenBy_4 : decode cX2_seenBy 4 = .ok (.aload_n 0, 1) := by decide +kernel
theorem dX2_seenBy_5 : decode cX2_seenBy 5 = .ok (.getfield 18, 3) := by decide +kernel
theorem dX2_seenBy_8 : decode cX2_seenBy 8 = .ok (.iload_n 1, 1) := by decide +kernel
theorem dX2_seenBy_9 : decode cX2_seenBy 9 = .ok (.iaload, 1) := by decide +kernel
theorem dX2_seenBy_10 : decode cX2_seenBy 10 = .ok (.invokestatic 99, 3) := by decide +kernel
theorem dX2_seenBy_13 : decode cX2_seenBy 13 = .ok (.ireturn, 1) := by decide +kernel
set_option maxRecDepth 20000 in
theorem ggX2_knownTo_X2_union : GoodIn wsX2_knownTo wsX2_union := goodIn_r _ [6] (by decide +kernel) (by decide +kernel)
set_option maxRecDepth 20000 in
theorem gX2_knownTo_X2_union : GoodIn wsX2_knownTo (va_wsS RX2 99 yX2_union wsX2_union) := goodIn_app (goodIn_of _ (by decide +kernel)) ggX2_knownTo_X2_union
theorem dX2_knownTo_0 : decode cX2_knownTo 0 = .ok (.aload_n 0, 1) := by decide +kernel
theorem dX2_knownTo_1 : decode cX2_knownTo 1 = .ok (.getfield 9, 3) := by decide +kernel
theorem dX2_knownTo_4 : decode cX2_knownTo 4 = .ok (.aload_n 0, 1) := by decide +kernel
theorem dX2_knownTo_5 : decode cX2_knownTo 5 = .ok (.getfield 21, 3) := by decide +kernel
theorem dX2_knownTo_8 : decode cX2_knownTo 8 = .ok (.iload_n 1, 1) := by decide +kernel
theorem dX2_knownTo_9 : decode cX2_knownTo 9 = .ok (.invokestatic 99, 3) := by decide +kernel
theorem dX2_knownTo_12 : decode cX2_knownTo 12 = .ok (.invokestatic 99, 3) := by decide +kernel
theorem dX2_knownTo_15 : decode cX2_knownTo 15 = .ok (.ireturn, 1) := by decide +kernel
theorem dX2_guessedFrom_0 : decode cX2_guessedFrom 0 = .ok (.aload_n 0, 1) := by decide +kernel
theorem dX2_guessedFrom_1 : decode cX2_guessedFrom 1 = .ok (.getfield 47, 3) := by decide +kernel
theorem dX2_guessedFrom_4 : decode cX2_guessedFrom 4 = .ok (.getfield 103, 3) := by decide +kernel
theorem dX2_guessedFrom_7 : decode cX2_guessedFrom 7 = .ok (.astore_n 2, 1) := by decide +kernel
theorem dX2_guessedFrom_8 : decode cX2_guessedFrom 8 = .ok (.iload_n 1, 1) := by decide +kernel
theorem dX2_guessedFrom_9 : decode cX2_guessedFrom 9 = .ok (.istore_n 3, 1) := by decide +kernel
theorem dX2_guessedFrom_10 : decode cX2_guessedFrom 10 = .ok (.iload_n 3, 1) := by decide +kernel
theorem dX2_guessedFrom_11 : decode cX2_guessedFrom 11 = .ok (.aload_n 0, 1) := by decide +kernel
theorem dX2_guessedFrom_12 : decode cX2_guessedFrom 12 = .ok (.getfield 41, 3) := by decide +kernel
theorem dX2_guessedFrom_15 : decode cX2_guessedFrom 15 = .ok (.if_icmp .eq 7, 3) := by decide +kernel
theorem dX2_guessedFrom_18 : decode cX2_guessedFrom 18 = .ok (.iconst 1, 1) := by decide +kernel
theorem dX2_guessedFrom_19 : decode cX2_guessedFrom 19 = .ok (.goto 4, 3) := by decide +kernel
theorem dX2_guessedFrom_22 : decode cX2_guessedFrom 22 = .ok (.iconst 0, 1) := by decide +kernel
theorem dX2_guessedFrom_23 : decode cX2_guessedFrom 23 = .ok (.istore 4, 2) := by decide +kernel
theorem dX2_guessedFrom_25 : decode cX2_guessedFrom 25 = .ok (.iconst 0, 1) := by decide +kernel
theorem dX2_guessedFrom_26 : decode cX2_guessedFrom 26 = .ok (.istore 5, 2) := by decide +kernel
theorem dX2_guessedFrom_28 : decode cX2_guessedFrom 28 = .ok (.iload 4, 2) := by decide +kernel
theorem dX2_guessedFrom_30 : decode cX2_guessedFrom 30 = .ok (.ifCond .eq 78, 3) := by decide +kernel
theorem dX2_guessedFrom_33 : decode cX2_guessedFrom 33 = .ok (.iload 5, 2) := by decide +kernel
theorem dX2_guessedFrom_35 : decode cX2_guessedFrom 35 = .ok (.aload_n 2, 1) := by decide +kernel
theorem dX2_guessedFrom_36 : decode cX2_guessedFrom 36 = .ok (.getfield 81, 3) := by decide +kernel
theorem dX2_guessedFrom_39 : decode cX2_guessedFrom 39 = .ok (.if_icmp .gt 69, 3) := by decide +kernel
theorem dX2_guessedFrom_42 : decode cX2_guessedFrom 42 = .ok (.iload_n 3, 1) := by decide +kernel
theorem dX2_guessedFrom_43 : decode cX2_guessedFrom 43 = .ok (.istore 6, 2) := by decide +kernel
theorem dX2_guessedFrom_45 : decode cX2_guessedFrom 45 = .ok (.iconst 0, 1) := by decide +kernel
theorem dX2_guessedFrom_46 : decode cX2_guessedFrom 46 = .ok (.istore 7, 2) := by decide +kernel
theorem dX2_guessedFrom_48 : decode cX2_guessedFrom 48 = .ok (.iload 7, 2) := by decide +kernel
theorem dX2_guessedFrom_50 : decode cX2_guessedFrom 50 = .ok (.aload_n 2, 1) := by decide +kernel
theorem dX2_guessedFrom_51 : decode cX2_guessedFrom 51 = .ok (.getfield 81, 3) := by decide +kernel
theorem dX2_guessedFrom_54 : decode cX2_guessedFrom 54 = .ok (.if_icmp .ge 35, 3) := by decide +kernel
theorem dX2_guessedFrom_57 : decode cX2_guessedFrom 57 = .ok (.aload_n 2, 1) := by decide +kernel
theorem dX2_guessedFrom_58 : decode cX2_guessedFrom 58 = .ok (.getfield 86, 3) := by decide +kernel
theorem dX2_guessedFrom_61 : decode cX2_guessedFrom 61 = .ok (.iload 7, 2) := by decide +kernel
theorem dX2_guessedFrom_63 : decode cX2_guessedFrom 63 = .ok (.iaload, 1) := by decide +kernel
theorem dX2_guessedFrom_64 : decode cX2_guessedFrom 64 = .ok (.iload_n 3, 1) := by decide +kernel
theorem dX2_guessedFrom_65 : decode cX2_guessedFrom 65 = .ok (.iconst (-1), 1) := by decide +kernel
theorem dX2_guessedFrom_66 : decode cX2_guessedFrom 66 = .ok (.ixor, 1) := by decide +kernel
theorem dX2_guessedFrom_67 : decode cX2_guessedFrom 67 = .ok (.iand, 1) := by decide +kernel
theorem dX2_guessedFrom_68 : decode cX2_guessedFrom 68 = .ok (.ifCond .ne 15, 3) := by decide +kernel
theorem dX2_guessedFrom_71 : decode cX2_guessedFrom 71 = .ok (.iload_n 3, 1) := by decide +kernel
theorem dX2_guessedFrom_72 : decode cX2_guessedFrom 72 = .ok (.iconst 1, 1) := by decide +kernel
theorem dX2_guessedFrom_73 : decode cX2_guessedFrom 73 = .ok (.aload_n 2, 1) := by decide +kernel
theorem dX2_guessedFrom_74 : decode cX2_guessedFrom 74 = .ok (.getfield 89, 3) := by decide +kernel
theorem dX2_guessedFrom_77 : decode cX2_guessedFrom 77 = .ok (.iload 7, 2) := by decide +kernel
theorem dX2_guessedFrom_79 : decode cX2_guessedFrom 79 = .ok (.iaload, 1) := by decide +kernel
theorem dX2_guessedFrom_80 : decode cX2_guessedFrom 80 = .ok (.ishl, 1) := by decide +kernel
theorem dX2_guessedFrom_81 : decode cX2_guessedFrom 81 = .ok (.ior, 1) := by decide +kernel
theorem dX2_guessedFrom_82 : decode cX2_guessedFrom 82 = .ok (.istore_n 3, 1) := by decide +kernel
theorem dX2_guessedFrom_83 : decode cX2_guessedFrom 83 = .ok (.iinc 7 1, 3) := by decide +kernel
theorem dX2_guessedFrom_86 : decode cX2_guessedFrom 86 = .ok (.goto (-38), 3) := by decide +kernel
theorem dX2_guessedFrom_89 : decode cX2_guessedFrom 89 = .ok (.iload_n 3, 1) := by decide +kernel
theorem dX2_guessedFrom_90 : decode cX2_guessedFrom 90 = .ok (.iload 6, 2) := by decide +kernel
theorem dX2_guessedFrom_92 : decode cX2_guessedFrom 92 = .ok (.if_icmp .eq 7, 3) := by decide +kernel
theorem dX2_guessedFrom_95 : decode cX2_guessedFrom 95 = .ok (.iconst 1, 1) := by decide +kernel
theorem dX2_guessedFrom_96 : decode cX2_guessedFrom 96 = .ok (.goto 4, 3) := by decide +kernel
theorem dX2_guessedFrom_99 : decode cX2_guessedFrom 99 = .ok (.iconst 0, 1) := by decide +kernel
theorem dX2_guessedFrom_100 : decode cX2_guessedFrom 100 = .ok (.istore 4, 2) := by decide +kernel
theorem dX2_guessedFrom_102 : decode cX2_guessedFrom 102 = .ok (.iinc 5 1, 3) := by decide +kernel
theorem dX2_guessedFrom_105 : decode cX2_guessedFrom 105 = .ok (.goto (-77), 3) := by decide +kernel
theorem dX2_guessedFrom_108 : decode cX2_guessedFrom 108 = .ok (.iload_n 3, 1) := by decide +kernel
theorem dX2_guessedFrom_109 : decode cX2_guessedFrom 109 = .ok (.ireturn, 1) := by decide +kernel
set_option maxRecDepth 20000 in
theorem ggX2_isHere_X5_contains : GoodIn wsX2_isHere wsX5_contains := goodIn_r _ [4] (by decide +kernel) (by decide +kernel)
set_option maxRecDepth 20000 in
theorem gX2_isHere_X5_contains_n92 : GoodIn wsX2_isHere (wsX5_contains) := ggX2_isHere_X5_contains
theorem dX2_isHere_0 : decode cX2_isHere 0 = .ok (.aload_n 0, 1) := by decide +kernel
theorem dX2_isHere_1 : decode cX2_isHere 1 = .ok (.getfield 38, 3) := by decide +kernel
theorem dX2_isHere_4 : decode cX2_isHere 4 = .ok (.iload_n 1, 1) := by decide +kernel
theorem dX2_isHere_5 : decode cX2_isHere 5 = .ok (.invokestatic 92, 3) := by decide +kernel
theorem dX2_isHere_8 : decode cX2_isHere 8 = .ok (.ireturn, 1) := by decide +kernel
theorem dX2_areHere_0 : decode cX2_areHere 0 = .ok (.iload_n 1, 1) := by decide +kernel
theorem dX2_areHere_1 : decode cX2_areHere 1 = .ok (.aload_n 0, 1) := by decide +kernel
theorem dX2_areHere_2 : decode cX2_areHere 2 = .ok (.getfield 38, 3) := by decide +kernel
theorem dX2_areHere_5 : decode cX2_areHere 5 = .ok (.iconst (-1), 1) := by decide +kernel
theorem dX2_areHere_6 : decode cX2_areHere 6 = .ok (.ixor, 1) := by decide +kernel
theorem dX2_areHere_7 : decode cX2_areHere 7 = .ok (.iand, 1) := by decide +kernel
theorem dX2_areHere_8 : decode cX2_areHere 8 = .ok (.ifCond .ne 7, 3) := by decide +kernel
theorem dX2_areHere_11 : decode cX2_areHere 11 = .ok (.iconst 1, 1) := by decide +kernel
theorem dX2_areHere_12 : decode cX2_areHere 12 = .ok (.goto 4, 3) := by decide +kernel
theorem dX2_areHere_15 : decode cX2_areHere 15 = .ok (.iconst 0, 1) := by decide +kernel
theorem dX2_areHere_16 : decode cX2_areHere 16 = .ok (.ireturn, 1) := by decide +kernel
theorem dX2_leave_0 : decode cX2_leave 0 = .ok (.aload_n 0, 1) := by decide +kernel
theorem dX2_leave_1 : decode cX2_leave 1 = .ok (.dup, 1) := by decide +kernel
theorem dX2_leave_2 : decode cX2_leave 2 = .ok (.getfield 38, 3) := by decide +kernel
theorem dX2_leave_5 : decode cX2_leave 5 = .ok (.iconst 1, 1) := by decide +kernel
theorem dX2_leave_6 : decode cX2_leave 6 = .ok (.iload_n 1, 1) := by decide +kernel
theorem dX2_leave_7 : decode cX2_leave 7 = .ok (.ishl, 1) := by decide +kernel
theorem dX2_leave_8 : decode cX2_leave 8 = .ok (.iconst (-1), 1) := by decide +kernel
theorem dX2_leave_9 : decode cX2_leave 9 = .ok (.ixor, 1) := by decide +kernel
theorem dX2_leave_10 : decode cX2_leave 10 = .ok (.iand, 1) := by decide +kernel
theorem dX2_leave_11 : decode cX2_leave 11 = .ok (.putfield 38, 3) := by decide +kernel
theorem dX2_leave_14 : decode cX2_leave 14 = .ok (.return_, 1) := by decide +kernel
set_option maxRecDepth 20000 in
theorem ggX2_happens_X2_union : GoodIn wsX2_happens wsX2_union := goodIn_r _ [10] (by decide +kernel) (by decide +kernel)
set_option maxRecDepth 20000 in
theorem gX2_happens_X2_union : GoodIn wsX2_happens (va_wsS RX2 99 yX2_union wsX2_union) := goodIn_app (goodIn_of _ (by decide +kernel)) ggX2_happens_X2_union
set_option maxRecDepth 20000 in
theorem ggX2_happens_X2_guessedFrom : GoodIn wsX2_happens wsX2_guessedFrom := goodIn_r _ [14, 15, 16, 5, 17, 18, 19, 20, 21, 22, 23, 24, 25, 26, 27, 28, 29, 30, 31, 32, 33, 34, 35, 36, 37, 38, 39, 40, 41, 42] (by decide +kernel) (by decide +kernel)
set_option maxRecDepth 20000 in
theorem gX2_happens_X2_guessedFrom : GoodIn wsX2_happens (wsV RX2 106 RX2 yX2_guessedFrom wsX2_guessedFrom) := goodIn_app (goodIn_of _ (by decide +kernel)) ggX2_happens_X2_guessedFrom
theorem dX2_happens_0 : decode cX2_happens 0 = .ok (.iload_n 1, 1) := by decide +kernel
theorem dX2_happens_1 : decode cX2_happens 1 = .ok (.ifCond .ne 49, 3) := by decide +kernel
theorem dX2_happens_4 : decode cX2_happens 4 = .ok (.aload_n 0, 1) := by decide +kernel
theorem dX2_happens_5 : decode cX2_happens 5 = .ok (.getfield 21, 3) := by decide +kernel
theorem dX2_happens_8 : decode cX2_happens 8 = .ok (.aload_n 0, 1) := by decide +kernel
theorem dX2_happens_9 : decode cX2_happens 9 = .ok (.getfield 38, 3) := by decide +kernel
theorem dX2_happens_12 : decode cX2_happens 12 = .ok (.iload_n 2, 1) := by decide +kernel
theorem dX2_happens_13 : decode cX2_happens 13 = .ok (.iconst (-1), 1) := by decide +kernel
theorem dX2_happens_14 : decode cX2_happens 14 = .ok (.ixor, 1) := by decide +kernel
theorem dX2_happens_15 : decode cX2_happens 15 = .ok (.iand, 1) := by decide +kernel
theorem dX2_happens_16 : decode cX2_happens 16 = .ok (.invokestatic 99, 3) := by decide +kernel
theorem dX2_happens_19 : decode cX2_happens 19 = .ok (.istore_n 3, 1) := by decide +kernel
theorem dX2_happens_20 : decode cX2_happens 20 = .ok (.aload_n 0, 1) := by decide +kernel
theorem dX2_happens_21 : decode cX2_happens 21 = .ok (.aload_n 0, 1) := by decide +kernel
theorem dX2_happens_22 : decode cX2_happens 22 = .ok (.getfield 9, 3) := by decide +kernel
theorem dX2_happens_25 : decode cX2_happens 25 = .ok (.iload_n 3, 1) := by decide +kernel
theorem dX2_happens_26 : decode cX2_happens 26 = .ok (.invokestatic 99, 3) := by decide +kernel
theorem dX2_happens_29 : decode cX2_happens 29 = .ok (.aload_n 0, 1) := by decide +kernel
theorem dX2_happens_30 : decode cX2_happens 30 = .ok (.getfield 44, 3) := by decide +kernel
theorem dX2_happens_33 : decode cX2_happens 33 = .ok (.ior, 1) := by decide +kernel
theorem dX2_happens_34 : decode cX2_happens 34 = .ok (.invokevirtual 106, 3) := by decide +kernel
theorem dX2_happens_37 : decode cX2_happens 37 = .ok (.aload_n 0, 1) := by decide +kernel
theorem dX2_happens_38 : decode cX2_happens 38 = .ok (.getfield 41, 3) := by decide +kernel
theorem dX2_happens_41 : decode cX2_happens 41 = .ok (.if_icmp .eq 7, 3) := by decide +kernel
theorem dX2_happens_44 : decode cX2_happens 44 = .ok (.iconst 1, 1) := by decide +kernel
theorem dX2_happens_45 : decode cX2_happens 45 = .ok (.goto 4, 3) := by decide +kernel
theorem dX2_happens_48 : decode cX2_happens 48 = .ok (.iconst 0, 1) := by decide +kernel
theorem dX2_happens_49 : decode cX2_happens 49 = .ok (.ireturn, 1) := by decide +kernel
theorem dX2_happens_50 : decode cX2_happens 50 = .ok (.aload_n 0, 1) := by decide +kernel
theorem dX2_happens_51 : decode cX2_happens 51 = .ok (.getfield 21, 3) := by decide +kernel
theorem dX2_happens_54 : decode cX2_happens 54 = .ok (.iload_n 2, 1) := by decide +kernel
theorem dX2_happens_55 : decode cX2_happens 55 = .ok (.aload_n 0, 1) := by decide +kernel
theorem dX2_happens_56 : decode cX2_happens 56 = .ok (.getfield 34, 3) := by decide +kernel
theorem dX2_happens_59 : decode cX2_happens 59 = .ok (.aload_n 0, 1) := by decide +kernel
theorem dX2_happens_60 : decode cX2_happens 60 = .ok (.getfield 38, 3) := by decide +kernel
theorem dX2_happens_63 : decode cX2_happens 63 = .ok (.iconst (-1), 1) := by decide +kernel
theorem dX2_happens_64 : decode cX2_happens 64 = .ok (.ixor, 1) := by decide +kernel
theorem dX2_happens_65 : decode cX2_happens 65 = .ok (.iand, 1) := by decide +kernel
theorem dX2_happens_66 : decode cX2_happens 66 = .ok (.ior, 1) := by decide +kernel
theorem dX2_happens_67 : decode cX2_happens 67 = .ok (.invokestatic 99, 3) := by decide +kernel
theorem dX2_happens_70 : decode cX2_happens 70 = .ok (.istore_n 3, 1) := by decide +kernel
theorem dX2_happens_71 : decode cX2_happens 71 = .ok (.aload_n 0, 1) := by decide +kernel
theorem dX2_happens_72 : decode cX2_happens 72 = .ok (.aload_n 0, 1) := by decide +kernel
theorem dX2_happens_73 : decode cX2_happens 73 = .ok (.getfield 9, 3) := by decide +kernel
theorem dX2_happens_76 : decode cX2_happens 76 = .ok (.iload_n 3, 1) := by decide +kernel
theorem dX2_happens_77 : decode cX2_happens 77 = .ok (.invokestatic 99, 3) := by decide +kernel
theorem dX2_happens_80 : decode cX2_happens 80 = .ok (.invokevirtual 106, 3) := by decide +kernel
theorem dX2_happens_83 : decode cX2_happens 83 = .ok (.aload_n 0, 1) := by decide +kernel
theorem dX2_happens_84 : decode cX2_happens 84 = .ok (.getfield 41, 3) := by decide +kernel
theorem dX2_happens_87 : decode cX2_happens 87 = .ok (.if_icmp .ne 7, 3) := by decide +kernel
theorem dX2_happens_90 : decode cX2_happens 90 = .ok (.iconst 1, 1) := by decide +kernel
theorem dX2_happens_91 : decode cX2_happens 91 = .ok (.goto 4, 3) := by decide +kernel
theorem dX2_happens_94 : decode cX2_happens 94 = .ok (.iconst 0, 1) := by decide +kernel
theorem dX2_happens_95 : decode cX2_happens 95 = .ok (.ireturn, 1) := by decide +kernel
set_option maxRecDepth 20000 in
theorem ggX2_chooseLeavers_X0_choose : GoodIn wsX2_chooseLeavers wsX0_choose := goodIn_r _ [7, 8, 9, 10, 11, 12, 13, 14, 15, 16, 17, 18, 19, 20, 21, 33, 34, 35] (by decide +kernel) (by decide +kernel)
set_option maxRecDepth 20000 in
theorem gX2_chooseLeavers_X0_choose : GoodIn wsX2_chooseLeavers (wsV RX2 110 RX0 yX0_choose wsX0_choose) := goodIn_app (goodIn_of _ (by decide +kernel)) ggX2_chooseLeavers_X0_choose
theorem dX2_chooseLeavers_0 : decode cX2_chooseLeavers 0 = .ok (.aload_n 0, 1) := by decide +kernel
theorem dX2_chooseLeavers_1 : decode cX2_chooseLeavers 1 = .ok (.getfield 27, 3) := by decide +kernel
theorem dX2_chooseLeavers_4 : decode cX2_chooseLeavers 4 = .ok (.aload_n 0, 1) := by decide +kernel
theorem dX2_chooseLeavers_5 : decode cX2_chooseLeavers 5 = .ok (.getfield 38, 3) := by decide +kernel
theorem dX2_chooseLeavers_8 : decode cX2_chooseLeavers 8 = .ok (.iload_n 1, 1) := by decide +kernel
theorem dX2_chooseLeavers_9 : decode cX2_chooseLeavers 9 = .ok (.invokevirtual 110, 3) := by decide +kernel
theorem dX2_chooseLeavers_12 : decode cX2_chooseLeavers 12 = .ok (.return_, 1) := by decide +kernel
set_option maxRecDepth 20000 in
theorem ggX2_chooseTakers_X0_choose : GoodIn wsX2_chooseTakers wsX0_choose := goodIn_r _ [7, 8, 9, 10, 11, 12, 13, 14, 15, 16, 17, 18, 19, 20, 21, 33, 34, 35] (by decide +kernel) (by decide +kernel)
set_option maxRecDepth 20000 in
theorem gX2_chooseTakers_X0_choose : GoodIn wsX2_chooseTakers (wsV RX2 110 RX0 yX0_choose wsX0_choose) := goodIn_app (goodIn_of _ (by decide +kernel)) ggX2_chooseTakers_X0_choose
theorem dX2_chooseTakers_0 : decode cX2_chooseTakers 0 = .ok (.aload_n 0, 1) := by decide +kernel
theorem dX2_chooseTakers_1 : decode cX2_chooseTakers 1 = .ok (.getfield 31, 3) := by decide +kernel
theorem dX2_chooseTakers_4 : decode cX2_chooseTakers 4 = .ok (.aload_n 0, 1) := by decide +kernel
theorem dX2_chooseTakers_5 : decode cX2_chooseTakers 5 = .ok (.getfield 38, 3) := by decide +kernel
theorem dX2_chooseTakers_8 : decode cX2_chooseTakers 8 = .ok (.iload_n 1, 1) := by decide +kernel
theorem dX2_chooseTakers_9 : decode cX2_chooseTakers 9 = .ok (.invokevirtual 110, 3) := by decide +kernel
theorem dX2_chooseTakers_12 : decode cX2_chooseTakers 12 = .ok (.return_, 1) := by decide +kernel
set_option maxRecDepth 20000 in
theorem ggX2_isKept_X2_neverHappens : GoodIn wsX2_isKept wsX2_neverHappens := goodIn_r _ [6, 7, 8, 9, 10, 11, 12, 5, 13, 14, 15, 16, 17, 18, 19, 20, 21, 22, 23, 24, 25, 26, 27, 28, 29, 30, 31, 32, 33, 34, 35, 36, 37, 49, 50, 51, 38, 39, 40, 41, 42, 43, 44, 45, 46, 47, 48, 52, 53, 54, 55, 56, 57, 58, 59, 60, 61, 62, 63] (by decide +kernel) (by decide +kernel)
set_option maxRecDepth 20000 in
theorem gX2_isKept_X2_neverHappens : GoodIn wsX2_isKept (wsV RX2 114 RX2 yX2_neverHappens wsX2_neverHappens) := goodIn_app (goodIn_of _ (by decide +kernel)) ggX2_isKept_X2_neverHappens
theorem dX2_isKept_0 : decode cX2_isKept 0 = .ok (.aload_n 0, 1) := by decide +kernel
theorem dX2_isKept_1 : decode cX2_isKept 1 = .ok (.iconst 0, 1) := by decide +kernel
theorem dX2_isKept_2 : decode cX2_isKept 2 = .ok (.aload_n 0, 1) := by decide +kernel
theorem dX2_isKept_3 : decode cX2_isKept 3 = .ok (.getfield 27, 3) := by decide +kernel
theorem dX2_isKept_6 : decode cX2_isKept 6 = .ok (.invokevirtual 114, 3) := by decide +kernel
theorem dX2_isKept_9 : decode cX2_isKept 9 = .ok (.ireturn, 1) := by decide +kernel
set_option maxRecDepth 20000 in
theorem ggX2_isSafe_X2_neverHappens : GoodIn wsX2_isSafe wsX2_neverHappens := goodIn_r _ [6, 7, 8, 9, 10, 11, 12, 5, 13, 14, 15, 16, 17, 18, 19, 20, 21, 22, 23, 24, 25, 26, 27, 28, 29, 30, 31, 32, 33, 34, 35, 36, 37, 49, 50, 51, 38, 39, 40, 41, 42, 43, 44, 45, 46, 47, 48, 52, 53, 54, 55, 56, 57, 58, 59, 60, 61, 62, 63] (by decide +kernel) (by decide +kernel)
set_option maxRecDepth 20000 in
theorem gX2_isSafe_X2_neverHappens : GoodIn wsX2_isSafe (wsV RX2 114 RX2 yX2_neverHappens wsX2_neverHappens) := goodIn_app (goodIn_of _ (by decide +kernel)) ggX2_isSafe_X2_neverHappens
theorem dX2_isSafe_0 : decode cX2_isSafe 0 = .ok (.aload_n 0, 1) := by decide +kernel
theorem dX2_isSafe_1 : decode cX2_isSafe 1 = .ok (.iconst 1, 1) := by decide +kernel
theorem dX2_isSafe_2 : decode cX2_isSafe 2 = .ok (.aload_n 0, 1) := by decide +kernel
theorem dX2_isSafe_3 : decode cX2_isSafe 3 = .ok (.getfield 31, 3) := by decide +kernel
theorem dX2_isSafe_6 : decode cX2_isSafe 6 = .ok (.invokevirtual 114, 3) := by decide +kernel
theorem dX2_isSafe_9 : decode cX2_isSafe 9 = .ok (.ireturn, 1) := by decide +kernel
set_option maxRecDepth 20000 in
theorem ggX2_holds_X2_neverHappens : GoodIn wsX2_holds wsX2_neverHappens := goodIn_r _ [7, 8, 9, 10, 11, 12, 13, 6, 14, 15, 16, 17, 18, 19, 20, 21, 22, 23, 24, 25, 26, 27, 28, 29, 30, 31, 32, 33, 34, 35, 36, 37, 38, 50, 51, 52, 39, 40, 41, 42, 43, 44, 45, 46, 47, 48, 49, 53, 54, 55, 56, 57, 58, 59, 60, 61, 62, 63, 64] (by decide +kernel) (by decide +kernel)
set_option maxRecDepth 20000 in
theorem gX2_holds_X2_neverHappens : GoodIn wsX2_holds (wsV RX2 114 RX2 yX2_neverHappens wsX2_neverHappens) := goodIn_app (goodIn_of _ (by decide +kernel)) ggX2_holds_X2_neverHappens
theorem dX2_holds_0 : decode cX2_holds 0 = .ok (.aload_n 0, 1) := by decide +kernel
theorem dX2_holds_1 : decode cX2_holds 1 = .ok (.iconst 0, 1) := by decide +kernel
theorem dX2_holds_2 : decode cX2_holds 2 = .ok (.aload_n 0, 1) := by decide +kernel
theorem dX2_holds_3 : decode cX2_holds 3 = .ok (.getfield 27, 3) := by decide +kernel
theorem dX2_holds_6 : decode cX2_holds 6 = .ok (.invokevirtual 114, 3) := by decide +kernel
theorem dX2_holds_9 : decode cX2_holds 9 = .ok (.ifCond .eq 19, 3) := by decide +kernel
theorem dX2_holds_12 : decode cX2_holds 12 = .ok (.aload_n 0, 1) := by decide +kernel
theorem dX2_holds_13 : decode cX2_holds 13 = .ok (.iconst 1, 1) := by decide +kernel
theorem dX2_holds_14 : decode cX2_holds 14 = .ok (.aload_n 0, 1) := by decide +kernel
theorem dX2_holds_15 : decode cX2_holds 15 = .ok (.getfield 31, 3) := by decide +kernel
theorem dX2_holds_18 : decode cX2_holds 18 = .ok (.invokevirtual 114, 3) := by decide +kernel
theorem dX2_holds_21 : decode cX2_holds 21 = .ok (.ifCond .eq 7, 3) := by decide +kernel
theorem dX2_holds_24 : decode cX2_holds 24 = .ok (.iconst 1, 1) := by decide +kernel
theorem dX2_holds_25 : decode cX2_holds 25 = .ok (.goto 4, 3) := by decide +kernel
theorem dX2_holds_28 : decode cX2_holds 28 = .ok (.iconst 0, 1) := by decide +kernel
theorem dX2_holds_29 : decode cX2_holds 29 = .ok (.ireturn, 1) := by decide +kernel
set_option maxRecDepth 20000 in
theorem ggX2_neverHappens_X2_happens : GoodIn wsX2_neverHappens wsX2_happens := goodIn_r _ [8, 9, 10, 11, 12, 13, 14, 15, 16, 7, 17, 18, 19, 20, 21, 22, 23, 24, 25, 26, 36, 37, 38, 39, 40, 41, 42, 43, 44, 45, 46, 47, 48, 49, 50, 51, 52, 53, 54, 55, 56, 57, 58] (by decide +kernel) (by decide +kernel)
set_option maxRecDepth 20000 in
theorem gX2_neverHappens_X2_happens : GoodIn wsX2_neverHappens (wsV RX2 125 RX2 yX2_happens wsX2_happens) := goodIn_app (goodIn_of _ (by decide +kernel)) ggX2_neverHappens_X2_happens
set_option maxRecDepth 20000 in
theorem ggX2_neverHappens_X0_next : GoodIn wsX2_neverHappens wsX0_next := goodIn_r _ [31, 32, 33, 34, 35] (by decide +kernel) (by decide +kernel)
set_option maxRecDepth 20000 in
theorem gX2_neverHappens_X0_next : GoodIn wsX2_neverHappens (wsV RX2 128 RX0 yX0_next wsX0_next) := goodIn_app (goodIn_of _ (by decide +kernel)) ggX2_neverHappens_X0_next
theorem dX2_neverHappens_0 : decode cX2_neverHappens 0 = .ok (.aload_n 2, 1) := by decide +kernel
theorem dX2_neverHappens_1 : decode cX2_neverHappens 1 = .ok (.getfield 118, 3) := by decide +kernel
theorem dX2_neverHappens_4 : decode cX2_neverHappens 4 = .ok (.istore_n 3, 1) := by decide +kernel
theorem dX2_neverHappens_5 : decode cX2_neverHappens 5 = .ok (.iconst 0, 1) := by decide +kernel
theorem dX2_neverHappens_6 : decode cX2_neverHappens 6 = .ok (.istore 4, 2) := by decide +kernel
theorem dX2_neverHappens_8 : decode cX2_neverHappens 8 = .ok (.iload 4, 2) := by decide +kernel
theorem dX2_neverHappens_10 : decode cX2_neverHappens 10 = .ok (.aload_n 2, 1) := by decide +kernel
theorem dX2_neverHappens_11 : decode cX2_neverHappens 11 = .ok (.getfield 121, 3) := by decide +kernel
theorem dX2_neverHappens_14 : decode cX2_neverHappens 14 = .ok (.if_icmp .ge 36, 3) := by decide +kernel
theorem dX2_neverHappens_17 : decode cX2_neverHappens 17 = .ok (.aload_n 0, 1) := by decide +kernel
theorem dX2_neverHappens_18 : decode cX2_neverHappens 18 = .ok (.iload_n 1, 1) := by decide +kernel
theorem dX2_neverHappens_19 : decode cX2_neverHappens 19 = .ok (.aload_n 2, 1) := by decide +kernel
theorem dX2_neverHappens_20 : decode cX2_neverHappens 20 = .ok (.getfield 122, 3) := by decide +kernel
theorem dX2_neverHappens_23 : decode cX2_neverHappens 23 = .ok (.iload_n 3, 1) := by decide +kernel
theorem dX2_neverHappens_24 : decode cX2_neverHappens 24 = .ok (.iaload, 1) := by decide +kernel
theorem dX2_neverHappens_25 : decode cX2_neverHappens 25 = .ok (.invokevirtual 125, 3) := by decide +kernel
theorem dX2_neverHappens_28 : decode cX2_neverHappens 28 = .ok (.ifCond .eq 10, 3) := by decide +kernel
theorem dX2_neverHappens_31 : decode cX2_neverHappens 31 = .ok (.aload_n 2, 1) := by decide +kernel
theorem dX2_neverHappens_32 : decode cX2_neverHappens 32 = .ok (.iload_n 3, 1) := by decide +kernel
theorem dX2_neverHappens_33 : decode cX2_neverHappens 33 = .ok (.putfield 118, 3) := by decide +kernel
theorem dX2_neverHappens_36 : decode cX2_neverHappens 36 = .ok (.iconst 0, 1) := by decide +kernel
theorem dX2_neverHappens_37 : decode cX2_neverHappens 37 = .ok (.ireturn, 1) := by decide +kernel
theorem dX2_neverHappens_38 : decode cX2_neverHappens 38 = .ok (.aload_n 2, 1) := by decide +kernel
theorem dX2_neverHappens_39 : decode cX2_neverHappens 39 = .ok (.iload_n 3, 1) := by decide +kernel
theorem dX2_neverHappens_40 : decode cX2_neverHappens 40 = .ok (.invokevirtual 128, 3) := by decide +kernel
theorem dX2_neverHappens_43 : decode cX2_neverHappens 43 = .ok (.istore_n 3, 1) := by decide +kernel
theorem dX2_neverHappens_44 : decode cX2_neverHappens 44 = .ok (.iinc 4 1, 3) := by decide +kernel
theorem dX2_neverHappens_47 : decode cX2_neverHappens 47 = .ok (.goto (-39), 3) := by decide +kernel
theorem dX2_neverHappens_50 : decode cX2_neverHappens 50 = .ok (.iconst 1, 1) := by decide +kernel
theorem dX2_neverHappens_51 : decode cX2_neverHappens 51 = .ok (.ireturn, 1) := by decide +kernel
set_option maxRecDepth 20000 in
theorem ggX2_canTell_X2_isHere : GoodIn wsX2_canTell wsX2_isHere := goodIn_r _ [7, 8, 9, 10, 11, 18, 19, 20, 21, 22, 23, 24, 25, 26, 27, 28] (by decide +kernel) (by decide +kernel)
set_option maxRecDepth 20000 in
theorem gX2_canTell_X2_isHere : GoodIn wsX2_canTell (wsV RX2 131 RX2 yX2_isHere wsX2_isHere) := goodIn_app (goodIn_of _ (by decide +kernel)) ggX2_canTell_X2_isHere
set_option maxRecDepth 20000 in
theorem ggX2_canTell_X1_isStep : GoodIn wsX2_canTell wsX1_isStep := goodIn_r _ [16, 17, 29, 30, 31, 32, 33, 34, 35, 36, 37] (by decide +kernel) (by decide +kernel)
set_option maxRecDepth 20000 in
theorem gX2_canTell_X1_isStep : GoodIn wsX2_canTell (wsV RX2 135 RX1 yX1_isStep wsX1_isStep) := goodIn_app (goodIn_of _ (by decide +kernel)) ggX2_canTell_X1_isStep
set_option maxRecDepth 20000 in
theorem ggX2_canTell_X5_contains : GoodIn wsX2_canTell wsX5_contains := goodIn_r _ [11] (by decide +kernel) (by decide +kernel)
set_option maxRecDepth 20000 in
theorem gX2_canTell_X5_contains_n92 : GoodIn wsX2_canTell (wsX5_contains) := ggX2_canTell_X5_contains
theorem dX2_canTell_0 : decode cX2_canTell 0 = .ok (.iload_n 1, 1) := by decide +kernel
theorem dX2_canTell_1 : decode cX2_canTell 1 = .ok (.bipush 10, 2) := by decide +kernel
theorem dX2_canTell_3 : decode cX2_canTell 3 = .ok (.idiv, 1) := by decide +kernel
theorem dX2_canTell_4 : decode cX2_canTell 4 = .ok (.istore_n 2, 1) := by decide +kernel
theorem dX2_canTell_5 : decode cX2_canTell 5 = .ok (.iload_n 1, 1) := by decide +kernel
theorem dX2_canTell_6 : decode cX2_canTell 6 = .ok (.bipush 10, 2) := by decide +kernel
theorem dX2_canTell_8 : decode cX2_canTell 8 = .ok (.irem, 1) := by decide +kernel
theorem dX2_canTell_9 : decode cX2_canTell 9 = .ok (.istore_n 3, 1) := by decide +kernel
theorem dX2_canTell_10 : decode cX2_canTell 10 = .ok (.aload_n 0, 1) := by decide +kernel
theorem dX2_canTell_11 : decode cX2_canTell 11 = .ok (.iload_n 2, 1) := by decide +kernel
theorem dX2_canTell_12 : decode cX2_canTell 12 = .ok (.invokevirtual 131, 3) := by decide +kernel
theorem dX2_canTell_15 : decode cX2_canTell 15 = .ok (.ifCond .eq 31, 3) := by decide +kernel
theorem dX2_canTell_18 : decode cX2_canTell 18 = .ok (.aload_n 0, 1) := by decide +kernel
theorem dX2_canTell_19 : decode cX2_canTell 19 = .ok (.getfield 47, 3) := by decide +kernel
theorem dX2_canTell_22 : decode cX2_canTell 22 = .ok (.iload_n 3, 1) := by decide +kernel
theorem dX2_canTell_23 : decode cX2_canTell 23 = .ok (.invokevirtual 135, 3) := by decide +kernel
theorem dX2_canTell_26 : decode cX2_canTell 26 = .ok (.ifCond .eq 20, 3) := by decide +kernel
theorem dX2_canTell_29 : decode cX2_canTell 29 = .ok (.aload_n 0, 1) := by decide +kernel
theorem dX2_canTell_30 : decode cX2_canTell 30 = .ok (.getfield 9, 3) := by decide +kernel
theorem dX2_canTell_33 : decode cX2_canTell 33 = .ok (.iload_n 2, 1) := by decide +kernel
theorem dX2_canTell_34 : decode cX2_canTell 34 = .ok (.iaload, 1) := by decide +kernel
theorem dX2_canTell_35 : decode cX2_canTell 35 = .ok (.iload_n 3, 1) := by decide +kernel
theorem dX2_canTell_36 : decode cX2_canTell 36 = .ok (.invokestatic 92, 3) := by decide +kernel
theorem dX2_canTell_39 : decode cX2_canTell 39 = .ok (.ifCond .ne 7, 3) := by decide +kernel
theorem dX2_canTell_42 : decode cX2_canTell 42 = .ok (.iconst 1, 1) := by decide +kernel
theorem dX2_canTell_43 : decode cX2_canTell 43 = .ok (.goto 4, 3) := by decide +kernel
theorem dX2_canTell_46 : decode cX2_canTell 46 = .ok (.iconst 0, 1) := by decide +kernel
theorem dX2_canTell_47 : decode cX2_canTell 47 = .ok (.ireturn, 1) := by decide +kernel
set_option maxRecDepth 20000 in
theorem ggX2_setTelling_X5_with : GoodIn wsX2_setTelling wsX5_with := goodIn_r _ [4] (by decide +kernel) (by decide +kernel)
set_option maxRecDepth 20000 in
theorem gX2_setTelling_X5_with_n138 : GoodIn wsX2_setTelling (wsX5_with) := ggX2_setTelling_X5_with
theorem dX2_setTelling_0 : decode cX2_setTelling 0 = .ok (.iload_n 1, 1) := by decide +kernel
theorem dX2_setTelling_1 : decode cX2_setTelling 1 = .ok (.bipush 10, 2) := by decide +kernel
theorem dX2_setTelling_3 : decode cX2_setTelling 3 = .ok (.idiv, 1) := by decide +kernel
theorem dX2_setTelling_4 : decode cX2_setTelling 4 = .ok (.istore_n 3, 1) := by decide +kernel
theorem dX2_setTelling_5 : decode cX2_setTelling 5 = .ok (.aload_n 0, 1) := by decide +kernel
theorem dX2_setTelling_6 : decode cX2_setTelling 6 = .ok (.getfield 9, 3) := by decide +kernel
theorem dX2_setTelling_9 : decode cX2_setTelling 9 = .ok (.iload_n 3, 1) := by decide +kernel
theorem dX2_setTelling_10 : decode cX2_setTelling 10 = .ok (.aload_n 0, 1) := by decide +kernel
theorem dX2_setTelling_11 : decode cX2_setTelling 11 = .ok (.getfield 9, 3) := by decide +kernel
theorem dX2_setTelling_14 : decode cX2_setTelling 14 = .ok (.iload_n 3, 1) := by decide +kernel
theorem dX2_setTelling_15 : decode cX2_setTelling 15 = .ok (.iaload, 1) := by decide +kernel
theorem dX2_setTelling_16 : decode cX2_setTelling 16 = .ok (.iload_n 1, 1) := by decide +kernel
theorem dX2_setTelling_17 : decode cX2_setTelling 17 = .ok (.bipush 10, 2) := by decide +kernel
theorem dX2_setTelling_19 : decode cX2_setTelling 19 = .ok (.irem, 1) := by decide +kernel
theorem dX2_setTelling_20 : decode cX2_setTelling 20 = .ok (.iload_n 2, 1) := by decide +kernel
theorem dX2_setTelling_21 : decode cX2_setTelling 21 = .ok (.invokestatic 138, 3) := by decide +kernel
theorem dX2_setTelling_24 : decode cX2_setTelling 24 = .ok (.iastore, 1) := by decide +kernel
theorem dX2_setTelling_25 : decode cX2_setTelling 25 = .ok (.return_, 1) := by decide +kernel
set_option maxRecDepth 20000 in
theorem ggX2_giveOut_J6_bitCount_0f7a4 : GoodIn wsX2_giveOut wsJ6_bitCount_0f7a4 := goodIn_r _ [8, 9, 10, 11] (by decide +kernel) (by decide +kernel)
set_option maxRecDepth 20000 in
theorem gX2_giveOut_J6_bitCount_0f7a4 : GoodIn wsX2_giveOut (va_wsS RX2 142 yJ6_bitCount_0f7a4 wsJ6_bitCount_0f7a4) := goodIn_app (goodIn_of _ (by decide +kernel)) ggX2_giveOut_J6_bitCount_0f7a4
set_option maxRecDepth 20000 in
theorem ggX2_giveOut_X2_isHere : GoodIn wsX2_giveOut wsX2_isHere := goodIn_r _ [16, 1, 17, 18, 19, 33, 34, 35, 36, 37, 38, 39, 40, 41, 42, 43] (by decide +kernel) (by decide +kernel)
set_option maxRecDepth 20000 in
theorem gX2_giveOut_X2_isHere : GoodIn wsX2_giveOut (wsV RX2 131 RX2 yX2_isHere wsX2_isHere) := goodIn_app (goodIn_of _ (by decide +kernel)) ggX2_giveOut_X2_isHere
set_option maxRecDepth 20000 in
theorem ggX2_giveOut_X2_givenTo : GoodIn wsX2_giveOut wsX2_givenTo := goodIn_r _ [23, 2, 24, 25, 26, 27, 15, 28, 29, 30, 31, 32, 33, 34, 35, 36, 37, 38, 39, 40, 41, 42, 43, 44, 45, 46, 47, 48, 49, 50, 51, 52] (by decide +kernel) (by decide +kernel)
set_option maxRecDepth 20000 in
theorem gX2_giveOut_X2_givenTo : GoodIn wsX2_giveOut (wsV RX2 147 RX2 yX2_givenTo wsX2_givenTo) := goodIn_app (goodIn_of _ (by decide +kernel)) ggX2_giveOut_X2_givenTo
theorem dX2_giveOut_0 : decode cX2_giveOut 0 = .ok (.aload_n 0, 1) := by decide +kernel
theorem dX2_giveOut_1 : decode cX2_giveOut 1 = .ok (.getfield 38, 3) := by decide +kernel
theorem dX2_giveOut_4 : decode cX2_giveOut 4 = .ok (.invokestatic 142, 3) := by decide +kernel
theorem dX2_giveOut_7 : decode cX2_giveOut 7 = .ok (.istore_n 2, 1) := by decide +kernel
theorem dX2_giveOut_8 : decode cX2_giveOut 8 = .ok (.iconst 0, 1) := by decide +kernel
theorem dX2_giveOut_9 : decode cX2_giveOut 9 = .ok (.istore_n 3, 1) := by decide +kernel
theorem dX2_giveOut_10 : decode cX2_giveOut 10 = .ok (.iconst 0, 1) := by decide +kernel
theorem dX2_giveOut_11 : decode cX2_giveOut 11 = .ok (.istore 4, 2) := by decide +kernel
theorem dX2_giveOut_13 : decode cX2_giveOut 13 = .ok (.iconst 0, 1) := by decide +kernel
theorem dX2_giveOut_14 : decode cX2_giveOut 14 = .ok (.istore 5, 2) := by decide +kernel
theorem dX2_giveOut_16 : decode cX2_giveOut 16 = .ok (.iload 5, 2) := by decide +kernel
theorem dX2_giveOut_18 : decode cX2_giveOut 18 = .ok (.aload_n 0, 1) := by decide +kernel
theorem dX2_giveOut_19 : decode cX2_giveOut 19 = .ok (.getfield 47, 3) := by decide +kernel
theorem dX2_giveOut_22 : decode cX2_giveOut 22 = .ok (.getfield 60, 3) := by decide +kernel
theorem dX2_giveOut_25 : decode cX2_giveOut 25 = .ok (.if_icmp .ge 50, 3) := by decide +kernel
theorem dX2_giveOut_28 : decode cX2_giveOut 28 = .ok (.aload_n 0, 1) := by decide +kernel
theorem dX2_giveOut_29 : decode cX2_giveOut 29 = .ok (.iload 5, 2) := by decide +kernel
theorem dX2_giveOut_31 : decode cX2_giveOut 31 = .ok (.invokevirtual 131, 3) := by decide +kernel
theorem dX2_giveOut_34 : decode cX2_giveOut 34 = .ok (.ifCond .eq 35, 3) := by decide +kernel
theorem dX2_giveOut_37 : decode cX2_giveOut 37 = .ok (.aload_n 0, 1) := by decide +kernel
theorem dX2_giveOut_38 : decode cX2_giveOut 38 = .ok (.getfield 9, 3) := by decide +kernel
theorem dX2_giveOut_41 : decode cX2_giveOut 41 = .ok (.iload 5, 2) := by decide +kernel
theorem dX2_giveOut_43 : decode cX2_giveOut 43 = .ok (.aload_n 0, 1) := by decide +kernel
theorem dX2_giveOut_44 : decode cX2_giveOut 44 = .ok (.iload_n 3, 1) := by decide +kernel
theorem dX2_giveOut_45 : decode cX2_giveOut 45 = .ok (.iload_n 2, 1) := by decide +kernel
theorem dX2_giveOut_46 : decode cX2_giveOut 46 = .ok (.iload_n 1, 1) := by decide +kernel
theorem dX2_giveOut_47 : decode cX2_giveOut 47 = .ok (.invokevirtual 147, 3) := by decide +kernel
theorem dX2_giveOut_50 : decode cX2_giveOut 50 = .ok (.iastore, 1) := by decide +kernel
theorem dX2_giveOut_51 : decode cX2_giveOut 51 = .ok (.iload 4, 2) := by decide +kernel
theorem dX2_giveOut_53 : decode cX2_giveOut 53 = .ok (.aload_n 0, 1) := by decide +kernel
theorem dX2_giveOut_54 : decode cX2_giveOut 54 = .ok (.getfield 9, 3) := by decide +kernel
theorem dX2_giveOut_57 : decode cX2_giveOut 57 = .ok (.iload 5, 2) := by decide +kernel
theorem dX2_giveOut_59 : decode cX2_giveOut 59 = .ok (.iaload, 1) := by decide +kernel
theorem dX2_giveOut_60 : decode cX2_giveOut 60 = .ok (.invokestatic 142, 3) := by decide +kernel
theorem dX2_giveOut_63 : decode cX2_giveOut 63 = .ok (.iadd, 1) := by decide +kernel
theorem dX2_giveOut_64 : decode cX2_giveOut 64 = .ok (.istore 4, 2) := by decide +kernel
theorem dX2_giveOut_66 : decode cX2_giveOut 66 = .ok (.iinc 3 1, 3) := by decide +kernel
theorem dX2_giveOut_69 : decode cX2_giveOut 69 = .ok (.iinc 5 1, 3) := by decide +kernel
theorem dX2_giveOut_72 : decode cX2_giveOut 72 = .ok (.goto (-56), 3) := by decide +kernel
theorem dX2_giveOut_75 : decode cX2_giveOut 75 = .ok (.iload 4, 2) := by decide +kernel
theorem dX2_giveOut_77 : decode cX2_giveOut 77 = .ok (.ireturn, 1) := by decide +kernel
set_option maxRecDepth 20000 in
theorem ggX2_givenTo_X2_isGiven : GoodIn wsX2_givenTo wsX2_isGiven := goodIn_r _ [7, 1, 2, 8, 9, 10, 11, 12, 13, 14, 15, 16, 17, 18, 19, 20, 21, 22, 23, 24, 25, 26, 27, 28, 29, 30, 31] (by decide +kernel) (by decide +kernel)
set_option maxRecDepth 20000 in
theorem gX2_givenTo_X2_isGiven : GoodIn wsX2_givenTo (wsV RX2 154 RX2 yX2_isGiven wsX2_isGiven) := goodIn_app (goodIn_of _ (by decide +kernel)) ggX2_givenTo_X2_isGiven
theorem dX2_givenTo_0 : decode cX2_givenTo 0 = .ok (.iconst 0, 1) := by decide +kernel
theorem dX2_givenTo_1 : decode cX2_givenTo 1 = .ok (.istore 4, 2) := by decide +kernel
theorem dX2_givenTo_3 : decode cX2_givenTo 3 = .ok (.iconst 0, 1) := by decide +kernel
theorem dX2_givenTo_4 : decode cX2_givenTo 4 = .ok (.istore 5, 2) := by decide +kernel
theorem dX2_givenTo_6 : decode cX2_givenTo 6 = .ok (.iload 5, 2) := by decide +kernel
theorem dX2_givenTo_8 : decode cX2_givenTo 8 = .ok (.aload_n 0, 1) := by decide +kernel
theorem dX2_givenTo_9 : decode cX2_givenTo 9 = .ok (.getfield 47, 3) := by decide +kernel
theorem dX2_givenTo_12 : decode cX2_givenTo 12 = .ok (.getfield 151, 3) := by decide +kernel
theorem dX2_givenTo_15 : decode cX2_givenTo 15 = .ok (.if_icmp .ge 30, 3) := by decide +kernel
theorem dX2_givenTo_18 : decode cX2_givenTo 18 = .ok (.aload_n 0, 1) := by decide +kernel
theorem dX2_givenTo_19 : decode cX2_givenTo 19 = .ok (.iload 5, 2) := by decide +kernel
theorem dX2_givenTo_21 : decode cX2_givenTo 21 = .ok (.iload_n 1, 1) := by decide +kernel
theorem dX2_givenTo_22 : decode cX2_givenTo 22 = .ok (.iload_n 2, 1) := by decide +kernel
theorem dX2_givenTo_23 : decode cX2_givenTo 23 = .ok (.iload_n 3, 1) := by decide +kernel
theorem dX2_givenTo_24 : decode cX2_givenTo 24 = .ok (.invokevirtual 154, 3) := by decide +kernel
theorem dX2_givenTo_27 : decode cX2_givenTo 27 = .ok (.ifCond .eq 12, 3) := by decide +kernel
theorem dX2_givenTo_30 : decode cX2_givenTo 30 = .ok (.iload 4, 2) := by decide +kernel
theorem dX2_givenTo_32 : decode cX2_givenTo 32 = .ok (.iconst 1, 1) := by decide +kernel
theorem dX2_givenTo_33 : decode cX2_givenTo 33 = .ok (.iload 5, 2) := by decide +kernel
theorem dX2_givenTo_35 : decode cX2_givenTo 35 = .ok (.ishl, 1) := by decide +kernel
theorem dX2_givenTo_36 : decode cX2_givenTo 36 = .ok (.ior, 1) := by decide +kernel
theorem dX2_givenTo_37 : decode cX2_givenTo 37 = .ok (.istore 4, 2) := by decide +kernel
theorem dX2_givenTo_39 : decode cX2_givenTo 39 = .ok (.iinc 5 1, 3) := by decide +kernel
theorem dX2_givenTo_42 : decode cX2_givenTo 42 = .ok (.goto (-36), 3) := by decide +kernel
theorem dX2_givenTo_45 : decode cX2_givenTo 45 = .ok (.iload 4, 2) := by decide +kernel
theorem dX2_givenTo_47 : decode cX2_givenTo 47 = .ok (.ireturn, 1) := by decide +kernel
set_option maxRecDepth 20000 in
theorem ggX2_isGiven_J9_floorMod_7cf53 : GoodIn wsX2_isGiven wsJ9_floorMod_7cf53 := goodIn_r _ [6] (by decide +kernel) (by decide +kernel)
set_option maxRecDepth 20000 in
theorem gX2_isGiven_J9_floorMod_7cf53 : GoodIn wsX2_isGiven (va_wsS RX2 158 yJ9_floorMod_7cf53 wsJ9_floorMod_7cf53) := goodIn_app (goodIn_of _ (by decide +kernel)) ggX2_isGiven_J9_floorMod_7cf53
theorem dX2_isGiven_0 : decode cX2_isGiven 0 = .ok (.iload 4, 2) := by decide +kernel
theorem dX2_isGiven_2 : decode cX2_isGiven 2 = .ok (.ifCond .eq 8, 3) := by decide +kernel
theorem dX2_isGiven_5 : decode cX2_isGiven 5 = .ok (.iload_n 3, 1) := by decide +kernel
theorem dX2_isGiven_6 : decode cX2_isGiven 6 = .ok (.iconst 1, 1) := by decide +kernel
theorem dX2_isGiven_7 : decode cX2_isGiven 7 = .ok (.if_icmp .ge 5, 3) := by decide +kernel
theorem dX2_isGiven_10 : decode cX2_isGiven 10 = .ok (.iconst 1, 1) := by decide +kernel
theorem dX2_isGiven_11 : decode cX2_isGiven 11 = .ok (.ireturn, 1) := by decide +kernel
theorem dX2_isGiven_12 : decode cX2_isGiven 12 = .ok (.iload 4, 2) := by decide +kernel
theorem dX2_isGiven_14 : decode cX2_isGiven 14 = .ok (.iconst 4, 1) := by decide +kernel
theorem dX2_isGiven_15 : decode cX2_isGiven 15 = .ok (.if_icmp .ne 42, 3) := by decide +kernel
theorem dX2_isGiven_18 : decode cX2_isGiven 18 = .ok (.iload_n 1, 1) := by decide +kernel
theorem dX2_isGiven_19 : decode cX2_isGiven 19 = .ok (.aload_n 0, 1) := by decide +kernel
theorem dX2_isGiven_20 : decode cX2_isGiven 20 = .ok (.getfield 47, 3) := by decide +kernel
theorem dX2_isGiven_23 : decode cX2_isGiven 23 = .ok (.getfield 151, 3) := by decide +kernel
theorem dX2_isGiven_26 : decode cX2_isGiven 26 = .ok (.iconst 2, 1) := by decide +kernel
theorem dX2_isGiven_27 : decode cX2_isGiven 27 = .ok (.idiv, 1) := by decide +kernel
theorem dX2_isGiven_28 : decode cX2_isGiven 28 = .ok (.if_icmp .ge 7, 3) := by decide +kernel
theorem dX2_isGiven_31 : decode cX2_isGiven 31 = .ok (.iconst 1, 1) := by decide +kernel
theorem dX2_isGiven_32 : decode cX2_isGiven 32 = .ok (.goto 4, 3) := by decide +kernel
theorem dX2_isGiven_35 : decode cX2_isGiven 35 = .ok (.iconst 0, 1) := by decide +kernel
theorem dX2_isGiven_36 : decode cX2_isGiven 36 = .ok (.iload_n 2, 1) := by decide +kernel
theorem dX2_isGiven_37 : decode cX2_isGiven 37 = .ok (.iload_n 3, 1) := by decide +kernel
theorem dX2_isGiven_38 : decode cX2_isGiven 38 = .ok (.iconst 2, 1) := by decide +kernel
theorem dX2_isGiven_39 : decode cX2_isGiven 39 = .ok (.idiv, 1) := by decide +kernel
theorem dX2_isGiven_40 : decode cX2_isGiven 40 = .ok (.if_icmp .ge 7, 3) := by decide +kernel
theorem dX2_isGiven_43 : decode cX2_isGiven 43 = .ok (.iconst 1, 1) := by decide +kernel
theorem dX2_isGiven_44 : decode cX2_isGiven 44 = .ok (.goto 4, 3) := by decide +kernel
theorem dX2_isGiven_47 : decode cX2_isGiven 47 = .ok (.iconst 0, 1) := by decide +kernel
theorem dX2_isGiven_48 : decode cX2_isGiven 48 = .ok (.if_icmp .ne 7, 3) := by decide +kernel
theorem dX2_isGiven_51 : decode cX2_isGiven 51 = .ok (.iconst 1, 1) := by decide +kernel
theorem dX2_isGiven_52 : decode cX2_isGiven 52 = .ok (.goto 4, 3) := by decide +kernel
theorem dX2_isGiven_55 : decode cX2_isGiven 55 = .ok (.iconst 0, 1) := by decide +kernel
theorem dX2_isGiven_56 : decode cX2_isGiven 56 = .ok (.ireturn, 1) := by decide +kernel
theorem dX2_isGiven_57 : decode cX2_isGiven 57 = .ok (.iload_n 2, 1) := by decide +kernel
theorem dX2_isGiven_58 : decode cX2_isGiven 58 = .ok (.iload_n 1, 1) := by decide +kernel
theorem dX2_isGiven_59 : decode cX2_isGiven 59 = .ok (.isub, 1) := by decide +kernel
theorem dX2_isGiven_60 : decode cX2_isGiven 60 = .ok (.iload_n 3, 1) := by decide +kernel
theorem dX2_isGiven_61 : decode cX2_isGiven 61 = .ok (.invokestatic 158, 3) := by decide +kernel
theorem dX2_isGiven_64 : decode cX2_isGiven 64 = .ok (.iload 4, 2) := by decide +kernel
theorem dX2_isGiven_66 : decode cX2_isGiven 66 = .ok (.if_icmp .ge 7, 3) := by decide +kernel
theorem dX2_isGiven_69 : decode cX2_isGiven 69 = .ok (.iconst 1, 1) := by decide +kernel
theorem dX2_isGiven_70 : decode cX2_isGiven 70 = .ok (.goto 4, 3) := by decide +kernel
theorem dX2_isGiven_73 : decode cX2_isGiven 73 = .ok (.iconst 0, 1) := by decide +kernel
theorem dX2_isGiven_74 : decode cX2_isGiven 74 = .ok (.ireturn, 1) := by decide +kernel
theorem dX3_init_0 : decode cX3_init 0 = .ok (.aload_n 0, 1) := by decide +kernel
theorem dX3_init_1 : decode cX3_init 1 = .ok (.invokespecial 3, 3) := by decide +kernel
theorem dX3_init_4 : decode cX3_init 4 = .ok (.aload_n 0, 1) := by decide +kernel
theorem dX3_init_5 : decode cX3_init 5 = .ok (.bipush 12, 2) := by decide +kernel
theorem dX3_init_7 : decode cX3_init 7 = .ok (.newarray .int, 2) := by decide +kernel
theorem dX3_init_9 : decode cX3_init 9 = .ok (.putfield 9, 3) := by decide +kernel
theorem dX3_init_12 : decode cX3_init 12 = .ok (.aload_n 0, 1) := by decide +kernel
theorem dX3_init_13 : decode cX3_init 13 = .ok (.bipush 12, 2) := by decide +kernel
theorem dX3_init_15 : decode cX3_init 15 = .ok (.newarray .int, 2) := by decide +kernel
theorem dX3_init_17 : decode cX3_init 17 = .ok (.putfield 15, 3) := by decide +kernel
theorem dX3_init_20 : decode cX3_init 20 = .ok (.aload_n 0, 1) := by decide +kernel
theorem dX3_init_21 : decode cX3_init 21 = .ok (.iconst 0, 1) := by decide +kernel
theorem dX3_init_22 : decode cX3_init 22 = .ok (.putfield 18, 3) := by decide +kernel
theorem dX3_init_25 : decode cX3_init 25 = .ok (.return_, 1) := by decide +kernel
theorem dX3_isFull_0 : decode cX3_isFull 0 = .ok (.aload_n 0, 1) := by decide +kernel
theorem dX3_isFull_1 : decode cX3_isFull 1 = .ok (.getfield 18, 3) := by decide +kernel
theorem dX3_isFull_4 : decode cX3_isFull 4 = .ok (.bipush 12, 2) := by decide +kernel
theorem dX3_isFull_6 : decode cX3_isFull 6 = .ok (.if_icmp .lt 7, 3) := by decide +kernel
theorem dX3_isFull_9 : decode cX3_isFull 9 = .ok (.iconst 1, 1) := by decide +kernel
theorem dX3_isFull_10 : decode cX3_isFull 10 = .ok (.goto 4, 3) := by decide +kernel
theorem dX3_isFull_13 : decode cX3_isFull 13 = .ok (.iconst 0, 1) := by decide +kernel
theorem dX3_isFull_14 : decode cX3_isFull 14 = .ok (.ireturn, 1) := by decide +kernel
theorem dX3_has_0 : decode cX3_has 0 = .ok (.iconst 0, 1) := by decide +kernel
theorem dX3_has_1 : decode cX3_has 1 = .ok (.istore_n 3, 1) := by decide +kernel
theorem dX3_has_2 : decode cX3_has 2 = .ok (.iload_n 3, 1) := by decide +kernel
theorem dX3_has_3 : decode cX3_has 3 = .ok (.aload_n 0, 1) := by decide +kernel
theorem dX3_has_4 : decode cX3_has 4 = .ok (.getfield 18, 3) := by decide +kernel
theorem dX3_has_7 : decode cX3_has 7 = .ok (.if_icmp .ge 31, 3) := by decide +kernel
theorem dX3_has_10 : decode cX3_has 10 = .ok (.aload_n 0, 1) := by decide +kernel
theorem dX3_has_11 : decode cX3_has 11 = .ok (.getfield 9, 3) := by decide +kernel
theorem dX3_has_14 : decode cX3_has 14 = .ok (.iload_n 3, 1) := by decide +kernel
theorem dX3_has_15 : decode cX3_has 15 = .ok (.iaload, 1) := by decide +kernel
theorem dX3_has_16 : decode cX3_has 16 = .ok (.iload_n 1, 1) := by decide +kernel
theorem dX3_has_17 : decode cX3_has 17 = .ok (.if_icmp .ne 15, 3) := by decide +kernel
theorem dX3_has_20 : decode cX3_has 20 = .ok (.aload_n 0, 1) := by decide +kernel
theorem dX3_has_21 : decode cX3_has 21 = .ok (.getfield 15, 3) := by decide +kernel
theorem dX3_has_24 : decode cX3_has 24 = .ok (.iload_n 3, 1) := by decide +kernel
theorem dX3_has_25 : decode cX3_has 25 = .ok (.iaload, 1) := by decide +kernel
theorem dX3_has_26 : decode cX3_has 26 = .ok (.iload_n 2, 1) := by decide +kernel
theorem dX3_has_27 : decode cX3_has 27 = .ok (.if_icmp .ne 5, 3) := by decide +kernel
theorem dX3_has_30 : decode cX3_has 30 = .ok (.iconst 1, 1) := by decide +kernel
theorem dX3_has_31 : decode cX3_has 31 = .ok (.ireturn, 1) := by decide +kernel
theorem dX3_has_32 : decode cX3_has 32 = .ok (.iinc 3 1, 3) := by decide +kernel
theorem dX3_has_35 : decode cX3_has 35 = .ok (.goto (-33), 3) := by decide +kernel
theorem dX3_has_38 : decode cX3_has 38 = .ok (.iconst 0, 1) := by decide +kernel
theorem dX3_has_39 : decode cX3_has 39 = .ok (.ireturn, 1) := by decide +kernel
theorem dX3_add_0 : decode cX3_add 0 = .ok (.aload_n 0, 1) := by decide +kernel
theorem dX3_add_1 : decode cX3_add 1 = .ok (.getfield 18, 3) := by decide +kernel
theorem dX3_add_4 : decode cX3_add 4 = .ok (.bipush 12, 2) := by decide +kernel
theorem dX3_add_6 : decode cX3_add 6 = .ok (.if_icmp .ge 33, 3) := by decide +kernel
theorem dX3_add_9 : decode cX3_add 9 = .ok (.aload_n 0, 1) := by decide +kernel
theorem dX3_add_10 : decode cX3_add 10 = .ok (.getfield 9, 3) := by decide +kernel
theorem dX3_add_13 : decode cX3_add 13 = .ok (.aload_n 0, 1) := by decide +kernel
theorem dX3_add_14 : decode cX3_add 14 = .ok (.getfield 18, 3) := by decide +kernel
theorem dX3_add_17 : decode cX3_add 17 = .ok (.iload_n 1, 1) := by decide +kernel
theorem dX3_add_18 : decode cX3_add 18 = .ok (.iastore, 1) := by decide +kernel
theorem dX3_add_19 : decode cX3_add 19 = .ok (.aload_n 0, 1) := by decide +kernel
theorem dX3_add_20 : decode cX3_add 20 = .ok (.getfield 15, 3) := by decide +kernel
theorem dX3_add_23 : decode cX3_add 23 = .ok (.aload_n 0, 1) := by decide +kernel
theorem dX3_add_24 : decode cX3_add 24 = .ok (.getfield 18, 3) := by decide +kernel
theorem dX3_add_27 : decode cX3_add 27 = .ok (.iload_n 2, 1) := by decide +kernel
theorem dX3_add_28 : decode cX3_add 28 = .ok (.iastore, 1) := by decide +kernel
theorem dX3_add_29 : decode cX3_add 29 = .ok (.aload_n 0, 1) := by decide +kernel
theorem dX3_add_30 : decode cX3_add 30 = .ok (.dup, 1) := by decide +kernel
theorem dX3_add_31 : decode cX3_add 31 = .ok (.getfield 18, 3) := by decide +kernel
theorem dX3_add_34 : decode cX3_add 34 = .ok (.iconst 1, 1) := by decide +kernel
theorem dX3_add_35 : decode cX3_add 35 = .ok (.iadd, 1) := by decide +kernel
theorem dX3_add_36 : decode cX3_add 36 = .ok (.putfield 18, 3) := by decide +kernel
theorem dX3_add_39 : decode cX3_add 39 = .ok (.return_, 1) := by decide +kernel
theorem dX3_copyFrom_0 : decode cX3_copyFrom 0 = .ok (.aload_n 1, 1) := by decide +kernel
theorem dX3_copyFrom_1 : decode cX3_copyFrom 1 = .ok (.getfield 9, 3) := by decide +kernel
theorem dX3_copyFrom_4 : decode cX3_copyFrom 4 = .ok (.iconst 0, 1) := by decide +kernel
theorem dX3_copyFrom_5 : decode cX3_copyFrom 5 = .ok (.aload_n 0, 1) := by decide +kernel
theorem dX3_copyFrom_6 : decode cX3_copyFrom 6 = .ok (.getfield 9, 3) := by decide +kernel
theorem dX3_copyFrom_9 : decode cX3_copyFrom 9 = .ok (.iconst 0, 1) := by decide +kernel
theorem dX3_copyFrom_10 : decode cX3_copyFrom 10 = .ok (.bipush 12, 2) := by decide +kernel
theorem dX3_copyFrom_12 : decode cX3_copyFrom 12 = .ok (.invokestatic 22, 3) := by decide +kernel
theorem dX3_copyFrom_15 : decode cX3_copyFrom 15 = .ok (.aload_n 1, 1) := by decide +kernel
theorem dX3_copyFrom_16 : decode cX3_copyFrom 16 = .ok (.getfield 15, 3) := by decide +kernel
theorem dX3_copyFrom_19 : decode cX3_copyFrom 19 = .ok (.iconst 0, 1) := by decide +kernel
theorem dX3_copyFrom_20 : decode cX3_copyFrom 20 = .ok (.aload_n 0, 1) := by decide +kernel
theorem dX3_copyFrom_21 : decode cX3_copyFrom 21 = .ok (.getfield 15, 3) := by decide +kernel
theorem dX3_copyFrom_24 : decode cX3_copyFrom 24 = .ok (.iconst 0, 1) := by decide +kernel
theorem dX3_copyFrom_25 : decode cX3_copyFrom 25 = .ok (.bipush 12, 2) := by decide +kernel
theorem dX3_copyFrom_27 : decode cX3_copyFrom 27 = .ok (.invokestatic 22, 3) := by decide +kernel
theorem dX3_copyFrom_30 : decode cX3_copyFrom 30 = .ok (.aload_n 0, 1) := by decide +kernel
theorem dX3_copyFrom_31 : decode cX3_copyFrom 31 = .ok (.aload_n 1, 1) := by decide +kernel
theorem dX3_copyFrom_32 : decode cX3_copyFrom 32 = .ok (.getfield 18, 3) := by decide +kernel
theorem dX3_copyFrom_35 : decode cX3_copyFrom 35 = .ok (.putfield 18, 3) := by decide +kernel
theorem dX3_copyFrom_38 : decode cX3_copyFrom 38 = .ok (.return_, 1) := by decide +kernel
theorem dX4_init_0 : decode cX4_init 0 = .ok (.aload_n 0, 1) := by decide +kernel
theorem dX4_init_1 : decode cX4_init 1 = .ok (.invokespecial 3, 3) := by decide +kernel
theorem dX4_init_4 : decode cX4_init 4 = .ok (.aload_n 0, 1) := by decide +kernel
theorem dX4_init_5 : decode cX4_init 5 = .ok (.bipush 80, 2) := by decide +kernel
theorem dX4_init_7 : decode cX4_init 7 = .ok (.newarray .byte, 2) := by decide +kernel
theorem dX4_init_9 : decode cX4_init 9 = .ok (.putfield 9, 3) := by decide +kernel
theorem dX4_init_12 : decode cX4_init 12 = .ok (.aload_n 0, 1) := by decide +kernel
theorem dX4_init_13 : decode cX4_init 13 = .ok (.iconst 0, 1) := by decide +kernel
theorem dX4_init_14 : decode cX4_init 14 = .ok (.putfield 15, 3) := by decide +kernel
theorem dX4_init_17 : decode cX4_init 17 = .ok (.aload_n 0, 1) := by decide +kernel
theorem dX4_init_18 : decode cX4_init 18 = .ok (.iconst 0, 1) := by decide +kernel
theorem dX4_init_19 : decode cX4_init 19 = .ok (.putfield 19, 3) := by decide +kernel
theorem dX4_init_22 : decode cX4_init 22 = .ok (.return_, 1) := by decide +kernel
theorem dX4_take_0 : decode cX4_take 0 = .ok (.iconst 0, 1) := by decide +kernel
theorem dX4_take_1 : decode cX4_take 1 = .ok (.istore 4, 2) := by decide +kernel
theorem dX4_take_3 : decode cX4_take 3 = .ok (.iload 4, 2) := by decide +kernel
theorem dX4_take_5 : decode cX4_take 5 = .ok (.iload_n 1, 1) := by decide +kernel
theorem dX4_take_6 : decode cX4_take 6 = .ok (.if_icmp .ge 46, 3) := by decide +kernel
theorem dX4_take_9 : decode cX4_take 9 = .ok (.aload_n 0, 1) := by decide +kernel
theorem dX4_take_10 : decode cX4_take 10 = .ok (.getfield 15, 3) := by decide +kernel
theorem dX4_take_13 : decode cX4_take 13 = .ok (.bipush 80, 2) := by decide +kernel
