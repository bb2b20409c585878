theorem dX4_take_15 : decode cX4_take 15 = .ok (.if_icmp .ge 37, 3) := by decide +kernel
theorem dX4_take_18 : decode cX4_take 18 = .ok (.aload_n 0, 1) := by decide +kernel
theorem dX4_take_19 : decode cX4_take 19 = .ok (.getfield 9, 3) := by decide +kernel
theorem dX4_take_22 : decode cX4_take 22 = .ok (.aload_n 0, 1) := by decide +kernel
theorem dX4_take_23 : decode cX4_take 23 = .ok (.getfield 15, 3) := by decide +kernel
theorem dX4_take_26 : decode cX4_take 26 = .ok (.lload_n 2, 1) := by decide +kernel
theorem dX4_take_27 : decode cX4_take 27 = .ok (.bipush 8, 2) := by decide +kernel
theorem dX4_take_29 : decode cX4_take 29 = .ok (.iload 4, 2) := by decide +kernel
theorem dX4_take_31 : decode cX4_take 31 = .ok (.imul, 1) := by decide +kernel
theorem dX4_take_32 : decode cX4_take 32 = .ok (.lushr, 1) := by decide +kernel
theorem dX4_take_33 : decode cX4_take 33 = .ok (.l2i, 1) := by decide +kernel
theorem dX4_take_34 : decode cX4_take 34 = .ok (.i2b, 1) := by decide +kernel
theorem dX4_take_35 : decode cX4_take 35 = .ok (.bastore, 1) := by decide +kernel
theorem dX4_take_36 : decode cX4_take 36 = .ok (.aload_n 0, 1) := by decide +kernel
theorem dX4_take_37 : decode cX4_take 37 = .ok (.dup, 1) := by decide +kernel
theorem dX4_take_38 : decode cX4_take 38 = .ok (.getfield 15, 3) := by decide +kernel
theorem dX4_take_41 : decode cX4_take 41 = .ok (.iconst 1, 1) := by decide +kernel
theorem dX4_take_42 : decode cX4_take 42 = .ok (.iadd, 1) := by decide +kernel
theorem dX4_take_43 : decode cX4_take 43 = .ok (.putfield 15, 3) := by decide +kernel
theorem dX4_take_46 : decode cX4_take 46 = .ok (.iinc 4 1, 3) := by decide +kernel
theorem dX4_take_49 : decode cX4_take 49 = .ok (.goto (-46), 3) := by decide +kernel
theorem dX4_take_52 : decode cX4_take 52 = .ok (.return_, 1) := by decide +kernel
set_option maxRecDepth 20000 in
theorem ggX4_readInto_X4_readStatement : GoodIn wsX4_readInto wsX4_readStatement := goodIn_r _ [7, 1, 8, 9, 10, 6, 11, 12, 13, 14, 15, 16, 17, 18, 19, 20, 21, 22, 23, 24, 25, 26, 27, 28, 29, 2, 30, 31, 32, 33, 34, 35, 36, 37, 38, 39, 40, 41, 42, 43, 44, 45, 46, 47, 48, 49, 50, 51, 52, 53, 54, 55, 56, 57, 58, 59, 60, 61, 62, 63, 64, 65, 66, 67, 68, 69, 70, 71, 72, 73, 74, 75, 76, 77, 78, 79, 80, 81, 82, 83, 84, 85, 86, 87, 88, 89, 90, 91, 92, 93, 94, 95, 96, 97, 98, 99] (by decide +kernel) (by decide +kernel)
set_option maxRecDepth 20000 in
theorem gX4_readInto_X4_readStatement : GoodIn wsX4_readInto (wsV RX4 22 RX4 yX4_readStatement wsX4_readStatement) := goodIn_app (goodIn_of _ (by decide +kernel)) ggX4_readInto_X4_readStatement
theorem dX4_readInto_0 : decode cX4_readInto 0 = .ok (.aload_n 0, 1) := by decide +kernel
theorem dX4_readInto_1 : decode cX4_readInto 1 = .ok (.iconst 0, 1) := by decide +kernel
theorem dX4_readInto_2 : decode cX4_readInto 2 = .ok (.putfield 19, 3) := by decide +kernel
theorem dX4_readInto_5 : decode cX4_readInto 5 = .ok (.iconst 0, 1) := by decide +kernel
theorem dX4_readInto_6 : decode cX4_readInto 6 = .ok (.istore_n 2, 1) := by decide +kernel
theorem dX4_readInto_7 : decode cX4_readInto 7 = .ok (.aload_n 0, 1) := by decide +kernel
theorem dX4_readInto_8 : decode cX4_readInto 8 = .ok (.getfield 19, 3) := by decide +kernel
theorem dX4_readInto_11 : decode cX4_readInto 11 = .ok (.aload_n 0, 1) := by decide +kernel
theorem dX4_readInto_12 : decode cX4_readInto 12 = .ok (.getfield 15, 3) := by decide +kernel
theorem dX4_readInto_15 : decode cX4_readInto 15 = .ok (.if_icmp .ge 31, 3) := by decide +kernel
theorem dX4_readInto_18 : decode cX4_readInto 18 = .ok (.iload_n 2, 1) := by decide +kernel
theorem dX4_readInto_19 : decode cX4_readInto 19 = .ok (.bipush 80, 2) := by decide +kernel
theorem dX4_readInto_21 : decode cX4_readInto 21 = .ok (.if_icmp .ge 25, 3) := by decide +kernel
theorem dX4_readInto_24 : decode cX4_readInto 24 = .ok (.aload_n 0, 1) := by decide +kernel
theorem dX4_readInto_25 : decode cX4_readInto 25 = .ok (.aload_n 1, 1) := by decide +kernel
theorem dX4_readInto_26 : decode cX4_readInto 26 = .ok (.invokevirtual 22, 3) := by decide +kernel
theorem dX4_readInto_29 : decode cX4_readInto 29 = .ok (.ifCond .ne 11, 3) := by decide +kernel
theorem dX4_readInto_32 : decode cX4_readInto 32 = .ok (.bipush (-20), 2) := by decide +kernel
theorem dX4_readInto_34 : decode cX4_readInto 34 = .ok (.aload_n 0, 1) := by decide +kernel
theorem dX4_readInto_35 : decode cX4_readInto 35 = .ok (.getfield 19, 3) := by decide +kernel
theorem dX4_readInto_38 : decode cX4_readInto 38 = .ok (.isub, 1) := by decide +kernel
theorem dX4_readInto_39 : decode cX4_readInto 39 = .ok (.ireturn, 1) := by decide +kernel
theorem dX4_readInto_40 : decode cX4_readInto 40 = .ok (.iinc 2 1, 3) := by decide +kernel
theorem dX4_readInto_43 : decode cX4_readInto 43 = .ok (.goto (-36), 3) := by decide +kernel
theorem dX4_readInto_46 : decode cX4_readInto 46 = .ok (.iload_n 2, 1) := by decide +kernel
theorem dX4_readInto_47 : decode cX4_readInto 47 = .ok (.ireturn, 1) := by decide +kernel
set_option maxRecDepth 20000 in
theorem ggX4_readStatement_X4_hasRoom : GoodIn wsX4_readStatement wsX4_hasRoom := goodIn_r _ [6, 7, 8, 9, 10, 11, 12, 13, 14, 15, 16, 84, 85, 86, 87, 88, 89, 90, 91, 92, 93, 94, 95] (by decide +kernel) (by decide +kernel)
set_option maxRecDepth 20000 in
theorem gX4_readStatement_X4_hasRoom : GoodIn wsX4_readStatement (va_wsS RX4 26 yX4_hasRoom wsX4_hasRoom) := goodIn_app (goodIn_of _ (by decide +kernel)) ggX4_readStatement_X4_hasRoom
set_option maxRecDepth 20000 in
theorem ggX4_readStatement_X4_readHand : GoodIn wsX4_readStatement wsX4_readHand := goodIn_r _ [20, 21, 22, 23, 5, 24, 1, 25, 2, 26, 27, 28, 29, 30, 31, 32, 33, 34, 35, 36, 37, 38, 39, 40, 41, 42, 81, 82, 83, 84, 85, 86, 87, 88, 89, 90, 91, 92] (by decide +kernel) (by decide +kernel)
set_option maxRecDepth 20000 in
theorem gX4_readStatement_X4_readHand : GoodIn wsX4_readStatement (wsV RX4 30 RX4 yX4_readHand wsX4_readHand) := goodIn_app (goodIn_of _ (by decide +kernel)) ggX4_readStatement_X4_readHand
set_option maxRecDepth 20000 in
theorem ggX4_readStatement_X4_readSight : GoodIn wsX4_readStatement wsX4_readSight := goodIn_r _ [46, 8, 1, 47, 48, 49, 5, 50, 25, 2, 51, 52, 53, 29, 54, 40, 55, 56, 57, 14, 58, 16, 59, 60, 32, 33, 34, 35, 61, 62, 63, 64, 84, 85, 86, 87, 88, 89, 90, 91, 92, 81, 82, 83, 93, 94, 95] (by decide +kernel) (by decide +kernel)
set_option maxRecDepth 20000 in
theorem gX4_readStatement_X4_readSight : GoodIn wsX4_readStatement (wsV RX4 33 RX4 yX4_readSight wsX4_readSight) := goodIn_app (goodIn_of _ (by decide +kernel)) ggX4_readStatement_X4_readSight
set_option maxRecDepth 20000 in
theorem ggX4_readStatement_X4_readTie : GoodIn wsX4_readStatement wsX4_readTie := goodIn_r _ [68, 9, 47, 48, 49, 5, 50, 1, 25, 2, 51, 52, 53, 29, 54, 40, 32, 33, 34, 35, 61, 62, 63, 14, 64, 16, 59, 60, 84, 85, 86, 87, 88, 89, 90, 91, 92, 81, 82, 83, 93, 94, 95] (by decide +kernel) (by decide +kernel)
set_option maxRecDepth 20000 in
theorem gX4_readStatement_X4_readTie : GoodIn wsX4_readStatement (wsV RX4 36 RX4 yX4_readTie wsX4_readTie) := goodIn_app (goodIn_of _ (by decide +kernel)) ggX4_readStatement_X4_readTie
set_option maxRecDepth 20000 in
theorem ggX4_readStatement_X4_readGuess : GoodIn wsX4_readStatement wsX4_readGuess := goodIn_r _ [72, 1, 25, 2, 10, 21, 22, 23, 5, 24, 26, 27, 28, 29, 30, 31, 32, 33, 34, 35, 73, 74, 75, 61, 62, 63, 14, 64, 16, 59, 60, 81, 82, 83, 84, 85, 86, 87, 88, 89, 90, 91, 92, 93, 94, 95] (by decide +kernel) (by decide +kernel)
set_option maxRecDepth 20000 in
theorem gX4_readStatement_X4_readGuess : GoodIn wsX4_readStatement (wsV RX4 39 RX4 yX4_readGuess wsX4_readGuess) := goodIn_app (goodIn_of _ (by decide +kernel)) ggX4_readStatement_X4_readGuess
set_option maxRecDepth 20000 in
theorem ggX4_readStatement_X4_readPaper : GoodIn wsX4_readStatement wsX4_readPaper := goodIn_r _ [79, 80, 21, 22, 23, 5, 24, 1, 25, 2, 26, 27, 28, 29, 30, 31, 32, 33, 34, 35, 84, 85, 86, 87, 88, 89, 90, 91, 92, 81, 82, 83] (by decide +kernel) (by decide +kernel)
set_option maxRecDepth 20000 in
theorem gX4_readStatement_X4_readPaper : GoodIn wsX4_readStatement (wsV RX4 42 RX4 yX4_readPaper wsX4_readPaper) := goodIn_app (goodIn_of _ (by decide +kernel)) ggX4_readStatement_X4_readPaper
theorem dX4_readStatement_0 : decode cX4_readStatement 0 = .ok (.aload_n 0, 1) := by decide +kernel
theorem dX4_readStatement_1 : decode cX4_readStatement 1 = .ok (.getfield 19, 3) := by decide +kernel
theorem dX4_readStatement_4 : decode cX4_readStatement 4 = .ok (.istore_n 2, 1) := by decide +kernel
theorem dX4_readStatement_5 : decode cX4_readStatement 5 = .ok (.aload_n 0, 1) := by decide +kernel
theorem dX4_readStatement_6 : decode cX4_readStatement 6 = .ok (.getfield 9, 3) := by decide +kernel
theorem dX4_readStatement_9 : decode cX4_readStatement 9 = .ok (.iload_n 2, 1) := by decide +kernel
theorem dX4_readStatement_10 : decode cX4_readStatement 10 = .ok (.baload, 1) := by decide +kernel
theorem dX4_readStatement_11 : decode cX4_readStatement 11 = .ok (.istore_n 3, 1) := by decide +kernel
theorem dX4_readStatement_12 : decode cX4_readStatement 12 = .ok (.aload_n 1, 1) := by decide +kernel
theorem dX4_readStatement_13 : decode cX4_readStatement 13 = .ok (.iload_n 3, 1) := by decide +kernel
theorem dX4_readStatement_14 : decode cX4_readStatement 14 = .ok (.invokestatic 26, 3) := by decide +kernel
theorem dX4_readStatement_17 : decode cX4_readStatement 17 = .ok (.ifCond .ne 5, 3) := by decide +kernel
theorem dX4_readStatement_20 : decode cX4_readStatement 20 = .ok (.iconst 0, 1) := by decide +kernel
theorem dX4_readStatement_21 : decode cX4_readStatement 21 = .ok (.ireturn, 1) := by decide +kernel
theorem dX4_readStatement_22 : decode cX4_readStatement 22 = .ok (.aload_n 0, 1) := by decide +kernel
theorem dX4_readStatement_23 : decode cX4_readStatement 23 = .ok (.dup, 1) := by decide +kernel
theorem dX4_readStatement_24 : decode cX4_readStatement 24 = .ok (.getfield 19, 3) := by decide +kernel
theorem dX4_readStatement_27 : decode cX4_readStatement 27 = .ok (.iconst 1, 1) := by decide +kernel
theorem dX4_readStatement_28 : decode cX4_readStatement 28 = .ok (.iadd, 1) := by decide +kernel
theorem dX4_readStatement_29 : decode cX4_readStatement 29 = .ok (.putfield 19, 3) := by decide +kernel
theorem dX4_readStatement_32 : decode cX4_readStatement 32 = .ok (.iload_n 3, 1) := by decide +kernel
theorem dX4_readStatement_33 : decode cX4_readStatement 33 = .ok (.lookupswitch 68 #[(103, 62), (104, 43), (115, 49), (116, 56)], 43) := by decide +kernel
theorem dX4_readStatement_76 : decode cX4_readStatement 76 = .ok (.aload_n 0, 1) := by decide +kernel
theorem dX4_readStatement_77 : decode cX4_readStatement 77 = .ok (.aload_n 1, 1) := by decide +kernel
theorem dX4_readStatement_78 : decode cX4_readStatement 78 = .ok (.invokevirtual 30, 3) := by decide +kernel
theorem dX4_readStatement_81 : decode cX4_readStatement 81 = .ok (.ireturn, 1) := by decide +kernel
theorem dX4_readStatement_82 : decode cX4_readStatement 82 = .ok (.aload_n 0, 1) := by decide +kernel
theorem dX4_readStatement_83 : decode cX4_readStatement 83 = .ok (.aload_n 1, 1) := by decide +kernel
theorem dX4_readStatement_84 : decode cX4_readStatement 84 = .ok (.iload_n 2, 1) := by decide +kernel
theorem dX4_readStatement_85 : decode cX4_readStatement 85 = .ok (.invokevirtual 33, 3) := by decide +kernel
theorem dX4_readStatement_88 : decode cX4_readStatement 88 = .ok (.ireturn, 1) := by decide +kernel
theorem dX4_readStatement_89 : decode cX4_readStatement 89 = .ok (.aload_n 0, 1) := by decide +kernel
theorem dX4_readStatement_90 : decode cX4_readStatement 90 = .ok (.aload_n 1, 1) := by decide +kernel
theorem dX4_readStatement_91 : decode cX4_readStatement 91 = .ok (.invokevirtual 36, 3) := by decide +kernel
theorem dX4_readStatement_94 : decode cX4_readStatement 94 = .ok (.ireturn, 1) := by decide +kernel
theorem dX4_readStatement_95 : decode cX4_readStatement 95 = .ok (.aload_n 0, 1) := by decide +kernel
theorem dX4_readStatement_96 : decode cX4_readStatement 96 = .ok (.aload_n 1, 1) := by decide +kernel
theorem dX4_readStatement_97 : decode cX4_readStatement 97 = .ok (.invokevirtual 39, 3) := by decide +kernel
theorem dX4_readStatement_100 : decode cX4_readStatement 100 = .ok (.ireturn, 1) := by decide +kernel
theorem dX4_readStatement_101 : decode cX4_readStatement 101 = .ok (.aload_n 0, 1) := by decide +kernel
theorem dX4_readStatement_102 : decode cX4_readStatement 102 = .ok (.aload_n 1, 1) := by decide +kernel
theorem dX4_readStatement_103 : decode cX4_readStatement 103 = .ok (.invokevirtual 42, 3) := by decide +kernel
theorem dX4_readStatement_106 : decode cX4_readStatement 106 = .ok (.ireturn, 1) := by decide +kernel
set_option maxRecDepth 20000 in
theorem ggX4_hasRoom_X3_isFull : GoodIn wsX4_hasRoom wsX3_isFull := goodIn_r _ [9, 10, 20, 21, 22] (by decide +kernel) (by decide +kernel)
set_option maxRecDepth 20000 in
theorem gX4_hasRoom_X3_isFull : GoodIn wsX4_hasRoom (wsV RX4 54 RX3 yX3_isFull wsX3_isFull) := goodIn_app (goodIn_of _ (by decide +kernel)) ggX4_hasRoom_X3_isFull
theorem dX4_hasRoom_0 : decode cX4_hasRoom 0 = .ok (.iload_n 1, 1) := by decide +kernel
theorem dX4_hasRoom_1 : decode cX4_hasRoom 1 = .ok (.lookupswitch 106 #[(103, 90), (104, 43), (115, 58), (116, 74)], 43) := by decide +kernel
theorem dX4_hasRoom_44 : decode cX4_hasRoom 44 = .ok (.aload_n 0, 1) := by decide +kernel
theorem dX4_hasRoom_45 : decode cX4_hasRoom 45 = .ok (.getfield 45, 3) := by decide +kernel
theorem dX4_hasRoom_48 : decode cX4_hasRoom 48 = .ok (.bipush 8, 2) := by decide +kernel
theorem dX4_hasRoom_50 : decode cX4_hasRoom 50 = .ok (.if_icmp .ge 7, 3) := by decide +kernel
theorem dX4_hasRoom_53 : decode cX4_hasRoom 53 = .ok (.iconst 1, 1) := by decide +kernel
theorem dX4_hasRoom_54 : decode cX4_hasRoom 54 = .ok (.goto 4, 3) := by decide +kernel
theorem dX4_hasRoom_57 : decode cX4_hasRoom 57 = .ok (.iconst 0, 1) := by decide +kernel
theorem dX4_hasRoom_58 : decode cX4_hasRoom 58 = .ok (.ireturn, 1) := by decide +kernel
theorem dX4_hasRoom_59 : decode cX4_hasRoom 59 = .ok (.aload_n 0, 1) := by decide +kernel
theorem dX4_hasRoom_60 : decode cX4_hasRoom 60 = .ok (.getfield 50, 3) := by decide +kernel
theorem dX4_hasRoom_63 : decode cX4_hasRoom 63 = .ok (.invokevirtual 54, 3) := by decide +kernel
theorem dX4_hasRoom_66 : decode cX4_hasRoom 66 = .ok (.ifCond .ne 7, 3) := by decide +kernel
theorem dX4_hasRoom_69 : decode cX4_hasRoom 69 = .ok (.iconst 1, 1) := by decide +kernel
theorem dX4_hasRoom_70 : decode cX4_hasRoom 70 = .ok (.goto 4, 3) := by decide +kernel
theorem dX4_hasRoom_73 : decode cX4_hasRoom 73 = .ok (.iconst 0, 1) := by decide +kernel
theorem dX4_hasRoom_74 : decode cX4_hasRoom 74 = .ok (.ireturn, 1) := by decide +kernel
theorem dX4_hasRoom_75 : decode cX4_hasRoom 75 = .ok (.aload_n 0, 1) := by decide +kernel
theorem dX4_hasRoom_76 : decode cX4_hasRoom 76 = .ok (.getfield 60, 3) := by decide +kernel
theorem dX4_hasRoom_79 : decode cX4_hasRoom 79 = .ok (.invokevirtual 54, 3) := by decide +kernel
theorem dX4_hasRoom_82 : decode cX4_hasRoom 82 = .ok (.ifCond .ne 7, 3) := by decide +kernel
theorem dX4_hasRoom_85 : decode cX4_hasRoom 85 = .ok (.iconst 1, 1) := by decide +kernel
theorem dX4_hasRoom_86 : decode cX4_hasRoom 86 = .ok (.goto 4, 3) := by decide +kernel
theorem dX4_hasRoom_89 : decode cX4_hasRoom 89 = .ok (.iconst 0, 1) := by decide +kernel
theorem dX4_hasRoom_90 : decode cX4_hasRoom 90 = .ok (.ireturn, 1) := by decide +kernel
theorem dX4_hasRoom_91 : decode cX4_hasRoom 91 = .ok (.aload_n 0, 1) := by decide +kernel
theorem dX4_hasRoom_92 : decode cX4_hasRoom 92 = .ok (.getfield 63, 3) := by decide +kernel
theorem dX4_hasRoom_95 : decode cX4_hasRoom 95 = .ok (.invokevirtual 54, 3) := by decide +kernel
theorem dX4_hasRoom_98 : decode cX4_hasRoom 98 = .ok (.ifCond .ne 7, 3) := by decide +kernel
theorem dX4_hasRoom_101 : decode cX4_hasRoom 101 = .ok (.iconst 1, 1) := by decide +kernel
theorem dX4_hasRoom_102 : decode cX4_hasRoom 102 = .ok (.goto 4, 3) := by decide +kernel
theorem dX4_hasRoom_105 : decode cX4_hasRoom 105 = .ok (.iconst 0, 1) := by decide +kernel
theorem dX4_hasRoom_106 : decode cX4_hasRoom 106 = .ok (.ireturn, 1) := by decide +kernel
theorem dX4_hasRoom_107 : decode cX4_hasRoom 107 = .ok (.iload_n 1, 1) := by decide +kernel
theorem dX4_hasRoom_108 : decode cX4_hasRoom 108 = .ok (.bipush 112, 2) := by decide +kernel
theorem dX4_hasRoom_110 : decode cX4_hasRoom 110 = .ok (.if_icmp .ne 7, 3) := by decide +kernel
theorem dX4_hasRoom_113 : decode cX4_hasRoom 113 = .ok (.iconst 1, 1) := by decide +kernel
theorem dX4_hasRoom_114 : decode cX4_hasRoom 114 = .ok (.goto 4, 3) := by decide +kernel
theorem dX4_hasRoom_117 : decode cX4_hasRoom 117 = .ok (.iconst 0, 1) := by decide +kernel
theorem dX4_hasRoom_118 : decode cX4_hasRoom 118 = .ok (.ireturn, 1) := by decide +kernel
set_option maxRecDepth 20000 in
theorem ggX4_readHand_X4_readSteps : GoodIn wsX4_readHand wsX4_readSteps := goodIn_r _ [5, 6, 7, 8, 9, 10, 11, 12, 13, 14, 26, 27, 28, 29, 30, 31, 32, 33, 34, 35, 36, 37] (by decide +kernel) (by decide +kernel)
set_option maxRecDepth 20000 in
theorem gX4_readHand_X4_readSteps : GoodIn wsX4_readHand (wsV RX4 66 RX4 yX4_readSteps wsX4_readSteps) := goodIn_app (goodIn_of _ (by decide +kernel)) ggX4_readHand_X4_readSteps
set_option maxRecDepth 20000 in
theorem ggX4_readHand_X4_readSign : GoodIn wsX4_readHand wsX4_readSign := goodIn_r _ [18, 6, 7, 8, 26, 27, 28] (by decide +kernel) (by decide +kernel)
set_option maxRecDepth 20000 in
theorem gX4_readHand_X4_readSign : GoodIn wsX4_readHand (wsV RX4 70 RX4 yX4_readSign wsX4_readSign) := goodIn_app (goodIn_of _ (by decide +kernel)) ggX4_readHand_X4_readSign
set_option maxRecDepth 20000 in
theorem ggX4_readHand_X1_addHand : GoodIn wsX4_readHand wsX1_addHand := goodIn_r _ [22, 23, 24, 25, 29, 30, 31, 32, 33, 34, 35, 36, 37] (by decide +kernel) (by decide +kernel)
set_option maxRecDepth 20000 in
theorem gX4_readHand_X1_addHand : GoodIn wsX4_readHand (wsV RX4 74 RX1 yX1_addHand wsX1_addHand) := goodIn_app (goodIn_of _ (by decide +kernel)) ggX4_readHand_X1_addHand
theorem dX4_readHand_0 : decode cX4_readHand 0 = .ok (.aload_n 0, 1) := by decide +kernel
theorem dX4_readHand_1 : decode cX4_readHand 1 = .ok (.aload_n 1, 1) := by decide +kernel
theorem dX4_readHand_2 : decode cX4_readHand 2 = .ok (.invokevirtual 66, 3) := by decide +kernel
theorem dX4_readHand_5 : decode cX4_readHand 5 = .ok (.istore_n 2, 1) := by decide +kernel
theorem dX4_readHand_6 : decode cX4_readHand 6 = .ok (.aload_n 0, 1) := by decide +kernel
theorem dX4_readHand_7 : decode cX4_readHand 7 = .ok (.bipush 59, 2) := by decide +kernel
theorem dX4_readHand_9 : decode cX4_readHand 9 = .ok (.invokevirtual 70, 3) := by decide +kernel
theorem dX4_readHand_12 : decode cX4_readHand 12 = .ok (.ifCond .ne 5, 3) := by decide +kernel
theorem dX4_readHand_15 : decode cX4_readHand 15 = .ok (.iconst 0, 1) := by decide +kernel
theorem dX4_readHand_16 : decode cX4_readHand 16 = .ok (.ireturn, 1) := by decide +kernel
theorem dX4_readHand_17 : decode cX4_readHand 17 = .ok (.aload_n 1, 1) := by decide +kernel
theorem dX4_readHand_18 : decode cX4_readHand 18 = .ok (.iload_n 2, 1) := by decide +kernel
theorem dX4_readHand_19 : decode cX4_readHand 19 = .ok (.invokevirtual 74, 3) := by decide +kernel
theorem dX4_readHand_22 : decode cX4_readHand 22 = .ok (.iconst 1, 1) := by decide +kernel
theorem dX4_readHand_23 : decode cX4_readHand 23 = .ok (.ireturn, 1) := by decide +kernel
set_option maxRecDepth 20000 in
theorem ggX4_readSight_X4_readDigit : GoodIn wsX4_readSight wsX4_readDigit := goodIn_r _ [7, 2, 8, 9, 10, 11, 12, 13, 14, 15, 41, 42, 43, 32, 33, 34, 35, 36, 37, 38, 39, 40] (by decide +kernel) (by decide +kernel)
set_option maxRecDepth 20000 in
theorem gX4_readSight_X4_readDigit : GoodIn wsX4_readSight (wsV RX4 78 RX4 yX4_readDigit wsX4_readDigit) := goodIn_app (goodIn_of _ (by decide +kernel)) ggX4_readSight_X4_readDigit
set_option maxRecDepth 20000 in
theorem ggX4_readSight_X3_has : GoodIn wsX4_readSight wsX3_has := goodIn_r _ [20, 21, 22, 23, 44, 45, 46] (by decide +kernel) (by decide +kernel)
set_option maxRecDepth 20000 in
theorem gX4_readSight_X3_has : GoodIn wsX4_readSight (wsV RX4 82 RX3 yX3_has wsX3_has) := goodIn_app (goodIn_of _ (by decide +kernel)) ggX4_readSight_X3_has
set_option maxRecDepth 20000 in
theorem ggX4_readSight_X4_readSign : GoodIn wsX4_readSight wsX4_readSign := goodIn_r _ [27, 2, 8, 9, 41, 42, 43] (by decide +kernel) (by decide +kernel)
set_option maxRecDepth 20000 in
theorem gX4_readSight_X4_readSign : GoodIn wsX4_readSight (wsV RX4 70 RX4 yX4_readSign wsX4_readSign) := goodIn_app (goodIn_of _ (by decide +kernel)) ggX4_readSight_X4_readSign
set_option maxRecDepth 20000 in
theorem ggX4_readSight_X3_add : GoodIn wsX4_readSight wsX3_add := goodIn_r _ [31, 21, 22, 23, 44, 45, 46] (by decide +kernel) (by decide +kernel)
set_option maxRecDepth 20000 in
theorem gX4_readSight_X3_add : GoodIn wsX4_readSight (wsV RX4 86 RX3 yX3_add wsX3_add) := goodIn_app (goodIn_of _ (by decide +kernel)) ggX4_readSight_X3_add
theorem dX4_readSight_0 : decode cX4_readSight 0 = .ok (.aload_n 0, 1) := by decide +kernel
theorem dX4_readSight_1 : decode cX4_readSight 1 = .ok (.aload_n 1, 1) := by decide +kernel
theorem dX4_readSight_2 : decode cX4_readSight 2 = .ok (.iconst (-1), 1) := by decide +kernel
theorem dX4_readSight_3 : decode cX4_readSight 3 = .ok (.invokevirtual 78, 3) := by decide +kernel
theorem dX4_readSight_6 : decode cX4_readSight 6 = .ok (.istore_n 3, 1) := by decide +kernel
theorem dX4_readSight_7 : decode cX4_readSight 7 = .ok (.iload_n 3, 1) := by decide +kernel
theorem dX4_readSight_8 : decode cX4_readSight 8 = .ok (.ifCond .ge 7, 3) := by decide +kernel
theorem dX4_readSight_11 : decode cX4_readSight 11 = .ok (.iconst (-1), 1) := by decide +kernel
theorem dX4_readSight_12 : decode cX4_readSight 12 = .ok (.goto 9, 3) := by decide +kernel
theorem dX4_readSight_15 : decode cX4_readSight 15 = .ok (.aload_n 0, 1) := by decide +kernel
theorem dX4_readSight_16 : decode cX4_readSight 16 = .ok (.aload_n 1, 1) := by decide +kernel
theorem dX4_readSight_17 : decode cX4_readSight 17 = .ok (.iload_n 3, 1) := by decide +kernel
theorem dX4_readSight_18 : decode cX4_readSight 18 = .ok (.invokevirtual 78, 3) := by decide +kernel
theorem dX4_readSight_21 : decode cX4_readSight 21 = .ok (.istore 4, 2) := by decide +kernel
theorem dX4_readSight_23 : decode cX4_readSight 23 = .ok (.iload 4, 2) := by decide +kernel
theorem dX4_readSight_25 : decode cX4_readSight 25 = .ok (.ifCond .ge 5, 3) := by decide +kernel
theorem dX4_readSight_28 : decode cX4_readSight 28 = .ok (.iconst 0, 1) := by decide +kernel
theorem dX4_readSight_29 : decode cX4_readSight 29 = .ok (.ireturn, 1) := by decide +kernel
theorem dX4_readSight_30 : decode cX4_readSight 30 = .ok (.aload_n 1, 1) := by decide +kernel
theorem dX4_readSight_31 : decode cX4_readSight 31 = .ok (.getfield 50, 3) := by decide +kernel
theorem dX4_readSight_34 : decode cX4_readSight 34 = .ok (.iload_n 3, 1) := by decide +kernel
theorem dX4_readSight_35 : decode cX4_readSight 35 = .ok (.iload 4, 2) := by decide +kernel
theorem dX4_readSight_37 : decode cX4_readSight 37 = .ok (.invokevirtual 82, 3) := by decide +kernel
theorem dX4_readSight_40 : decode cX4_readSight 40 = .ok (.ifCond .eq 10, 3) := by decide +kernel
theorem dX4_readSight_43 : decode cX4_readSight 43 = .ok (.aload_n 0, 1) := by decide +kernel
theorem dX4_readSight_44 : decode cX4_readSight 44 = .ok (.iload_n 2, 1) := by decide +kernel
theorem dX4_readSight_45 : decode cX4_readSight 45 = .ok (.putfield 19, 3) := by decide +kernel
theorem dX4_readSight_48 : decode cX4_readSight 48 = .ok (.iconst 0, 1) := by decide +kernel
theorem dX4_readSight_49 : decode cX4_readSight 49 = .ok (.ireturn, 1) := by decide +kernel
theorem dX4_readSight_50 : decode cX4_readSight 50 = .ok (.aload_n 0, 1) := by decide +kernel
theorem dX4_readSight_51 : decode cX4_readSight 51 = .ok (.bipush 59, 2) := by decide +kernel
theorem dX4_readSight_53 : decode cX4_readSight 53 = .ok (.invokevirtual 70, 3) := by decide +kernel
theorem dX4_readSight_56 : decode cX4_readSight 56 = .ok (.ifCond .ne 5, 3) := by decide +kernel
theorem dX4_readSight_59 : decode cX4_readSight 59 = .ok (.iconst 0, 1) := by decide +kernel
theorem dX4_readSight_60 : decode cX4_readSight 60 = .ok (.ireturn, 1) := by decide +kernel
theorem dX4_readSight_61 : decode cX4_readSight 61 = .ok (.aload_n 1, 1) := by decide +kernel
theorem dX4_readSight_62 : decode cX4_readSight 62 = .ok (.getfield 50, 3) := by decide +kernel
theorem dX4_readSight_65 : decode cX4_readSight 65 = .ok (.iload_n 3, 1) := by decide +kernel
theorem dX4_readSight_66 : decode cX4_readSight 66 = .ok (.iload 4, 2) := by decide +kernel
theorem dX4_readSight_68 : decode cX4_readSight 68 = .ok (.invokevirtual 86, 3) := by decide +kernel
theorem dX4_readSight_71 : decode cX4_readSight 71 = .ok (.iconst 1, 1) := by decide +kernel
theorem dX4_readSight_72 : decode cX4_readSight 72 = .ok (.ireturn, 1) := by decide +kernel
set_option maxRecDepth 20000 in
theorem ggX4_readTie_X4_readDigit : GoodIn wsX4_readTie wsX4_readDigit := goodIn_r _ [6, 7, 8, 9, 10, 11, 12, 13, 14, 15, 37, 38, 39, 28, 29, 30, 31, 32, 33, 34, 35, 36] (by decide +kernel) (by decide +kernel)
set_option maxRecDepth 20000 in
theorem gX4_readTie_X4_readDigit : GoodIn wsX4_readTie (wsV RX4 78 RX4 yX4_readDigit wsX4_readDigit) := goodIn_app (goodIn_of _ (by decide +kernel)) ggX4_readTie_X4_readDigit
set_option maxRecDepth 20000 in
theorem ggX4_readTie_X4_readSign : GoodIn wsX4_readTie wsX4_readSign := goodIn_r _ [19, 7, 8, 9, 37, 38, 39] (by decide +kernel) (by decide +kernel)
set_option maxRecDepth 20000 in
theorem gX4_readTie_X4_readSign : GoodIn wsX4_readTie (wsV RX4 70 RX4 yX4_readSign wsX4_readSign) := goodIn_app (goodIn_of _ (by decide +kernel)) ggX4_readTie_X4_readSign
set_option maxRecDepth 20000 in
theorem ggX4_readTie_X3_add : GoodIn wsX4_readTie wsX3_add := goodIn_r _ [24, 25, 26, 27, 40, 41, 42] (by decide +kernel) (by decide +kernel)
set_option maxRecDepth 20000 in
theorem gX4_readTie_X3_add : GoodIn wsX4_readTie (wsV RX4 86 RX3 yX3_add wsX3_add) := goodIn_app (goodIn_of _ (by decide +kernel)) ggX4_readTie_X3_add
theorem dX4_readTie_0 : decode cX4_readTie 0 = .ok (.aload_n 0, 1) := by decide +kernel
theorem dX4_readTie_1 : decode cX4_readTie 1 = .ok (.aload_n 1, 1) := by decide +kernel
theorem dX4_readTie_2 : decode cX4_readTie 2 = .ok (.iconst (-1), 1) := by decide +kernel
theorem dX4_readTie_3 : decode cX4_readTie 3 = .ok (.invokevirtual 78, 3) := by decide +kernel
theorem dX4_readTie_6 : decode cX4_readTie 6 = .ok (.istore_n 2, 1) := by decide +kernel
theorem dX4_readTie_7 : decode cX4_readTie 7 = .ok (.iload_n 2, 1) := by decide +kernel
theorem dX4_readTie_8 : decode cX4_readTie 8 = .ok (.ifCond .ge 7, 3) := by decide +kernel
theorem dX4_readTie_11 : decode cX4_readTie 11 = .ok (.iconst (-1), 1) := by decide +kernel
theorem dX4_readTie_12 : decode cX4_readTie 12 = .ok (.goto 9, 3) := by decide +kernel
theorem dX4_readTie_15 : decode cX4_readTie 15 = .ok (.aload_n 0, 1) := by decide +kernel
theorem dX4_readTie_16 : decode cX4_readTie 16 = .ok (.aload_n 1, 1) := by decide +kernel
theorem dX4_readTie_17 : decode cX4_readTie 17 = .ok (.iload_n 2, 1) := by decide +kernel
theorem dX4_readTie_18 : decode cX4_readTie 18 = .ok (.invokevirtual 78, 3) := by decide +kernel
theorem dX4_readTie_21 : decode cX4_readTie 21 = .ok (.istore_n 3, 1) := by decide +kernel
theorem dX4_readTie_22 : decode cX4_readTie 22 = .ok (.iload_n 3, 1) := by decide +kernel
theorem dX4_readTie_23 : decode cX4_readTie 23 = .ok (.ifCond .lt 12, 3) := by decide +kernel
theorem dX4_readTie_26 : decode cX4_readTie 26 = .ok (.aload_n 0, 1) := by decide +kernel
theorem dX4_readTie_27 : decode cX4_readTie 27 = .ok (.bipush 59, 2) := by decide +kernel
theorem dX4_readTie_29 : decode cX4_readTie 29 = .ok (.invokevirtual 70, 3) := by decide +kernel
theorem dX4_readTie_32 : decode cX4_readTie 32 = .ok (.ifCond .ne 5, 3) := by decide +kernel
theorem dX4_readTie_35 : decode cX4_readTie 35 = .ok (.iconst 0, 1) := by decide +kernel
theorem dX4_readTie_36 : decode cX4_readTie 36 = .ok (.ireturn, 1) := by decide +kernel
theorem dX4_readTie_37 : decode cX4_readTie 37 = .ok (.aload_n 1, 1) := by decide +kernel
theorem dX4_readTie_38 : decode cX4_readTie 38 = .ok (.getfield 60, 3) := by decide +kernel
theorem dX4_readTie_41 : decode cX4_readTie 41 = .ok (.iload_n 2, 1) := by decide +kernel
theorem dX4_readTie_42 : decode cX4_readTie 42 = .ok (.iload_n 3, 1) := by decide +kernel
theorem dX4_readTie_43 : decode cX4_readTie 43 = .ok (.invokevirtual 86, 3) := by decide +kernel
theorem dX4_readTie_46 : decode cX4_readTie 46 = .ok (.iconst 1, 1) := by decide +kernel
theorem dX4_readTie_47 : decode cX4_readTie 47 = .ok (.ireturn, 1) := by decide +kernel
set_option maxRecDepth 20000 in
theorem ggX4_readGuess_X4_readSteps : GoodIn wsX4_readGuess wsX4_readSteps := goodIn_r _ [9, 1, 2, 3, 10, 11, 12, 13, 14, 15, 31, 32, 33, 34, 35, 36, 37, 38, 39, 40, 41, 42] (by decide +kernel) (by decide +kernel)
set_option maxRecDepth 20000 in
theorem gX4_readGuess_X4_readSteps : GoodIn wsX4_readGuess (wsV RX4 66 RX4 yX4_readSteps wsX4_readSteps) := goodIn_app (goodIn_of _ (by decide +kernel)) ggX4_readGuess_X4_readSteps
set_option maxRecDepth 20000 in
theorem ggX4_readGuess_X4_readSign : GoodIn wsX4_readGuess wsX4_readSign := goodIn_r _ [19, 1, 2, 3, 31, 32, 33] (by decide +kernel) (by decide +kernel)
set_option maxRecDepth 20000 in
theorem gX4_readGuess_X4_readSign : GoodIn wsX4_readGuess (wsV RX4 70 RX4 yX4_readSign wsX4_readSign) := goodIn_app (goodIn_of _ (by decide +kernel)) ggX4_readGuess_X4_readSign
set_option maxRecDepth 20000 in
theorem ggX4_readGuess_X1_isStep : GoodIn wsX4_readGuess wsX1_isStep := goodIn_r _ [14, 15, 34, 35, 36, 37, 38, 39, 40, 41, 42] (by decide +kernel) (by decide +kernel)
set_option maxRecDepth 20000 in
theorem gX4_readGuess_X1_isStep : GoodIn wsX4_readGuess (wsV RX4 90 RX1 yX1_isStep wsX1_isStep) := goodIn_app (goodIn_of _ (by decide +kernel)) ggX4_readGuess_X1_isStep
set_option maxRecDepth 20000 in
theorem ggX4_readGuess_X5_contains : GoodIn wsX4_readGuess wsX5_contains := goodIn_r _ [22] (by decide +kernel) (by decide +kernel)
set_option maxRecDepth 20000 in
theorem gX4_readGuess_X5_contains_n94 : GoodIn wsX4_readGuess (wsX5_contains) := ggX4_readGuess_X5_contains
set_option maxRecDepth 20000 in
theorem ggX4_readGuess_X3_add : GoodIn wsX4_readGuess wsX3_add := goodIn_r _ [27, 28, 29, 30, 43, 44, 45] (by decide +kernel) (by decide +kernel)
set_option maxRecDepth 20000 in
theorem gX4_readGuess_X3_add : GoodIn wsX4_readGuess (wsV RX4 86 RX3 yX3_add wsX3_add) := goodIn_app (goodIn_of _ (by decide +kernel)) ggX4_readGuess_X3_add
theorem dX4_readGuess_0 : decode cX4_readGuess 0 = .ok (.aload_n 0, 1) := by decide +kernel
theorem dX4_readGuess_1 : decode cX4_readGuess 1 = .ok (.aload_n 1, 1) := by decide +kernel
theorem dX4_readGuess_2 : decode cX4_readGuess 2 = .ok (.invokevirtual 66, 3) := by decide +kernel
theorem dX4_readGuess_5 : decode cX4_readGuess 5 = .ok (.istore_n 2, 1) := by decide +kernel
theorem dX4_readGuess_6 : decode cX4_readGuess 6 = .ok (.iload_n 2, 1) := by decide +kernel
theorem dX4_readGuess_7 : decode cX4_readGuess 7 = .ok (.ifCond .eq 12, 3) := by decide +kernel
theorem dX4_readGuess_10 : decode cX4_readGuess 10 = .ok (.aload_n 0, 1) := by decide +kernel
theorem dX4_readGuess_11 : decode cX4_readGuess 11 = .ok (.bipush 62, 2) := by decide +kernel
theorem dX4_readGuess_13 : decode cX4_readGuess 13 = .ok (.invokevirtual 70, 3) := by decide +kernel
theorem dX4_readGuess_16 : decode cX4_readGuess 16 = .ok (.ifCond .ne 5, 3) := by decide +kernel
theorem dX4_readGuess_19 : decode cX4_readGuess 19 = .ok (.iconst 0, 1) := by decide +kernel
theorem dX4_readGuess_20 : decode cX4_readGuess 20 = .ok (.ireturn, 1) := by decide +kernel
theorem dX4_readGuess_21 : decode cX4_readGuess 21 = .ok (.aload_n 0, 1) := by decide +kernel
theorem dX4_readGuess_22 : decode cX4_readGuess 22 = .ok (.getfield 19, 3) := by decide +kernel
theorem dX4_readGuess_25 : decode cX4_readGuess 25 = .ok (.aload_n 0, 1) := by decide +kernel
theorem dX4_readGuess_26 : decode cX4_readGuess 26 = .ok (.getfield 15, 3) := by decide +kernel
theorem dX4_readGuess_29 : decode cX4_readGuess 29 = .ok (.if_icmp .ge 18, 3) := by decide +kernel
theorem dX4_readGuess_32 : decode cX4_readGuess 32 = .ok (.aload_n 0, 1) := by decide +kernel
theorem dX4_readGuess_33 : decode cX4_readGuess 33 = .ok (.getfield 9, 3) := by decide +kernel
theorem dX4_readGuess_36 : decode cX4_readGuess 36 = .ok (.aload_n 0, 1) := by decide +kernel
theorem dX4_readGuess_37 : decode cX4_readGuess 37 = .ok (.getfield 19, 3) := by decide +kernel
theorem dX4_readGuess_40 : decode cX4_readGuess 40 = .ok (.baload, 1) := by decide +kernel
theorem dX4_readGuess_41 : decode cX4_readGuess 41 = .ok (.bipush 97, 2) := by decide +kernel
theorem dX4_readGuess_43 : decode cX4_readGuess 43 = .ok (.isub, 1) := by decide +kernel
theorem dX4_readGuess_44 : decode cX4_readGuess 44 = .ok (.goto 4, 3) := by decide +kernel
theorem dX4_readGuess_47 : decode cX4_readGuess 47 = .ok (.iconst (-1), 1) := by decide +kernel
theorem dX4_readGuess_48 : decode cX4_readGuess 48 = .ok (.istore_n 3, 1) := by decide +kernel
theorem dX4_readGuess_49 : decode cX4_readGuess 49 = .ok (.aload_n 1, 1) := by decide +kernel
theorem dX4_readGuess_50 : decode cX4_readGuess 50 = .ok (.iload_n 3, 1) := by decide +kernel
theorem dX4_readGuess_51 : decode cX4_readGuess 51 = .ok (.invokevirtual 90, 3) := by decide +kernel
theorem dX4_readGuess_54 : decode cX4_readGuess 54 = .ok (.ifCond .eq 11, 3) := by decide +kernel
theorem dX4_readGuess_57 : decode cX4_readGuess 57 = .ok (.iload_n 2, 1) := by decide +kernel
theorem dX4_readGuess_58 : decode cX4_readGuess 58 = .ok (.iload_n 3, 1) := by decide +kernel
theorem dX4_readGuess_59 : decode cX4_readGuess 59 = .ok (.invokestatic 94, 3) := by decide +kernel
theorem dX4_readGuess_62 : decode cX4_readGuess 62 = .ok (.ifCond .eq 5, 3) := by decide +kernel
theorem dX4_readGuess_65 : decode cX4_readGuess 65 = .ok (.iconst 0, 1) := by decide +kernel
theorem dX4_readGuess_66 : decode cX4_readGuess 66 = .ok (.ireturn, 1) := by decide +kernel
theorem dX4_readGuess_67 : decode cX4_readGuess 67 = .ok (.aload_n 0, 1) := by decide +kernel
theorem dX4_readGuess_68 : decode cX4_readGuess 68 = .ok (.dup, 1) := by decide +kernel
theorem dX4_readGuess_69 : decode cX4_readGuess 69 = .ok (.getfield 19, 3) := by decide +kernel
theorem dX4_readGuess_72 : decode cX4_readGuess 72 = .ok (.iconst 1, 1) := by decide +kernel
theorem dX4_readGuess_73 : decode cX4_readGuess 73 = .ok (.iadd, 1) := by decide +kernel
theorem dX4_readGuess_74 : decode cX4_readGuess 74 = .ok (.putfield 19, 3) := by decide +kernel
theorem dX4_readGuess_77 : decode cX4_readGuess 77 = .ok (.aload_n 0, 1) := by decide +kernel
theorem dX4_readGuess_78 : decode cX4_readGuess 78 = .ok (.bipush 59, 2) := by decide +kernel
theorem dX4_readGuess_80 : decode cX4_readGuess 80 = .ok (.invokevirtual 70, 3) := by decide +kernel
theorem dX4_readGuess_83 : decode cX4_readGuess 83 = .ok (.ifCond .ne 5, 3) := by decide +kernel
theorem dX4_readGuess_86 : decode cX4_readGuess 86 = .ok (.iconst 0, 1) := by decide +kernel
theorem dX4_readGuess_87 : decode cX4_readGuess 87 = .ok (.ireturn, 1) := by decide +kernel
theorem dX4_readGuess_88 : decode cX4_readGuess 88 = .ok (.aload_n 1, 1) := by decide +kernel
theorem dX4_readGuess_89 : decode cX4_readGuess 89 = .ok (.getfield 63, 3) := by decide +kernel
theorem dX4_readGuess_92 : decode cX4_readGuess 92 = .ok (.iload_n 2, 1) := by decide +kernel
theorem dX4_readGuess_93 : decode cX4_readGuess 93 = .ok (.iload_n 3, 1) := by decide +kernel
theorem dX4_readGuess_94 : decode cX4_readGuess 94 = .ok (.invokevirtual 86, 3) := by decide +kernel
theorem dX4_readGuess_97 : decode cX4_readGuess 97 = .ok (.iconst 1, 1) := by decide +kernel
theorem dX4_readGuess_98 : decode cX4_readGuess 98 = .ok (.ireturn, 1) := by decide +kernel
set_option maxRecDepth 20000 in
theorem ggX4_readPaper_X4_readSteps : GoodIn wsX4_readPaper wsX4_readSteps := goodIn_r _ [6, 7, 8, 9, 10, 11, 12, 13, 14, 15, 29, 30, 31, 20, 21, 22, 23, 24, 25, 26, 27, 28] (by decide +kernel) (by decide +kernel)
set_option maxRecDepth 20000 in
theorem gX4_readPaper_X4_readSteps : GoodIn wsX4_readPaper (wsV RX4 66 RX4 yX4_readSteps wsX4_readSteps) := goodIn_app (goodIn_of _ (by decide +kernel)) ggX4_readPaper_X4_readSteps
set_option maxRecDepth 20000 in
theorem ggX4_readPaper_X4_readSign : GoodIn wsX4_readPaper wsX4_readSign := goodIn_r _ [19, 7, 8, 9, 29, 30, 31] (by decide +kernel) (by decide +kernel)
set_option maxRecDepth 20000 in
theorem gX4_readPaper_X4_readSign : GoodIn wsX4_readPaper (wsV RX4 70 RX4 yX4_readSign wsX4_readSign) := goodIn_app (goodIn_of _ (by decide +kernel)) ggX4_readPaper_X4_readSign
theorem dX4_readPaper_0 : decode cX4_readPaper 0 = .ok (.aload_n 0, 1) := by decide +kernel
theorem dX4_readPaper_1 : decode cX4_readPaper 1 = .ok (.aload_n 1, 1) := by decide +kernel
theorem dX4_readPaper_2 : decode cX4_readPaper 2 = .ok (.invokevirtual 66, 3) := by decide +kernel
theorem dX4_readPaper_5 : decode cX4_readPaper 5 = .ok (.istore_n 2, 1) := by decide +kernel
theorem dX4_readPaper_6 : decode cX4_readPaper 6 = .ok (.aload_n 0, 1) := by decide +kernel
theorem dX4_readPaper_7 : decode cX4_readPaper 7 = .ok (.bipush 59, 2) := by decide +kernel
theorem dX4_readPaper_9 : decode cX4_readPaper 9 = .ok (.invokevirtual 70, 3) := by decide +kernel
theorem dX4_readPaper_12 : decode cX4_readPaper 12 = .ok (.ifCond .ne 5, 3) := by decide +kernel
theorem dX4_readPaper_15 : decode cX4_readPaper 15 = .ok (.iconst 0, 1) := by decide +kernel
theorem dX4_readPaper_16 : decode cX4_readPaper 16 = .ok (.ireturn, 1) := by decide +kernel
theorem dX4_readPaper_17 : decode cX4_readPaper 17 = .ok (.aload_n 1, 1) := by decide +kernel
theorem dX4_readPaper_18 : decode cX4_readPaper 18 = .ok (.iload_n 2, 1) := by decide +kernel
theorem dX4_readPaper_19 : decode cX4_readPaper 19 = .ok (.putfield 97, 3) := by decide +kernel
theorem dX4_readPaper_22 : decode cX4_readPaper 22 = .ok (.iconst 1, 1) := by decide +kernel
theorem dX4_readPaper_23 : decode cX4_readPaper 23 = .ok (.ireturn, 1) := by decide +kernel
set_option maxRecDepth 20000 in
theorem ggX4_readSteps_X1_isStep : GoodIn wsX4_readSteps wsX1_isStep := goodIn_r _ [8, 9, 13, 14, 15, 16, 17, 18, 19, 20, 21] (by decide +kernel) (by decide +kernel)
set_option maxRecDepth 20000 in
theorem gX4_readSteps_X1_isStep : GoodIn wsX4_readSteps (wsV RX4 90 RX1 yX1_isStep wsX1_isStep) := goodIn_app (goodIn_of _ (by decide +kernel)) ggX4_readSteps_X1_isStep
theorem dX4_readSteps_0 : decode cX4_readSteps 0 = .ok (.iconst 0, 1) := by decide +kernel
theorem dX4_readSteps_1 : decode cX4_readSteps 1 = .ok (.istore_n 2, 1) := by decide +kernel
theorem dX4_readSteps_2 : decode cX4_readSteps 2 = .ok (.iconst 0, 1) := by decide +kernel
theorem dX4_readSteps_3 : decode cX4_readSteps 3 = .ok (.istore_n 3, 1) := by decide +kernel
theorem dX4_readSteps_4 : decode cX4_readSteps 4 = .ok (.aload_n 0, 1) := by decide +kernel
theorem dX4_readSteps_5 : decode cX4_readSteps 5 = .ok (.getfield 19, 3) := by decide +kernel
theorem dX4_readSteps_8 : decode cX4_readSteps 8 = .ok (.aload_n 0, 1) := by decide +kernel
theorem dX4_readSteps_9 : decode cX4_readSteps 9 = .ok (.getfield 15, 3) := by decide +kernel
theorem dX4_readSteps_12 : decode cX4_readSteps 12 = .ok (.if_icmp .ge 59, 3) := by decide +kernel
theorem dX4_readSteps_15 : decode cX4_readSteps 15 = .ok (.aload_n 0, 1) := by decide +kernel
theorem dX4_readSteps_16 : decode cX4_readSteps 16 = .ok (.getfield 9, 3) := by decide +kernel
theorem dX4_readSteps_19 : decode cX4_readSteps 19 = .ok (.aload_n 0, 1) := by decide +kernel
theorem dX4_readSteps_20 : decode cX4_readSteps 20 = .ok (.getfield 19, 3) := by decide +kernel
theorem dX4_readSteps_23 : decode cX4_readSteps 23 = .ok (.baload, 1) := by decide +kernel
theorem dX4_readSteps_24 : decode cX4_readSteps 24 = .ok (.bipush 97, 2) := by decide +kernel
theorem dX4_readSteps_26 : decode cX4_readSteps 26 = .ok (.isub, 1) := by decide +kernel
theorem dX4_readSteps_27 : decode cX4_readSteps 27 = .ok (.istore 4, 2) := by decide +kernel
theorem dX4_readSteps_29 : decode cX4_readSteps 29 = .ok (.iload 4, 2) := by decide +kernel
theorem dX4_readSteps_31 : decode cX4_readSteps 31 = .ok (.iload_n 3, 1) := by decide +kernel
theorem dX4_readSteps_32 : decode cX4_readSteps 32 = .ok (.if_icmp .lt 12, 3) := by decide +kernel
theorem dX4_readSteps_35 : decode cX4_readSteps 35 = .ok (.aload_n 1, 1) := by decide +kernel
theorem dX4_readSteps_36 : decode cX4_readSteps 36 = .ok (.iload 4, 2) := by decide +kernel
theorem dX4_readSteps_38 : decode cX4_readSteps 38 = .ok (.invokevirtual 90, 3) := by decide +kernel
theorem dX4_readSteps_41 : decode cX4_readSteps 41 = .ok (.ifCond .ne 5, 3) := by decide +kernel
theorem dX4_readSteps_44 : decode cX4_readSteps 44 = .ok (.iload_n 2, 1) := by decide +kernel
theorem dX4_readSteps_45 : decode cX4_readSteps 45 = .ok (.ireturn, 1) := by decide +kernel
theorem dX4_readSteps_46 : decode cX4_readSteps 46 = .ok (.iload_n 2, 1) := by decide +kernel
theorem dX4_readSteps_47 : decode cX4_readSteps 47 = .ok (.iconst 1, 1) := by decide +kernel
theorem dX4_readSteps_48 : decode cX4_readSteps 48 = .ok (.iload 4, 2) := by decide +kernel
theorem dX4_readSteps_50 : decode cX4_readSteps 50 = .ok (.ishl, 1) := by decide +kernel
theorem dX4_readSteps_51 : decode cX4_readSteps 51 = .ok (.ior, 1) := by decide +kernel
theorem dX4_readSteps_52 : decode cX4_readSteps 52 = .ok (.istore_n 2, 1) := by decide +kernel
theorem dX4_readSteps_53 : decode cX4_readSteps 53 = .ok (.iload 4, 2) := by decide +kernel
theorem dX4_readSteps_55 : decode cX4_readSteps 55 = .ok (.iconst 1, 1) := by decide +kernel
theorem dX4_readSteps_56 : decode cX4_readSteps 56 = .ok (.iadd, 1) := by decide +kernel
theorem dX4_readSteps_57 : decode cX4_readSteps 57 = .ok (.istore_n 3, 1) := by decide +kernel
theorem dX4_readSteps_58 : decode cX4_readSteps 58 = .ok (.aload_n 0, 1) := by decide +kernel
theorem dX4_readSteps_59 : decode cX4_readSteps 59 = .ok (.dup, 1) := by decide +kernel
theorem dX4_readSteps_60 : decode cX4_readSteps 60 = .ok (.getfield 19, 3) := by decide +kernel
theorem dX4_readSteps_63 : decode cX4_readSteps 63 = .ok (.iconst 1, 1) := by decide +kernel
theorem dX4_readSteps_64 : decode cX4_readSteps 64 = .ok (.iadd, 1) := by decide +kernel
theorem dX4_readSteps_65 : decode cX4_readSteps 65 = .ok (.putfield 19, 3) := by decide +kernel
theorem dX4_readSteps_68 : decode cX4_readSteps 68 = .ok (.goto (-64), 3) := by decide +kernel
theorem dX4_readSteps_71 : decode cX4_readSteps 71 = .ok (.iload_n 2, 1) := by decide +kernel
theorem dX4_readSteps_72 : decode cX4_readSteps 72 = .ok (.ireturn, 1) := by decide +kernel
set_option maxRecDepth 20000 in
theorem ggX4_readDigit_X1_isHand : GoodIn wsX4_readDigit wsX1_isHand := goodIn_r _ [8, 9, 13, 14, 15, 16, 17, 18, 19, 20, 21] (by decide +kernel) (by decide +kernel)
set_option maxRecDepth 20000 in
theorem gX4_readDigit_X1_isHand : GoodIn wsX4_readDigit (wsV RX4 100 RX1 yX1_isHand wsX1_isHand) := goodIn_app (goodIn_of _ (by decide +kernel)) ggX4_readDigit_X1_isHand
theorem dX4_readDigit_0 : decode cX4_readDigit 0 = .ok (.aload_n 0, 1) := by decide +kernel
theorem dX4_readDigit_1 : decode cX4_readDigit 1 = .ok (.getfield 19, 3) := by decide +kernel
theorem dX4_readDigit_4 : decode cX4_readDigit 4 = .ok (.aload_n 0, 1) := by decide +kernel
theorem dX4_readDigit_5 : decode cX4_readDigit 5 = .ok (.getfield 15, 3) := by decide +kernel
theorem dX4_readDigit_8 : decode cX4_readDigit 8 = .ok (.if_icmp .ge 18, 3) := by decide +kernel
theorem dX4_readDigit_11 : decode cX4_readDigit 11 = .ok (.aload_n 0, 1) := by decide +kernel
theorem dX4_readDigit_12 : decode cX4_readDigit 12 = .ok (.getfield 9, 3) := by decide +kernel
theorem dX4_readDigit_15 : decode cX4_readDigit 15 = .ok (.aload_n 0, 1) := by decide +kernel
theorem dX4_readDigit_16 : decode cX4_readDigit 16 = .ok (.getfield 19, 3) := by decide +kernel
theorem dX4_readDigit_19 : decode cX4_readDigit 19 = .ok (.baload, 1) := by decide +kernel
theorem dX4_readDigit_20 : decode cX4_readDigit 20 = .ok (.bipush 48, 2) := by decide +kernel
theorem dX4_readDigit_22 : decode cX4_readDigit 22 = .ok (.isub, 1) := by decide +kernel
theorem dX4_readDigit_23 : decode cX4_readDigit 23 = .ok (.goto 4, 3) := by decide +kernel
theorem dX4_readDigit_26 : decode cX4_readDigit 26 = .ok (.iconst (-1), 1) := by decide +kernel
theorem dX4_readDigit_27 : decode cX4_readDigit 27 = .ok (.istore_n 3, 1) := by decide +kernel
theorem dX4_readDigit_28 : decode cX4_readDigit 28 = .ok (.aload_n 1, 1) := by decide +kernel
theorem dX4_readDigit_29 : decode cX4_readDigit 29 = .ok (.iload_n 3, 1) := by decide +kernel
theorem dX4_readDigit_30 : decode cX4_readDigit 30 = .ok (.invokevirtual 100, 3) := by decide +kernel
theorem dX4_readDigit_33 : decode cX4_readDigit 33 = .ok (.ifCond .eq 8, 3) := by decide +kernel
theorem dX4_readDigit_36 : decode cX4_readDigit 36 = .ok (.iload_n 3, 1) := by decide +kernel
theorem dX4_readDigit_37 : decode cX4_readDigit 37 = .ok (.iload_n 2, 1) := by decide +kernel
theorem dX4_readDigit_38 : decode cX4_readDigit 38 = .ok (.if_icmp .ne 5, 3) := by decide +kernel
theorem dX4_readDigit_41 : decode cX4_readDigit 41 = .ok (.iconst (-1), 1) := by decide +kernel
theorem dX4_readDigit_42 : decode cX4_readDigit 42 = .ok (.ireturn, 1) := by decide +kernel
theorem dX4_readDigit_43 : decode cX4_readDigit 43 = .ok (.aload_n 0, 1) := by decide +kernel
theorem dX4_readDigit_44 : decode cX4_readDigit 44 = .ok (.dup, 1) := by decide +kernel
theorem dX4_readDigit_45 : decode cX4_readDigit 45 = .ok (.getfield 19, 3) := by decide +kernel
theorem dX4_readDigit_48 : decode cX4_readDigit 48 = .ok (.iconst 1, 1) := by decide +kernel
theorem dX4_readDigit_49 : decode cX4_readDigit 49 = .ok (.iadd, 1) := by decide +kernel
theorem dX4_readDigit_50 : decode cX4_readDigit 50 = .ok (.putfield 19, 3) := by decide +kernel
theorem dX4_readDigit_53 : decode cX4_readDigit 53 = .ok (.iload_n 3, 1) := by decide +kernel
theorem dX4_readDigit_54 : decode cX4_readDigit 54 = .ok (.ireturn, 1) := by decide +kernel
theorem dX4_readSign_0 : decode cX4_readSign 0 = .ok (.aload_n 0, 1) := by decide +kernel
theorem dX4_readSign_1 : decode cX4_readSign 1 = .ok (.getfield 19, 3) := by decide +kernel
theorem dX4_readSign_4 : decode cX4_readSign 4 = .ok (.aload_n 0, 1) := by decide +kernel
theorem dX4_readSign_5 : decode cX4_readSign 5 = .ok (.getfield 15, 3) := by decide +kernel
theorem dX4_readSign_8 : decode cX4_readSign 8 = .ok (.if_icmp .ge 28, 3) := by decide +kernel
theorem dX4_readSign_11 : decode cX4_readSign 11 = .ok (.aload_n 0, 1) := by decide +kernel
theorem dX4_readSign_12 : decode cX4_readSign 12 = .ok (.getfield 9, 3) := by decide +kernel
theorem dX4_readSign_15 : decode cX4_readSign 15 = .ok (.aload_n 0, 1) := by decide +kernel
theorem dX4_readSign_16 : decode cX4_readSign 16 = .ok (.getfield 19, 3) := by decide +kernel
theorem dX4_readSign_19 : decode cX4_readSign 19 = .ok (.baload, 1) := by decide +kernel
theorem dX4_readSign_20 : decode cX4_readSign 20 = .ok (.iload_n 1, 1) := by decide +kernel
theorem dX4_readSign_21 : decode cX4_readSign 21 = .ok (.if_icmp .ne 15, 3) := by decide +kernel
theorem dX4_readSign_24 : decode cX4_readSign 24 = .ok (.aload_n 0, 1) := by decide +kernel
theorem dX4_readSign_25 : decode cX4_readSign 25 = .ok (.dup, 1) := by decide +kernel
theorem dX4_readSign_26 : decode cX4_readSign 26 = .ok (.getfield 19, 3) := by decide +kernel
theorem dX4_readSign_29 : decode cX4_readSign 29 = .ok (.iconst 1, 1) := by decide +kernel
theorem dX4_readSign_30 : decode cX4_readSign 30 = .ok (.iadd, 1) := by decide +kernel
theorem dX4_readSign_31 : decode cX4_readSign 31 = .ok (.putfield 19, 3) := by decide +kernel
theorem dX4_readSign_34 : decode cX4_readSign 34 = .ok (.iconst 1, 1) := by decide +kernel
theorem dX4_readSign_35 : decode cX4_readSign 35 = .ok (.ireturn, 1) := by decide +kernel
theorem dX4_readSign_36 : decode cX4_readSign 36 = .ok (.iconst 0, 1) := by decide +kernel
theorem dX4_readSign_37 : decode cX4_readSign 37 = .ok (.ireturn, 1) := by decide +kernel
set_option maxRecDepth 20000 in
theorem ggX5_init_X1_init : GoodIn wsX5_init wsX1_init := goodIn_r _ [23, 24, 2, 3, 16, 25, 26, 27, 28, 29, 30, 31, 32, 33, 34, 35, 36, 37, 38, 39, 40, 41, 42, 74, 75, 76, 77, 78, 79, 80, 81, 82, 105, 106, 107] (by decide +kernel) (by decide +kernel)
set_option maxRecDepth 20000 in
theorem gX5_init_X1_init_n11 : GoodIn wsX5_init (wsX1_init) := ggX5_init_X1_init
set_option maxRecDepth 20000 in
theorem ggX5_init_X2_init : GoodIn wsX5_init wsX2_init := goodIn_r _ [45, 46, 2, 3, 16, 47, 48, 49, 50, 51, 52, 53, 54, 55, 56, 57, 58, 59, 60, 61, 62, 63, 64, 65, 66, 91, 92, 93, 94, 95, 96, 97, 98, 99, 100, 101, 108, 109, 110] (by decide +kernel) (by decide +kernel)
set_option maxRecDepth 20000 in
theorem gX5_init_X2_init : GoodIn wsX5_init (wsX2_init) := ggX5_init_X2_init
set_option maxRecDepth 20000 in
theorem ggX5_init_X4_init : GoodIn wsX5_init wsX4_init := goodIn_r _ [68, 69, 2, 3, 70, 71, 72, 73, 102, 103, 104] (by decide +kernel) (by decide +kernel)
set_option maxRecDepth 20000 in
theorem gX5_init_X4_init_n27 : GoodIn wsX5_init (wsX4_init) := ggX5_init_X4_init
theorem dX5_init_0 : decode cX5_init 0 = .ok (.aload_n 0, 1) := by decide +kernel
theorem dX5_init_1 : decode cX5_init 1 = .ok (.invokespecial 3, 3) := by decide +kernel
theorem dX5_init_4 : decode cX5_init 4 = .ok (.aload_n 0, 1) := by decide +kernel
theorem dX5_init_5 : decode cX5_init 5 = .ok (.new 9, 3) := by decide +kernel
theorem dX5_init_8 : decode cX5_init 8 = .ok (.dup, 1) := by decide +kernel
theorem dX5_init_9 : decode cX5_init 9 = .ok (.invokespecial 11, 3) := by decide +kernel
theorem dX5_init_12 : decode cX5_init 12 = .ok (.putfield 12, 3) := by decide +kernel
theorem dX5_init_15 : decode cX5_init 15 = .ok (.aload_n 0, 1) := by decide +kernel
theorem dX5_init_16 : decode cX5_init 16 = .ok (.new 16, 3) := by decide +kernel
theorem dX5_init_19 : decode cX5_init 19 = .ok (.dup, 1) := by decide +kernel
theorem dX5_init_20 : decode cX5_init 20 = .ok (.aload_n 0, 1) := by decide +kernel
theorem dX5_init_21 : decode cX5_init 21 = .ok (.getfield 12, 3) := by decide +kernel
theorem dX5_init_24 : decode cX5_init 24 = .ok (.invokespecial 18, 3) := by decide +kernel
theorem dX5_init_27 : decode cX5_init 27 = .ok (.putfield 21, 3) := by decide +kernel
theorem dX5_init_30 : decode cX5_init 30 = .ok (.aload_n 0, 1) := by decide +kernel
theorem dX5_init_31 : decode cX5_init 31 = .ok (.new 25, 3) := by decide +kernel
theorem dX5_init_34 : decode cX5_init 34 = .ok (.dup, 1) := by decide +kernel
theorem dX5_init_35 : decode cX5_init 35 = .ok (.invokespecial 27, 3) := by decide +kernel
theorem dX5_init_38 : decode cX5_init 38 = .ok (.putfield 28, 3) := by decide +kernel
theorem dX5_init_41 : decode cX5_init 41 = .ok (.aload_n 0, 1) := by decide +kernel
theorem dX5_init_42 : decode cX5_init 42 = .ok (.bipush 8, 2) := by decide +kernel
theorem dX5_init_44 : decode cX5_init 44 = .ok (.newarray .int, 2) := by decide +kernel
theorem dX5_init_46 : decode cX5_init 46 = .ok (.putfield 32, 3) := by decide +kernel
theorem dX5_init_49 : decode cX5_init 49 = .ok (.aload_n 0, 1) := by decide +kernel
theorem dX5_init_50 : decode cX5_init 50 = .ok (.bipush 7, 2) := by decide +kernel
theorem dX5_init_52 : decode cX5_init 52 = .ok (.newarray .int, 2) := by decide +kernel
theorem dX5_init_54 : decode cX5_init 54 = .ok (.putfield 36, 3) := by decide +kernel
theorem dX5_init_57 : decode cX5_init 57 = .ok (.aload_n 0, 1) := by decide +kernel
theorem dX5_init_58 : decode cX5_init 58 = .ok (.iconst 2, 1) := by decide +kernel
theorem dX5_init_59 : decode cX5_init 59 = .ok (.newarray .int, 2) := by decide +kernel
theorem dX5_init_61 : decode cX5_init 61 = .ok (.putfield 39, 3) := by decide +kernel
theorem dX5_init_64 : decode cX5_init 64 = .ok (.aload_n 0, 1) := by decide +kernel
theorem dX5_init_65 : decode cX5_init 65 = .ok (.iconst 0, 1) := by decide +kernel
theorem dX5_init_66 : decode cX5_init 66 = .ok (.putfield 42, 3) := by decide +kernel
theorem dX5_init_69 : decode cX5_init 69 = .ok (.aload_n 0, 1) := by decide +kernel
theorem dX5_init_70 : decode cX5_init 70 = .ok (.aconst_null, 1) := by decide +kernel
theorem dX5_init_71 : decode cX5_init 71 = .ok (.putfield 46, 3) := by decide +kernel
theorem dX5_init_74 : decode cX5_init 74 = .ok (.return_, 1) := by decide +kernel
set_option maxRecDepth 20000 in
theorem ggX5_feed_X5_refuse : GoodIn wsX5_feed wsX5_refuse := goodIn_r _ [7, 8, 16, 17, 18, 19, 20, 21, 22, 23] (by decide +kernel) (by decide +kernel)
set_option maxRecDepth 20000 in
theorem gX5_feed_X5_refuse : GoodIn wsX5_feed (wsV RX5 49 RX5 yX5_refuse wsX5_refuse) := goodIn_app (goodIn_of _ (by decide +kernel)) ggX5_feed_X5_refuse
set_option maxRecDepth 20000 in
theorem ggX5_feed_X4_take : GoodIn wsX5_feed wsX4_take := goodIn_r _ [13, 14, 15, 24, 25, 26] (by decide +kernel) (by decide +kernel)
set_option maxRecDepth 20000 in
theorem gX5_feed_X4_take : GoodIn wsX5_feed (wsV RX5 56 RX4 yX4_take wsX4_take) := goodIn_app (goodIn_of _ (by decide +kernel)) ggX5_feed_X4_take
theorem dX5_feed_0 : decode cX5_feed 0 = .ok (.iload_n 1, 1) := by decide +kernel
theorem dX5_feed_1 : decode cX5_feed 1 = .ok (.iconst 1, 1) := by decide +kernel
theorem dX5_feed_2 : decode cX5_feed 2 = .ok (.if_icmp .ge 10, 3) := by decide +kernel
theorem dX5_feed_5 : decode cX5_feed 5 = .ok (.aload_n 0, 1) := by decide +kernel
theorem dX5_feed_6 : decode cX5_feed 6 = .ok (.bipush (-4), 2) := by decide +kernel
theorem dX5_feed_8 : decode cX5_feed 8 = .ok (.invokevirtual 49, 3) := by decide +kernel
theorem dX5_feed_11 : decode cX5_feed 11 = .ok (.ireturn, 1) := by decide +kernel
theorem dX5_feed_12 : decode cX5_feed 12 = .ok (.iload_n 1, 1) := by decide +kernel
theorem dX5_feed_13 : decode cX5_feed 13 = .ok (.bipush 8, 2) := by decide +kernel
theorem dX5_feed_15 : decode cX5_feed 15 = .ok (.if_icmp .gt 17, 3) := by decide +kernel
theorem dX5_feed_18 : decode cX5_feed 18 = .ok (.iload_n 1, 1) := by decide +kernel
theorem dX5_feed_19 : decode cX5_feed 19 = .ok (.bipush 80, 2) := by decide +kernel
theorem dX5_feed_21 : decode cX5_feed 21 = .ok (.aload_n 0, 1) := by decide +kernel
theorem dX5_feed_22 : decode cX5_feed 22 = .ok (.getfield 28, 3) := by decide +kernel
theorem dX5_feed_25 : decode cX5_feed 25 = .ok (.getfield 53, 3) := by decide +kernel
theorem dX5_feed_28 : decode cX5_feed 28 = .ok (.isub, 1) := by decide +kernel
theorem dX5_feed_29 : decode cX5_feed 29 = .ok (.if_icmp .le 10, 3) := by decide +kernel
theorem dX5_feed_32 : decode cX5_feed 32 = .ok (.aload_n 0, 1) := by decide +kernel
theorem dX5_feed_33 : decode cX5_feed 33 = .ok (.bipush (-6), 2) := by decide +kernel
theorem dX5_feed_35 : decode cX5_feed 35 = .ok (.invokevirtual 49, 3) := by decide +kernel
theorem dX5_feed_38 : decode cX5_feed 38 = .ok (.ireturn, 1) := by decide +kernel
theorem dX5_feed_39 : decode cX5_feed 39 = .ok (.aload_n 0, 1) := by decide +kernel
theorem dX5_feed_40 : decode cX5_feed 40 = .ok (.getfield 28, 3) := by decide +kernel
theorem dX5_feed_43 : decode cX5_feed 43 = .ok (.iload_n 1, 1) := by decide +kernel
theorem dX5_feed_44 : decode cX5_feed 44 = .ok (.lload_n 2, 1) := by decide +kernel
theorem dX5_feed_45 : decode cX5_feed 45 = .ok (.invokevirtual 56, 3) := by decide +kernel
theorem dX5_feed_48 : decode cX5_feed 48 = .ok (.aload_n 0, 1) := by decide +kernel
theorem dX5_feed_49 : decode cX5_feed 49 = .ok (.getfield 28, 3) := by decide +kernel
theorem dX5_feed_52 : decode cX5_feed 52 = .ok (.getfield 53, 3) := by decide +kernel
theorem dX5_feed_55 : decode cX5_feed 55 = .ok (.ireturn, 1) := by decide +kernel
set_option maxRecDepth 20000 in
theorem ggX5_house_X4_readInto : GoodIn wsX5_house wsX4_readInto := goodIn_r _ [8, 9, 10, 11, 12, 13, 7, 14, 15, 16, 17, 18, 19, 20, 21, 22, 23, 24, 25, 26, 27, 28, 29, 30, 31, 32, 33, 34, 35, 36, 37, 38, 39, 40, 41, 42, 43, 44, 45, 46, 47, 48, 49, 50, 51, 52, 53, 54, 55, 56, 57, 58, 59, 60, 61, 62, 63, 64, 65, 66, 67, 68, 69, 70, 71, 72, 73, 74, 75, 76, 77, 78, 79, 80, 81, 82, 83, 84, 85, 86, 87, 88, 89, 90, 91, 100, 101, 102, 103, 104, 105, 106, 107, 108, 109, 110, 111, 112, 113, 114] (by decide +kernel) (by decide +kernel)
set_option maxRecDepth 20000 in
theorem gX5_house_X4_readInto : GoodIn wsX5_house (wsV RX5 60 RX4 yX4_readInto wsX4_readInto) := goodIn_app (goodIn_of _ (by decide +kernel)) ggX5_house_X4_readInto
theorem dX5_house_0 : decode cX5_house 0 = .ok (.aload_n 0, 1) := by decide +kernel
theorem dX5_house_1 : decode cX5_house 1 = .ok (.getfield 28, 3) := by decide +kernel
theorem dX5_house_4 : decode cX5_house 4 = .ok (.aload_n 0, 1) := by decide +kernel
theorem dX5_house_5 : decode cX5_house 5 = .ok (.getfield 12, 3) := by decide +kernel
theorem dX5_house_8 : decode cX5_house 8 = .ok (.invokevirtual 60, 3) := by decide +kernel
theorem dX5_house_11 : decode cX5_house 11 = .ok (.istore_n 1, 1) := by decide +kernel
theorem dX5_house_12 : decode cX5_house 12 = .ok (.aload_n 0, 1) := by decide +kernel
theorem dX5_house_13 : decode cX5_house 13 = .ok (.getfield 28, 3) := by decide +kernel
theorem dX5_house_16 : decode cX5_house 16 = .ok (.iconst 0, 1) := by decide +kernel
theorem dX5_house_17 : decode cX5_house 17 = .ok (.putfield 53, 3) := by decide +kernel
theorem dX5_house_20 : decode cX5_house 20 = .ok (.iload_n 1, 1) := by decide +kernel
theorem dX5_house_21 : decode cX5_house 21 = .ok (.ireturn, 1) := by decide +kernel
set_option maxRecDepth 20000 in
theorem ggX5_steps_X5_outside : GoodIn wsX5_steps wsX5_outside := goodIn_r _ [6] (by decide +kernel) (by decide +kernel)
set_option maxRecDepth 20000 in
theorem gX5_steps_X5_outside : GoodIn wsX5_steps (va_wsS RX5 64 yX5_outside wsX5_outside) := goodIn_app (goodIn_of _ (by decide +kernel)) ggX5_steps_X5_outside
set_option maxRecDepth 20000 in
theorem ggX5_steps_X5_refuse : GoodIn wsX5_steps wsX5_refuse := goodIn_r _ [10, 11, 49, 50, 51, 52, 53, 54, 55, 56] (by decide +kernel) (by decide +kernel)
set_option maxRecDepth 20000 in
theorem gX5_steps_X5_refuse : GoodIn wsX5_steps (wsV RX5 49 RX5 yX5_refuse wsX5_refuse) := goodIn_app (goodIn_of _ (by decide +kernel)) ggX5_steps_X5_refuse
set_option maxRecDepth 20000 in
theorem ggX5_steps_X1_setSteps : GoodIn wsX5_steps wsX1_setSteps := goodIn_r _ [16, 17, 18, 19, 20, 21, 22, 23, 15, 24, 25, 26, 27, 28, 29, 30, 31, 32, 33, 34, 35, 36, 37, 38, 39, 40, 41, 42, 43, 44, 45, 46, 47, 48, 57, 58, 59, 60, 61, 62, 63, 64, 65, 66, 67, 68] (by decide +kernel) (by decide +kernel)
set_option maxRecDepth 20000 in
theorem gX5_steps_X1_setSteps : GoodIn wsX5_steps (wsV RX5 71 RX1 yX1_setSteps wsX1_setSteps) := goodIn_app (goodIn_of _ (by decide +kernel)) ggX5_steps_X1_setSteps
theorem dX5_steps_0 : decode cX5_steps 0 = .ok (.iload_n 1, 1) := by decide +kernel
theorem dX5_steps_1 : decode cX5_steps 1 = .ok (.iconst 1, 1) := by decide +kernel
theorem dX5_steps_2 : decode cX5_steps 2 = .ok (.bipush 10, 2) := by decide +kernel
theorem dX5_steps_4 : decode cX5_steps 4 = .ok (.invokestatic 64, 3) := by decide +kernel
theorem dX5_steps_7 : decode cX5_steps 7 = .ok (.istore_n 2, 1) := by decide +kernel
theorem dX5_steps_8 : decode cX5_steps 8 = .ok (.iload_n 2, 1) := by decide +kernel
theorem dX5_steps_9 : decode cX5_steps 9 = .ok (.ifCond .eq 9, 3) := by decide +kernel
theorem dX5_steps_12 : decode cX5_steps 12 = .ok (.aload_n 0, 1) := by decide +kernel
theorem dX5_steps_13 : decode cX5_steps 13 = .ok (.iload_n 2, 1) := by decide +kernel
theorem dX5_steps_14 : decode cX5_steps 14 = .ok (.invokevirtual 49, 3) := by decide +kernel
theorem dX5_steps_17 : decode cX5_steps 17 = .ok (.ireturn, 1) := by decide +kernel
theorem dX5_steps_18 : decode cX5_steps 18 = .ok (.aload_n 0, 1) := by decide +kernel
theorem dX5_steps_19 : decode cX5_steps 19 = .ok (.getfield 12, 3) := by decide +kernel
theorem dX5_steps_22 : decode cX5_steps 22 = .ok (.getfield 68, 3) := by decide +kernel
theorem dX5_steps_25 : decode cX5_steps 25 = .ok (.istore_n 3, 1) := by decide +kernel
theorem dX5_steps_26 : decode cX5_steps 26 = .ok (.aload_n 0, 1) := by decide +kernel
theorem dX5_steps_27 : decode cX5_steps 27 = .ok (.getfield 12, 3) := by decide +kernel
theorem dX5_steps_30 : decode cX5_steps 30 = .ok (.iload_n 1, 1) := by decide +kernel
theorem dX5_steps_31 : decode cX5_steps 31 = .ok (.invokevirtual 71, 3) := by decide +kernel
theorem dX5_steps_34 : decode cX5_steps 34 = .ok (.iload_n 3, 1) := by decide +kernel
theorem dX5_steps_35 : decode cX5_steps 35 = .ok (.ireturn, 1) := by decide +kernel
set_option maxRecDepth 20000 in
theorem ggX5_hand_X1_isStepSet : GoodIn wsX5_hand wsX1_isStepSet := goodIn_r _ [7, 8, 30, 31, 32, 33, 34, 35, 36, 37, 38] (by decide +kernel) (by decide +kernel)
set_option maxRecDepth 20000 in
theorem gX5_hand_X1_isStepSet : GoodIn wsX5_hand (wsV RX5 75 RX1 yX1_isStepSet wsX1_isStepSet) := goodIn_app (goodIn_of _ (by decide +kernel)) ggX5_hand_X1_isStepSet
set_option maxRecDepth 20000 in
theorem ggX5_hand_X5_refuse : GoodIn wsX5_hand wsX5_refuse := goodIn_r _ [13, 14, 22, 23, 24, 25, 26, 27, 28, 29] (by decide +kernel) (by decide +kernel)
set_option maxRecDepth 20000 in
theorem gX5_hand_X5_refuse : GoodIn wsX5_hand (wsV RX5 49 RX5 yX5_refuse wsX5_refuse) := goodIn_app (goodIn_of _ (by decide +kernel)) ggX5_hand_X5_refuse
set_option maxRecDepth 20000 in
theorem ggX5_hand_X1_addHand : GoodIn wsX5_hand wsX1_addHand := goodIn_r _ [18, 19, 20, 21, 30, 31, 32, 33, 34, 35, 36, 37, 38] (by decide +kernel) (by decide +kernel)
set_option maxRecDepth 20000 in
theorem gX5_hand_X1_addHand : GoodIn wsX5_hand (wsV RX5 82 RX1 yX1_addHand wsX1_addHand) := goodIn_app (goodIn_of _ (by decide +kernel)) ggX5_hand_X1_addHand
theorem dX5_hand_0 : decode cX5_hand 0 = .ok (.aload_n 0, 1) := by decide +kernel
theorem dX5_hand_1 : decode cX5_hand 1 = .ok (.getfield 12, 3) := by decide +kernel
theorem dX5_hand_4 : decode cX5_hand 4 = .ok (.iload_n 1, 1) := by decide +kernel
theorem dX5_hand_5 : decode cX5_hand 5 = .ok (.invokevirtual 75, 3) := by decide +kernel
theorem dX5_hand_8 : decode cX5_hand 8 = .ok (.ifCond .ne 9, 3) := by decide +kernel
theorem dX5_hand_11 : decode cX5_hand 11 = .ok (.aload_n 0, 1) := by decide +kernel
theorem dX5_hand_12 : decode cX5_hand 12 = .ok (.iconst (-1), 1) := by decide +kernel
theorem dX5_hand_13 : decode cX5_hand 13 = .ok (.invokevirtual 49, 3) := by decide +kernel
theorem dX5_hand_16 : decode cX5_hand 16 = .ok (.ireturn, 1) := by decide +kernel
theorem dX5_hand_17 : decode cX5_hand 17 = .ok (.aload_n 0, 1) := by decide +kernel
theorem dX5_hand_18 : decode cX5_hand 18 = .ok (.getfield 12, 3) := by decide +kernel
theorem dX5_hand_21 : decode cX5_hand 21 = .ok (.getfield 79, 3) := by decide +kernel
theorem dX5_hand_24 : decode cX5_hand 24 = .ok (.bipush 8, 2) := by decide +kernel
theorem dX5_hand_26 : decode cX5_hand 26 = .ok (.if_icmp .lt 10, 3) := by decide +kernel
theorem dX5_hand_29 : decode cX5_hand 29 = .ok (.aload_n 0, 1) := by decide +kernel
theorem dX5_hand_30 : decode cX5_hand 30 = .ok (.bipush (-6), 2) := by decide +kernel
theorem dX5_hand_32 : decode cX5_hand 32 = .ok (.invokevirtual 49, 3) := by decide +kernel
theorem dX5_hand_35 : decode cX5_hand 35 = .ok (.ireturn, 1) := by decide +kernel
theorem dX5_hand_36 : decode cX5_hand 36 = .ok (.aload_n 0, 1) := by decide +kernel
theorem dX5_hand_37 : decode cX5_hand 37 = .ok (.getfield 12, 3) := by decide +kernel
theorem dX5_hand_40 : decode cX5_hand 40 = .ok (.iload_n 1, 1) := by decide +kernel
theorem dX5_hand_41 : decode cX5_hand 41 = .ok (.invokevirtual 82, 3) := by decide +kernel
theorem dX5_hand_44 : decode cX5_hand 44 = .ok (.aload_n 0, 1) := by decide +kernel
theorem dX5_hand_45 : decode cX5_hand 45 = .ok (.getfield 12, 3) := by decide +kernel
theorem dX5_hand_48 : decode cX5_hand 48 = .ok (.getfield 79, 3) := by decide +kernel
theorem dX5_hand_51 : decode cX5_hand 51 = .ok (.iconst 1, 1) := by decide +kernel
theorem dX5_hand_52 : decode cX5_hand 52 = .ok (.isub, 1) := by decide +kernel
theorem dX5_hand_53 : decode cX5_hand 53 = .ok (.ireturn, 1) := by decide +kernel
set_option maxRecDepth 20000 in
theorem ggX5_tell_X1_isHand : GoodIn wsX5_tell wsX1_isHand := goodIn_r _ [7, 8, 31, 32, 33, 34, 35, 36, 37, 38, 39] (by decide +kernel) (by decide +kernel)
set_option maxRecDepth 20000 in
theorem gX5_tell_X1_isHand : GoodIn wsX5_tell (wsV RX5 85 RX1 yX1_isHand wsX1_isHand) := goodIn_app (goodIn_of _ (by decide +kernel)) ggX5_tell_X1_isHand
set_option maxRecDepth 20000 in
theorem ggX5_tell_X1_isStep : GoodIn wsX5_tell wsX1_isStep := goodIn_r _ [12, 13, 31, 32, 33, 34, 35, 36, 37, 38, 39] (by decide +kernel) (by decide +kernel)
set_option maxRecDepth 20000 in
theorem gX5_tell_X1_isStep : GoodIn wsX5_tell (wsV RX5 88 RX1 yX1_isStep wsX1_isStep) := goodIn_app (goodIn_of _ (by decide +kernel)) ggX5_tell_X1_isStep
set_option maxRecDepth 20000 in
theorem ggX5_tell_X5_refuse : GoodIn wsX5_tell wsX5_refuse := goodIn_r _ [18, 19, 23, 24, 25, 26, 27, 28, 29, 30] (by decide +kernel) (by decide +kernel)
set_option maxRecDepth 20000 in
theorem gX5_tell_X5_refuse : GoodIn wsX5_tell (wsV RX5 49 RX5 yX5_refuse wsX5_refuse) := goodIn_app (goodIn_of _ (by decide +kernel)) ggX5_tell_X5_refuse
set_option maxRecDepth 20000 in
theorem ggX5_tell_X5_with : GoodIn wsX5_tell wsX5_with := goodIn_r _ [22] (by decide +kernel) (by decide +kernel)
set_option maxRecDepth 20000 in
theorem gX5_tell_X5_with : GoodIn wsX5_tell (va_wsS RX5 94 yX5_with wsX5_with) := goodIn_app (goodIn_of _ (by decide +kernel)) ggX5_tell_X5_with
theorem dX5_tell_0 : decode cX5_tell 0 = .ok (.aload_n 0, 1) := by decide +kernel
theorem dX5_tell_1 : decode cX5_tell 1 = .ok (.getfield 12, 3) := by decide +kernel
theorem dX5_tell_4 : decode cX5_tell 4 = .ok (.iload_n 1, 1) := by decide +kernel
theorem dX5_tell_5 : decode cX5_tell 5 = .ok (.invokevirtual 85, 3) := by decide +kernel
theorem dX5_tell_8 : decode cX5_tell 8 = .ok (.ifCond .eq 14, 3) := by decide +kernel
theorem dX5_tell_11 : decode cX5_tell 11 = .ok (.aload_n 0, 1) := by decide +kernel
theorem dX5_tell_12 : decode cX5_tell 12 = .ok (.getfield 12, 3) := by decide +kernel
theorem dX5_tell_15 : decode cX5_tell 15 = .ok (.iload_n 2, 1) := by decide +kernel
theorem dX5_tell_16 : decode cX5_tell 16 = .ok (.invokevirtual 88, 3) := by decide +kernel
theorem dX5_tell_19 : decode cX5_tell 19 = .ok (.ifCond .ne 9, 3) := by decide +kernel
theorem dX5_tell_22 : decode cX5_tell 22 = .ok (.aload_n 0, 1) := by decide +kernel
theorem dX5_tell_23 : decode cX5_tell 23 = .ok (.iconst (-1), 1) := by decide +kernel
theorem dX5_tell_24 : decode cX5_tell 24 = .ok (.invokevirtual 49, 3) := by decide +kernel
theorem dX5_tell_27 : decode cX5_tell 27 = .ok (.ireturn, 1) := by decide +kernel
theorem dX5_tell_28 : decode cX5_tell 28 = .ok (.aload_n 0, 1) := by decide +kernel
theorem dX5_tell_29 : decode cX5_tell 29 = .ok (.getfield 12, 3) := by decide +kernel
theorem dX5_tell_32 : decode cX5_tell 32 = .ok (.getfield 91, 3) := by decide +kernel
theorem dX5_tell_35 : decode cX5_tell 35 = .ok (.iload_n 1, 1) := by decide +kernel
theorem dX5_tell_36 : decode cX5_tell 36 = .ok (.iaload, 1) := by decide +kernel
theorem dX5_tell_37 : decode cX5_tell 37 = .ok (.istore 4, 2) := by decide +kernel
theorem dX5_tell_39 : decode cX5_tell 39 = .ok (.aload_n 0, 1) := by decide +kernel
theorem dX5_tell_40 : decode cX5_tell 40 = .ok (.getfield 12, 3) := by decide +kernel
theorem dX5_tell_43 : decode cX5_tell 43 = .ok (.getfield 91, 3) := by decide +kernel
theorem dX5_tell_46 : decode cX5_tell 46 = .ok (.iload_n 1, 1) := by decide +kernel
theorem dX5_tell_47 : decode cX5_tell 47 = .ok (.iload 4, 2) := by decide +kernel
theorem dX5_tell_49 : decode cX5_tell 49 = .ok (.iload_n 2, 1) := by decide +kernel
theorem dX5_tell_50 : decode cX5_tell 50 = .ok (.iload_n 3, 1) := by decide +kernel
theorem dX5_tell_51 : decode cX5_tell 51 = .ok (.invokestatic 94, 3) := by decide +kernel
theorem dX5_tell_54 : decode cX5_tell 54 = .ok (.iastore, 1) := by decide +kernel
theorem dX5_tell_55 : decode cX5_tell 55 = .ok (.aload_n 0, 1) := by decide +kernel
theorem dX5_tell_56 : decode cX5_tell 56 = .ok (.getfield 12, 3) := by decide +kernel
theorem dX5_tell_59 : decode cX5_tell 59 = .ok (.getfield 91, 3) := by decide +kernel
theorem dX5_tell_62 : decode cX5_tell 62 = .ok (.iload_n 1, 1) := by decide +kernel
theorem dX5_tell_63 : decode cX5_tell 63 = .ok (.iaload, 1) := by decide +kernel
theorem dX5_tell_64 : decode cX5_tell 64 = .ok (.iload 4, 2) := by decide +kernel
theorem dX5_tell_66 : decode cX5_tell 66 = .ok (.if_icmp .ne 7, 3) := by decide +kernel
theorem dX5_tell_69 : decode cX5_tell 69 = .ok (.iconst 0, 1) := by decide +kernel
theorem dX5_tell_70 : decode cX5_tell 70 = .ok (.goto 4, 3) := by decide +kernel
theorem dX5_tell_73 : decode cX5_tell 73 = .ok (.iconst 1, 1) := by decide +kernel
theorem dX5_tell_74 : decode cX5_tell 74 = .ok (.ireturn, 1) := by decide +kernel
set_option maxRecDepth 20000 in
theorem ggX5_chance_X1_isHand : GoodIn wsX5_chance wsX1_isHand := goodIn_r _ [7, 8, 26, 27, 28, 29, 30, 31, 32, 33, 34] (by decide +kernel) (by decide +kernel)
set_option maxRecDepth 20000 in
theorem gX5_chance_X1_isHand : GoodIn wsX5_chance (wsV RX5 85 RX1 yX1_isHand wsX1_isHand) := goodIn_app (goodIn_of _ (by decide +kernel)) ggX5_chance_X1_isHand
set_option maxRecDepth 20000 in
theorem ggX5_chance_X5_refuse : GoodIn wsX5_chance wsX5_refuse := goodIn_r _ [13, 14, 18, 19, 20, 21, 22, 23, 24, 25] (by decide +kernel) (by decide +kernel)
set_option maxRecDepth 20000 in
theorem gX5_chance_X5_refuse : GoodIn wsX5_chance (wsV RX5 49 RX5 yX5_refuse wsX5_refuse) := goodIn_app (goodIn_of _ (by decide +kernel)) ggX5_chance_X5_refuse
set_option maxRecDepth 20000 in
theorem ggX5_chance_X5_outside : GoodIn wsX5_chance wsX5_outside := goodIn_r _ [17] (by decide +kernel) (by decide +kernel)
set_option maxRecDepth 20000 in
theorem gX5_chance_X5_outside : GoodIn wsX5_chance (va_wsS RX5 64 yX5_outside wsX5_outside) := goodIn_app (goodIn_of _ (by decide +kernel)) ggX5_chance_X5_outside
theorem dX5_chance_0 : decode cX5_chance 0 = .ok (.aload_n 0, 1) := by decide +kernel
theorem dX5_chance_1 : decode cX5_chance 1 = .ok (.getfield 12, 3) := by decide +kernel
theorem dX5_chance_4 : decode cX5_chance 4 = .ok (.iload_n 1, 1) := by decide +kernel
theorem dX5_chance_5 : decode cX5_chance 5 = .ok (.invokevirtual 85, 3) := by decide +kernel
theorem dX5_chance_8 : decode cX5_chance 8 = .ok (.ifCond .ne 9, 3) := by decide +kernel
theorem dX5_chance_11 : decode cX5_chance 11 = .ok (.aload_n 0, 1) := by decide +kernel
theorem dX5_chance_12 : decode cX5_chance 12 = .ok (.iconst (-1), 1) := by decide +kernel
theorem dX5_chance_13 : decode cX5_chance 13 = .ok (.invokevirtual 49, 3) := by decide +kernel
theorem dX5_chance_16 : decode cX5_chance 16 = .ok (.ireturn, 1) := by decide +kernel
theorem dX5_chance_17 : decode cX5_chance 17 = .ok (.iload_n 2, 1) := by decide +kernel
theorem dX5_chance_18 : decode cX5_chance 18 = .ok (.iconst 0, 1) := by decide +kernel
theorem dX5_chance_19 : decode cX5_chance 19 = .ok (.bipush 100, 2) := by decide +kernel
theorem dX5_chance_21 : decode cX5_chance 21 = .ok (.invokestatic 64, 3) := by decide +kernel
theorem dX5_chance_24 : decode cX5_chance 24 = .ok (.istore_n 3, 1) := by decide +kernel
theorem dX5_chance_25 : decode cX5_chance 25 = .ok (.iload_n 3, 1) := by decide +kernel
theorem dX5_chance_26 : decode cX5_chance 26 = .ok (.ifCond .eq 9, 3) := by decide +kernel
theorem dX5_chance_29 : decode cX5_chance 29 = .ok (.aload_n 0, 1) := by decide +kernel
theorem dX5_chance_30 : decode cX5_chance 30 = .ok (.iload_n 3, 1) := by decide +kernel
theorem dX5_chance_31 : decode cX5_chance 31 = .ok (.invokevirtual 49, 3) := by decide +kernel
theorem dX5_chance_34 : decode cX5_chance 34 = .ok (.ireturn, 1) := by decide +kernel
theorem dX5_chance_35 : decode cX5_chance 35 = .ok (.aload_n 0, 1) := by decide +kernel
theorem dX5_chance_36 : decode cX5_chance 36 = .ok (.getfield 12, 3) := by decide +kernel
theorem dX5_chance_39 : decode cX5_chance 39 = .ok (.getfield 98, 3) := by decide +kernel
theorem dX5_chance_42 : decode cX5_chance 42 = .ok (.iload_n 1, 1) := by decide +kernel
theorem dX5_chance_43 : decode cX5_chance 43 = .ok (.iaload, 1) := by decide +kernel
theorem dX5_chance_44 : decode cX5_chance 44 = .ok (.istore 4, 2) := by decide +kernel
theorem dX5_chance_46 : decode cX5_chance 46 = .ok (.aload_n 0, 1) := by decide +kernel
theorem dX5_chance_47 : decode cX5_chance 47 = .ok (.getfield 12, 3) := by decide +kernel
theorem dX5_chance_50 : decode cX5_chance 50 = .ok (.getfield 98, 3) := by decide +kernel
theorem dX5_chance_53 : decode cX5_chance 53 = .ok (.iload_n 1, 1) := by decide +kernel
theorem dX5_chance_54 : decode cX5_chance 54 = .ok (.iload_n 2, 1) := by decide +kernel
theorem dX5_chance_55 : decode cX5_chance 55 = .ok (.iastore, 1) := by decide +kernel
theorem dX5_chance_56 : decode cX5_chance 56 = .ok (.iload 4, 2) := by decide +kernel
theorem dX5_chance_58 : decode cX5_chance 58 = .ok (.ireturn, 1) := by decide +kernel
set_option maxRecDepth 20000 in
theorem ggX5_over_X1_isHand : GoodIn wsX5_over wsX1_isHand := goodIn_r _ [7, 8, 26, 27, 28, 29, 30, 31, 32, 33, 34] (by decide +kernel) (by decide +kernel)
set_option maxRecDepth 20000 in
theorem gX5_over_X1_isHand : GoodIn wsX5_over (wsV RX5 85 RX1 yX1_isHand wsX1_isHand) := goodIn_app (goodIn_of _ (by decide +kernel)) ggX5_over_X1_isHand
set_option maxRecDepth 20000 in
theorem ggX5_over_X5_refuse : GoodIn wsX5_over wsX5_refuse := goodIn_r _ [13, 14, 18, 19, 20, 21, 22, 23, 24, 25] (by decide +kernel) (by decide +kernel)
set_option maxRecDepth 20000 in
theorem gX5_over_X5_refuse : GoodIn wsX5_over (wsV RX5 49 RX5 yX5_refuse wsX5_refuse) := goodIn_app (goodIn_of _ (by decide +kernel)) ggX5_over_X5_refuse
set_option maxRecDepth 20000 in
theorem ggX5_over_X5_with : GoodIn wsX5_over wsX5_with := goodIn_r _ [17] (by decide +kernel) (by decide +kernel)
set_option maxRecDepth 20000 in
theorem gX5_over_X5_with : GoodIn wsX5_over (va_wsS RX5 94 yX5_with wsX5_with) := goodIn_app (goodIn_of _ (by decide +kernel)) ggX5_over_X5_with
theorem dX5_over_0 : decode cX5_over 0 = .ok (.aload_n 0, 1) := by decide +kernel
theorem dX5_over_1 : decode cX5_over 1 = .ok (.getfield 12, 3) := by decide +kernel
theorem dX5_over_4 : decode cX5_over 4 = .ok (.iload_n 1, 1) := by decide +kernel
theorem dX5_over_5 : decode cX5_over 5 = .ok (.invokevirtual 85, 3) := by decide +kernel
theorem dX5_over_8 : decode cX5_over 8 = .ok (.ifCond .ne 9, 3) := by decide +kernel
theorem dX5_over_11 : decode cX5_over 11 = .ok (.aload_n 0, 1) := by decide +kernel
theorem dX5_over_12 : decode cX5_over 12 = .ok (.iconst (-1), 1) := by decide +kernel
theorem dX5_over_13 : decode cX5_over 13 = .ok (.invokevirtual 49, 3) := by decide +kernel
theorem dX5_over_16 : decode cX5_over 16 = .ok (.ireturn, 1) := by decide +kernel
theorem dX5_over_17 : decode cX5_over 17 = .ok (.aload_n 0, 1) := by decide +kernel
theorem dX5_over_18 : decode cX5_over 18 = .ok (.getfield 12, 3) := by decide +kernel
theorem dX5_over_21 : decode cX5_over 21 = .ok (.getfield 101, 3) := by decide +kernel
theorem dX5_over_24 : decode cX5_over 24 = .ok (.istore_n 3, 1) := by decide +kernel
theorem dX5_over_25 : decode cX5_over 25 = .ok (.aload_n 0, 1) := by decide +kernel
theorem dX5_over_26 : decode cX5_over 26 = .ok (.getfield 12, 3) := by decide +kernel
theorem dX5_over_29 : decode cX5_over 29 = .ok (.iload_n 3, 1) := by decide +kernel
theorem dX5_over_30 : decode cX5_over 30 = .ok (.iload_n 1, 1) := by decide +kernel
theorem dX5_over_31 : decode cX5_over 31 = .ok (.iload_n 2, 1) := by decide +kernel
theorem dX5_over_32 : decode cX5_over 32 = .ok (.invokestatic 94, 3) := by decide +kernel
theorem dX5_over_35 : decode cX5_over 35 = .ok (.putfield 101, 3) := by decide +kernel
theorem dX5_over_38 : decode cX5_over 38 = .ok (.aload_n 0, 1) := by decide +kernel
theorem dX5_over_39 : decode cX5_over 39 = .ok (.getfield 12, 3) := by decide +kernel
theorem dX5_over_42 : decode cX5_over 42 = .ok (.getfield 101, 3) := by decide +kernel
theorem dX5_over_45 : decode cX5_over 45 = .ok (.iload_n 3, 1) := by decide +kernel
theorem dX5_over_46 : decode cX5_over 46 = .ok (.if_icmp .ne 7, 3) := by decide +kernel
theorem dX5_over_49 : decode cX5_over 49 = .ok (.iconst 0, 1) := by decide +kernel
theorem dX5_over_50 : decode cX5_over 50 = .ok (.goto 4, 3) := by decide +kernel
theorem dX5_over_53 : decode cX5_over 53 = .ok (.iconst 1, 1) := by decide +kernel
theorem dX5_over_54 : decode cX5_over 54 = .ok (.ireturn, 1) := by decide +kernel
set_option maxRecDepth 20000 in
theorem ggX5_sight_X1_areTwoHands : GoodIn wsX5_sight wsX1_areTwoHands := goodIn_r _ [8, 9, 10, 11, 7, 12, 13, 44, 45, 46, 47, 48, 49, 50, 51, 52] (by decide +kernel) (by decide +kernel)
set_option maxRecDepth 20000 in
theorem gX5_sight_X1_areTwoHands : GoodIn wsX5_sight (wsV RX5 104 RX1 yX1_areTwoHands wsX1_areTwoHands) := goodIn_app (goodIn_of _ (by decide +kernel)) ggX5_sight_X1_areTwoHands
set_option maxRecDepth 20000 in
theorem ggX5_sight_X5_refuse : GoodIn wsX5_sight wsX5_refuse := goodIn_r _ [18, 19, 36, 37, 38, 39, 40, 41, 42, 43] (by decide +kernel) (by decide +kernel)
set_option maxRecDepth 20000 in
theorem gX5_sight_X5_refuse : GoodIn wsX5_sight (wsV RX5 49 RX5 yX5_refuse wsX5_refuse) := goodIn_app (goodIn_of _ (by decide +kernel)) ggX5_sight_X5_refuse
set_option maxRecDepth 20000 in
theorem ggX5_sight_X3_has : GoodIn wsX5_sight wsX3_has := goodIn_r _ [24, 25, 26, 27, 53, 54, 55] (by decide +kernel) (by decide +kernel)
set_option maxRecDepth 20000 in
theorem gX5_sight_X3_has : GoodIn wsX5_sight (wsV RX5 112 RX3 yX3_has wsX3_has) := goodIn_app (goodIn_of _ (by decide +kernel)) ggX5_sight_X3_has
set_option maxRecDepth 20000 in
theorem ggX5_sight_X3_isFull : GoodIn wsX5_sight wsX3_isFull := goodIn_r _ [31, 25, 53, 54, 55] (by decide +kernel) (by decide +kernel)
set_option maxRecDepth 20000 in
theorem gX5_sight_X3_isFull : GoodIn wsX5_sight (wsV RX5 117 RX3 yX3_isFull wsX3_isFull) := goodIn_app (goodIn_of _ (by decide +kernel)) ggX5_sight_X3_isFull
set_option maxRecDepth 20000 in
theorem ggX5_sight_X3_add : GoodIn wsX5_sight wsX3_add := goodIn_r _ [35, 25, 26, 27, 53, 54, 55] (by decide +kernel) (by decide +kernel)
set_option maxRecDepth 20000 in
theorem gX5_sight_X3_add : GoodIn wsX5_sight (wsV RX5 121 RX3 yX3_add wsX3_add) := goodIn_app (goodIn_of _ (by decide +kernel)) ggX5_sight_X3_add
theorem dX5_sight_0 : decode cX5_sight 0 = .ok (.aload_n 0, 1) := by decide +kernel
theorem dX5_sight_1 : decode cX5_sight 1 = .ok (.getfield 12, 3) := by decide +kernel
theorem dX5_sight_4 : decode cX5_sight 4 = .ok (.iload_n 1, 1) := by decide +kernel
theorem dX5_sight_5 : decode cX5_sight 5 = .ok (.iload_n 2, 1) := by decide +kernel
theorem dX5_sight_6 : decode cX5_sight 6 = .ok (.invokevirtual 104, 3) := by decide +kernel
theorem dX5_sight_9 : decode cX5_sight 9 = .ok (.ifCond .ne 9, 3) := by decide +kernel
theorem dX5_sight_12 : decode cX5_sight 12 = .ok (.aload_n 0, 1) := by decide +kernel
theorem dX5_sight_13 : decode cX5_sight 13 = .ok (.iconst (-1), 1) := by decide +kernel
theorem dX5_sight_14 : decode cX5_sight 14 = .ok (.invokevirtual 49, 3) := by decide +kernel
theorem dX5_sight_17 : decode cX5_sight 17 = .ok (.ireturn, 1) := by decide +kernel
theorem dX5_sight_18 : decode cX5_sight 18 = .ok (.aload_n 0, 1) := by decide +kernel
theorem dX5_sight_19 : decode cX5_sight 19 = .ok (.getfield 12, 3) := by decide +kernel
theorem dX5_sight_22 : decode cX5_sight 22 = .ok (.getfield 108, 3) := by decide +kernel
theorem dX5_sight_25 : decode cX5_sight 25 = .ok (.iload_n 1, 1) := by decide +kernel
theorem dX5_sight_26 : decode cX5_sight 26 = .ok (.iload_n 2, 1) := by decide +kernel
theorem dX5_sight_27 : decode cX5_sight 27 = .ok (.invokevirtual 112, 3) := by decide +kernel
theorem dX5_sight_30 : decode cX5_sight 30 = .ok (.ifCond .eq 10, 3) := by decide +kernel
theorem dX5_sight_33 : decode cX5_sight 33 = .ok (.aload_n 0, 1) := by decide +kernel
theorem dX5_sight_34 : decode cX5_sight 34 = .ok (.bipush (-3), 2) := by decide +kernel
theorem dX5_sight_36 : decode cX5_sight 36 = .ok (.invokevirtual 49, 3) := by decide +kernel
theorem dX5_sight_39 : decode cX5_sight 39 = .ok (.ireturn, 1) := by decide +kernel
theorem dX5_sight_40 : decode cX5_sight 40 = .ok (.aload_n 0, 1) := by decide +kernel
theorem dX5_sight_41 : decode cX5_sight 41 = .ok (.getfield 12, 3) := by decide +kernel
theorem dX5_sight_44 : decode cX5_sight 44 = .ok (.getfield 108, 3) := by decide +kernel
theorem dX5_sight_47 : decode cX5_sight 47 = .ok (.invokevirtual 117, 3) := by decide +kernel
theorem dX5_sight_50 : decode cX5_sight 50 = .ok (.ifCond .eq 10, 3) := by decide +kernel
theorem dX5_sight_53 : decode cX5_sight 53 = .ok (.aload_n 0, 1) := by decide +kernel
theorem dX5_sight_54 : decode cX5_sight 54 = .ok (.bipush (-6), 2) := by decide +kernel
theorem dX5_sight_56 : decode cX5_sight 56 = .ok (.invokevirtual 49, 3) := by decide +kernel
theorem dX5_sight_59 : decode cX5_sight 59 = .ok (.ireturn, 1) := by decide +kernel
theorem dX5_sight_60 : decode cX5_sight 60 = .ok (.aload_n 0, 1) := by decide +kernel
theorem dX5_sight_61 : decode cX5_sight 61 = .ok (.getfield 12, 3) := by decide +kernel
theorem dX5_sight_64 : decode cX5_sight 64 = .ok (.getfield 108, 3) := by decide +kernel
theorem dX5_sight_67 : decode cX5_sight 67 = .ok (.iload_n 1, 1) := by decide +kernel
theorem dX5_sight_68 : decode cX5_sight 68 = .ok (.iload_n 2, 1) := by decide +kernel
theorem dX5_sight_69 : decode cX5_sight 69 = .ok (.invokevirtual 121, 3) := by decide +kernel
theorem dX5_sight_72 : decode cX5_sight 72 = .ok (.aload_n 0, 1) := by decide +kernel
theorem dX5_sight_73 : decode cX5_sight 73 = .ok (.getfield 12, 3) := by decide +kernel
theorem dX5_sight_76 : decode cX5_sight 76 = .ok (.getfield 108, 3) := by decide +kernel
theorem dX5_sight_79 : decode cX5_sight 79 = .ok (.getfield 125, 3) := by decide +kernel
theorem dX5_sight_82 : decode cX5_sight 82 = .ok (.iconst 1, 1) := by decide +kernel
theorem dX5_sight_83 : decode cX5_sight 83 = .ok (.isub, 1) := by decide +kernel
theorem dX5_sight_84 : decode cX5_sight 84 = .ok (.ireturn, 1) := by decide +kernel
set_option maxRecDepth 20000 in
theorem ggX5_tie_X1_areTwoHands : GoodIn wsX5_tie wsX1_areTwoHands := goodIn_r _ [8, 9, 10, 11, 7, 12, 13, 40, 41, 42, 43, 44, 45, 46, 47, 48] (by decide +kernel) (by decide +kernel)
set_option maxRecDepth 20000 in
theorem gX5_tie_X1_areTwoHands : GoodIn wsX5_tie (wsV RX5 104 RX1 yX1_areTwoHands wsX1_areTwoHands) := goodIn_app (goodIn_of _ (by decide +kernel)) ggX5_tie_X1_areTwoHands
set_option maxRecDepth 20000 in
theorem ggX5_tie_X5_refuse : GoodIn wsX5_tie wsX5_refuse := goodIn_r _ [18, 19, 32, 33, 34, 35, 36, 37, 38, 39] (by decide +kernel) (by decide +kernel)
set_option maxRecDepth 20000 in
theorem gX5_tie_X5_refuse : GoodIn wsX5_tie (wsV RX5 49 RX5 yX5_refuse wsX5_refuse) := goodIn_app (goodIn_of _ (by decide +kernel)) ggX5_tie_X5_refuse
set_option maxRecDepth 20000 in
theorem ggX5_tie_X3_isFull : GoodIn wsX5_tie wsX3_isFull := goodIn_r _ [24, 25, 49, 50, 51] (by decide +kernel) (by decide +kernel)
set_option maxRecDepth 20000 in
theorem gX5_tie_X3_isFull : GoodIn wsX5_tie (wsV RX5 117 RX3 yX3_isFull wsX3_isFull) := goodIn_app (goodIn_of _ (by decide +kernel)) ggX5_tie_X3_isFull
set_option maxRecDepth 20000 in
theorem ggX5_tie_X3_add : GoodIn wsX5_tie wsX3_add := goodIn_r _ [29, 25, 30, 31, 49, 50, 51] (by decide +kernel) (by decide +kernel)
set_option maxRecDepth 20000 in
theorem gX5_tie_X3_add : GoodIn wsX5_tie (wsV RX5 121 RX3 yX3_add wsX3_add) := goodIn_app (goodIn_of _ (by decide +kernel)) ggX5_tie_X3_add
theorem dX5_tie_0 : decode cX5_tie 0 = .ok (.aload_n 0, 1) := by decide +kernel
theorem dX5_tie_1 : decode cX5_tie 1 = .ok (.getfield 12, 3) := by decide +kernel
theorem dX5_tie_4 : decode cX5_tie 4 = .ok (.iload_n 1, 1) := by decide +kernel
theorem dX5_tie_5 : decode cX5_tie 5 = .ok (.iload_n 2, 1) := by decide +kernel
theorem dX5_tie_6 : decode cX5_tie 6 = .ok (.invokevirtual 104, 3) := by decide +kernel
theorem dX5_tie_9 : decode cX5_tie 9 = .ok (.ifCond .ne 9, 3) := by decide +kernel
theorem dX5_tie_12 : decode cX5_tie 12 = .ok (.aload_n 0, 1) := by decide +kernel
theorem dX5_tie_13 : decode cX5_tie 13 = .ok (.iconst (-1), 1) := by decide +kernel
theorem dX5_tie_14 : decode cX5_tie 14 = .ok (.invokevirtual 49, 3) := by decide +kernel
theorem dX5_tie_17 : decode cX5_tie 17 = .ok (.ireturn, 1) := by decide +kernel
theorem dX5_tie_18 : decode cX5_tie 18 = .ok (.aload_n 0, 1) := by decide +kernel
theorem dX5_tie_19 : decode cX5_tie 19 = .ok (.getfield 12, 3) := by decide +kernel
theorem dX5_tie_22 : decode cX5_tie 22 = .ok (.getfield 128, 3) := by decide +kernel
theorem dX5_tie_25 : decode cX5_tie 25 = .ok (.invokevirtual 117, 3) := by decide +kernel
theorem dX5_tie_28 : decode cX5_tie 28 = .ok (.ifCond .eq 10, 3) := by decide +kernel
theorem dX5_tie_31 : decode cX5_tie 31 = .ok (.aload_n 0, 1) := by decide +kernel
theorem dX5_tie_32 : decode cX5_tie 32 = .ok (.bipush (-6), 2) := by decide +kernel
theorem dX5_tie_34 : decode cX5_tie 34 = .ok (.invokevirtual 49, 3) := by decide +kernel
theorem dX5_tie_37 : decode cX5_tie 37 = .ok (.ireturn, 1) := by decide +kernel
theorem dX5_tie_38 : decode cX5_tie 38 = .ok (.aload_n 0, 1) := by decide +kernel
theorem dX5_tie_39 : decode cX5_tie 39 = .ok (.getfield 12, 3) := by decide +kernel
theorem dX5_tie_42 : decode cX5_tie 42 = .ok (.getfield 128, 3) := by decide +kernel
theorem dX5_tie_45 : decode cX5_tie 45 = .ok (.iload_n 1, 1) := by decide +kernel
theorem dX5_tie_46 : decode cX5_tie 46 = .ok (.iload_n 2, 1) := by decide +kernel
theorem dX5_tie_47 : decode cX5_tie 47 = .ok (.invokevirtual 121, 3) := by decide +kernel
theorem dX5_tie_50 : decode cX5_tie 50 = .ok (.aload_n 0, 1) := by decide +kernel
theorem dX5_tie_51 : decode cX5_tie 51 = .ok (.getfield 12, 3) := by decide +kernel
theorem dX5_tie_54 : decode cX5_tie 54 = .ok (.getfield 128, 3) := by decide +kernel
theorem dX5_tie_57 : decode cX5_tie 57 = .ok (.getfield 125, 3) := by decide +kernel
theorem dX5_tie_60 : decode cX5_tie 60 = .ok (.ireturn, 1) := by decide +kernel
set_option maxRecDepth 20000 in
theorem ggX5_guess_X1_isStepSet : GoodIn wsX5_guess wsX1_isStepSet := goodIn_r _ [8, 9, 43, 44, 45, 46, 47, 48, 49, 50, 51] (by decide +kernel) (by decide +kernel)
set_option maxRecDepth 20000 in
theorem gX5_guess_X1_isStepSet : GoodIn wsX5_guess (wsV RX5 75 RX1 yX1_isStepSet wsX1_isStepSet) := goodIn_app (goodIn_of _ (by decide +kernel)) ggX5_guess_X1_isStepSet
set_option maxRecDepth 20000 in
theorem ggX5_guess_X1_isStep : GoodIn wsX5_guess wsX1_isStep := goodIn_r _ [13, 9, 43, 44, 45, 46, 47, 48, 49, 50, 51] (by decide +kernel) (by decide +kernel)
set_option maxRecDepth 20000 in
theorem gX5_guess_X1_isStep : GoodIn wsX5_guess (wsV RX5 88 RX1 yX1_isStep wsX1_isStep) := goodIn_app (goodIn_of _ (by decide +kernel)) ggX5_guess_X1_isStep
set_option maxRecDepth 20000 in
theorem ggX5_guess_X5_contains : GoodIn wsX5_guess wsX5_contains := goodIn_r _ [17] (by decide +kernel) (by decide +kernel)
set_option maxRecDepth 20000 in
theorem gX5_guess_X5_contains : GoodIn wsX5_guess (va_wsS RX5 131 yX5_contains wsX5_contains) := goodIn_app (goodIn_of _ (by decide +kernel)) ggX5_guess_X5_contains
set_option maxRecDepth 20000 in
theorem ggX5_guess_X5_refuse : GoodIn wsX5_guess wsX5_refuse := goodIn_r _ [21, 22, 35, 36, 37, 38, 39, 40, 41, 42] (by decide +kernel) (by decide +kernel)
set_option maxRecDepth 20000 in
theorem gX5_guess_X5_refuse : GoodIn wsX5_guess (wsV RX5 49 RX5 yX5_refuse wsX5_refuse) := goodIn_app (goodIn_of _ (by decide +kernel)) ggX5_guess_X5_refuse
set_option maxRecDepth 20000 in
theorem ggX5_guess_X3_isFull : GoodIn wsX5_guess wsX3_isFull := goodIn_r _ [27, 28, 52, 53, 54] (by decide +kernel) (by decide +kernel)
set_option maxRecDepth 20000 in
theorem gX5_guess_X3_isFull : GoodIn wsX5_guess (wsV RX5 117 RX3 yX3_isFull wsX3_isFull) := goodIn_app (goodIn_of _ (by decide +kernel)) ggX5_guess_X3_isFull
set_option maxRecDepth 20000 in
theorem ggX5_guess_X3_add : GoodIn wsX5_guess wsX3_add := goodIn_r _ [32, 28, 33, 34, 52, 53, 54] (by decide +kernel) (by decide +kernel)
set_option maxRecDepth 20000 in
theorem gX5_guess_X3_add : GoodIn wsX5_guess (wsV RX5 121 RX3 yX3_add wsX3_add) := goodIn_app (goodIn_of _ (by decide +kernel)) ggX5_guess_X3_add
theorem dX5_guess_0 : decode cX5_guess 0 = .ok (.aload_n 0, 1) := by decide +kernel
theorem dX5_guess_1 : decode cX5_guess 1 = .ok (.getfield 12, 3) := by decide +kernel
theorem dX5_guess_4 : decode cX5_guess 4 = .ok (.iload_n 1, 1) := by decide +kernel
theorem dX5_guess_5 : decode cX5_guess 5 = .ok (.invokevirtual 75, 3) := by decide +kernel
theorem dX5_guess_8 : decode cX5_guess 8 = .ok (.ifCond .eq 26, 3) := by decide +kernel
theorem dX5_guess_11 : decode cX5_guess 11 = .ok (.iload_n 1, 1) := by decide +kernel
theorem dX5_guess_12 : decode cX5_guess 12 = .ok (.ifCond .eq 22, 3) := by decide +kernel
theorem dX5_guess_15 : decode cX5_guess 15 = .ok (.aload_n 0, 1) := by decide +kernel
theorem dX5_guess_16 : decode cX5_guess 16 = .ok (.getfield 12, 3) := by decide +kernel
theorem dX5_guess_19 : decode cX5_guess 19 = .ok (.iload_n 2, 1) := by decide +kernel
theorem dX5_guess_20 : decode cX5_guess 20 = .ok (.invokevirtual 88, 3) := by decide +kernel
theorem dX5_guess_23 : decode cX5_guess 23 = .ok (.ifCond .eq 11, 3) := by decide +kernel
theorem dX5_guess_26 : decode cX5_guess 26 = .ok (.iload_n 1, 1) := by decide +kernel
theorem dX5_guess_27 : decode cX5_guess 27 = .ok (.iload_n 2, 1) := by decide +kernel
theorem dX5_guess_28 : decode cX5_guess 28 = .ok (.invokestatic 131, 3) := by decide +kernel
theorem dX5_guess_31 : decode cX5_guess 31 = .ok (.ifCond .eq 9, 3) := by decide +kernel
theorem dX5_guess_34 : decode cX5_guess 34 = .ok (.aload_n 0, 1) := by decide +kernel
theorem dX5_guess_35 : decode cX5_guess 35 = .ok (.iconst (-1), 1) := by decide +kernel
theorem dX5_guess_36 : decode cX5_guess 36 = .ok (.invokevirtual 49, 3) := by decide +kernel
theorem dX5_guess_39 : decode cX5_guess 39 = .ok (.ireturn, 1) := by decide +kernel
theorem dX5_guess_40 : decode cX5_guess 40 = .ok (.aload_n 0, 1) := by decide +kernel
theorem dX5_guess_41 : decode cX5_guess 41 = .ok (.getfield 12, 3) := by decide +kernel
theorem dX5_guess_44 : decode cX5_guess 44 = .ok (.getfield 134, 3) := by decide +kernel
theorem dX5_guess_47 : decode cX5_guess 47 = .ok (.invokevirtual 117, 3) := by decide +kernel
theorem dX5_guess_50 : decode cX5_guess 50 = .ok (.ifCond .eq 10, 3) := by decide +kernel
theorem dX5_guess_53 : decode cX5_guess 53 = .ok (.aload_n 0, 1) := by decide +kernel
theorem dX5_guess_54 : decode cX5_guess 54 = .ok (.bipush (-6), 2) := by decide +kernel
theorem dX5_guess_56 : decode cX5_guess 56 = .ok (.invokevirtual 49, 3) := by decide +kernel
theorem dX5_guess_59 : decode cX5_guess 59 = .ok (.ireturn, 1) := by decide +kernel
theorem dX5_guess_60 : decode cX5_guess 60 = .ok (.aload_n 0, 1) := by decide +kernel
theorem dX5_guess_61 : decode cX5_guess 61 = .ok (.getfield 12, 3) := by decide +kernel
theorem dX5_guess_64 : decode cX5_guess 64 = .ok (.getfield 134, 3) := by decide +kernel
theorem dX5_guess_67 : decode cX5_guess 67 = .ok (.iload_n 1, 1) := by decide +kernel
theorem dX5_guess_68 : decode cX5_guess 68 = .ok (.iload_n 2, 1) := by decide +kernel
theorem dX5_guess_69 : decode cX5_guess 69 = .ok (.invokevirtual 121, 3) := by decide +kernel
theorem dX5_guess_72 : decode cX5_guess 72 = .ok (.aload_n 0, 1) := by decide +kernel
theorem dX5_guess_73 : decode cX5_guess 73 = .ok (.getfield 12, 3) := by decide +kernel
theorem dX5_guess_76 : decode cX5_guess 76 = .ok (.getfield 134, 3) := by decide +kernel
theorem dX5_guess_79 : decode cX5_guess 79 = .ok (.getfield 125, 3) := by decide +kernel
theorem dX5_guess_82 : decode cX5_guess 82 = .ok (.ireturn, 1) := by decide +kernel
set_option maxRecDepth 20000 in
theorem ggX5_paper_X1_isStepSet : GoodIn wsX5_paper wsX1_isStepSet := goodIn_r _ [7, 8, 23, 24, 25, 26, 27, 28, 29, 30, 31] (by decide +kernel) (by decide +kernel)
set_option maxRecDepth 20000 in
theorem gX5_paper_X1_isStepSet : GoodIn wsX5_paper (wsV RX5 75 RX1 yX1_isStepSet wsX1_isStepSet) := goodIn_app (goodIn_of _ (by decide +kernel)) ggX5_paper_X1_isStepSet
set_option maxRecDepth 20000 in
theorem ggX5_paper_X5_refuse : GoodIn wsX5_paper wsX5_refuse := goodIn_r _ [13, 14, 15, 16, 17, 18, 19, 20, 21, 22] (by decide +kernel) (by decide +kernel)
set_option maxRecDepth 20000 in
theorem gX5_paper_X5_refuse : GoodIn wsX5_paper (wsV RX5 49 RX5 yX5_refuse wsX5_refuse) := goodIn_app (goodIn_of _ (by decide +kernel)) ggX5_paper_X5_refuse
theorem dX5_paper_0 : decode cX5_paper 0 = .ok (.aload_n 0, 1) := by decide +kernel
theorem dX5_paper_1 : decode cX5_paper 1 = .ok (.getfield 12, 3) := by decide +kernel
theorem dX5_paper_4 : decode cX5_paper 4 = .ok (.iload_n 1, 1) := by decide +kernel
theorem dX5_paper_5 : decode cX5_paper 5 = .ok (.invokevirtual 75, 3) := by decide +kernel
theorem dX5_paper_8 : decode cX5_paper 8 = .ok (.ifCond .ne 9, 3) := by decide +kernel
theorem dX5_paper_11 : decode cX5_paper 11 = .ok (.aload_n 0, 1) := by decide +kernel
theorem dX5_paper_12 : decode cX5_paper 12 = .ok (.iconst (-1), 1) := by decide +kernel
theorem dX5_paper_13 : decode cX5_paper 13 = .ok (.invokevirtual 49, 3) := by decide +kernel
theorem dX5_paper_16 : decode cX5_paper 16 = .ok (.ireturn, 1) := by decide +kernel
theorem dX5_paper_17 : decode cX5_paper 17 = .ok (.aload_n 0, 1) := by decide +kernel
theorem dX5_paper_18 : decode cX5_paper 18 = .ok (.getfield 12, 3) := by decide +kernel
theorem dX5_paper_21 : decode cX5_paper 21 = .ok (.getfield 137, 3) := by decide +kernel
theorem dX5_paper_24 : decode cX5_paper 24 = .ok (.istore_n 2, 1) := by decide +kernel
theorem dX5_paper_25 : decode cX5_paper 25 = .ok (.aload_n 0, 1) := by decide +kernel
theorem dX5_paper_26 : decode cX5_paper 26 = .ok (.getfield 12, 3) := by decide +kernel
theorem dX5_paper_29 : decode cX5_paper 29 = .ok (.iload_n 1, 1) := by decide +kernel
theorem dX5_paper_30 : decode cX5_paper 30 = .ok (.putfield 137, 3) := by decide +kernel
theorem dX5_paper_33 : decode cX5_paper 33 = .ok (.iload_n 2, 1) := by decide +kernel
theorem dX5_paper_34 : decode cX5_paper 34 = .ok (.ireturn, 1) := by decide +kernel
set_option maxRecDepth 20000 in
theorem ggX5_knows_X1_isHand : GoodIn wsX5_knows wsX1_isHand := goodIn_r _ [8, 9, 86, 87, 88, 89, 90, 91, 92, 93, 94] (by decide +kernel) (by decide +kernel)
set_option maxRecDepth 20000 in
theorem gX5_knows_X1_isHand : GoodIn wsX5_knows (wsV RX5 85 RX1 yX1_isHand wsX1_isHand) := goodIn_app (goodIn_of _ (by decide +kernel)) ggX5_knows_X1_isHand
set_option maxRecDepth 20000 in
theorem ggX5_knows_X5_refuse : GoodIn wsX5_knows wsX5_refuse := goodIn_r _ [14, 15, 78, 79, 80, 81, 82, 83, 84, 85] (by decide +kernel) (by decide +kernel)
set_option maxRecDepth 20000 in
theorem gX5_knows_X5_refuse : GoodIn wsX5_knows (wsV RX5 49 RX5 yX5_refuse wsX5_refuse) := goodIn_app (goodIn_of _ (by decide +kernel)) ggX5_knows_X5_refuse
set_option maxRecDepth 20000 in
theorem ggX5_knows_X2_begin : GoodIn wsX5_knows wsX2_begin := goodIn_r _ [20, 21, 22, 23, 24, 25, 26, 27, 28, 29, 30, 31, 32, 33, 34, 35, 36, 7, 37, 9, 38, 39, 40, 41, 42, 43, 44, 45, 46, 19, 47, 48, 49, 50, 51, 52, 53, 13, 54, 55, 56, 57, 58, 59, 60, 61, 62, 63, 64, 95, 96, 97, 98, 99, 100, 101, 102, 103, 104, 105, 86, 87, 88, 89, 90, 91, 92, 93, 94, 106, 107, 108] (by decide +kernel) (by decide +kernel)
set_option maxRecDepth 20000 in
theorem gX5_knows_X2_begin : GoodIn wsX5_knows (wsV RX5 140 RX2 yX2_begin wsX2_begin) := goodIn_app (goodIn_of _ (by decide +kernel)) ggX5_knows_X2_begin
set_option maxRecDepth 20000 in
theorem ggX5_knows_X2_seenBy : GoodIn wsX5_knows wsX2_seenBy := goodIn_r _ [68, 23, 59, 62, 63, 19, 64, 95, 96, 97, 98, 99, 100, 101, 102, 103, 104, 105] (by decide +kernel) (by decide +kernel)
set_option maxRecDepth 20000 in
theorem gX5_knows_X2_seenBy : GoodIn wsX5_knows (wsV RX5 143 RX2 yX2_seenBy wsX2_seenBy) := goodIn_app (goodIn_of _ (by decide +kernel)) ggX5_knows_X2_seenBy
set_option maxRecDepth 20000 in
theorem ggX5_knows_X2_knownTo : GoodIn wsX5_knows wsX2_knownTo := goodIn_r _ [72, 23, 61, 62, 63, 19, 64, 95, 96, 97, 98, 99, 100, 101, 102, 103, 104, 105] (by decide +kernel) (by decide +kernel)
set_option maxRecDepth 20000 in
theorem gX5_knows_X2_knownTo : GoodIn wsX5_knows (wsV RX5 146 RX2 yX2_knownTo wsX2_knownTo) := goodIn_app (goodIn_of _ (by decide +kernel)) ggX5_knows_X2_knownTo
set_option maxRecDepth 20000 in
theorem ggX5_knows_X2_guessedFrom : GoodIn wsX5_knows wsX2_guessedFrom := goodIn_r _ [76, 21, 77, 31, 50, 51, 52, 95, 96, 97, 98, 99, 100, 101, 102, 103, 104, 105, 86, 87, 88, 89, 90, 91, 92, 93, 94, 106, 107, 108] (by decide +kernel) (by decide +kernel)
set_option maxRecDepth 20000 in
theorem gX5_knows_X2_guessedFrom : GoodIn wsX5_knows (wsV RX5 149 RX2 yX2_guessedFrom wsX2_guessedFrom) := goodIn_app (goodIn_of _ (by decide +kernel)) ggX5_knows_X2_guessedFrom
theorem dX5_knows_0 : decode cX5_knows 0 = .ok (.aload_n 0, 1) := by decide +kernel
theorem dX5_knows_1 : decode cX5_knows 1 = .ok (.getfield 12, 3) := by decide +kernel
theorem dX5_knows_4 : decode cX5_knows 4 = .ok (.iload_n 1, 1) := by decide +kernel
theorem dX5_knows_5 : decode cX5_knows 5 = .ok (.invokevirtual 85, 3) := by decide +kernel
theorem dX5_knows_8 : decode cX5_knows 8 = .ok (.ifCond .ne 9, 3) := by decide +kernel
theorem dX5_knows_11 : decode cX5_knows 11 = .ok (.aload_n 0, 1) := by decide +kernel
theorem dX5_knows_12 : decode cX5_knows 12 = .ok (.iconst (-1), 1) := by decide +kernel
theorem dX5_knows_13 : decode cX5_knows 13 = .ok (.invokevirtual 49, 3) := by decide +kernel
theorem dX5_knows_16 : decode cX5_knows 16 = .ok (.ireturn, 1) := by decide +kernel
theorem dX5_knows_17 : decode cX5_knows 17 = .ok (.iload_n 2, 1) := by decide +kernel
theorem dX5_knows_18 : decode cX5_knows 18 = .ok (.ifCond .lt 8, 3) := by decide +kernel
theorem dX5_knows_21 : decode cX5_knows 21 = .ok (.iload_n 2, 1) := by decide +kernel
theorem dX5_knows_22 : decode cX5_knows 22 = .ok (.iconst 3, 1) := by decide +kernel
theorem dX5_knows_23 : decode cX5_knows 23 = .ok (.if_icmp .le 10, 3) := by decide +kernel
theorem dX5_knows_26 : decode cX5_knows 26 = .ok (.aload_n 0, 1) := by decide +kernel
theorem dX5_knows_27 : decode cX5_knows 27 = .ok (.bipush (-2), 2) := by decide +kernel
theorem dX5_knows_29 : decode cX5_knows 29 = .ok (.invokevirtual 49, 3) := by decide +kernel
theorem dX5_knows_32 : decode cX5_knows 32 = .ok (.ireturn, 1) := by decide +kernel
theorem dX5_knows_33 : decode cX5_knows 33 = .ok (.aload_n 0, 1) := by decide +kernel
theorem dX5_knows_34 : decode cX5_knows 34 = .ok (.getfield 21, 3) := by decide +kernel
theorem dX5_knows_37 : decode cX5_knows 37 = .ok (.invokevirtual 140, 3) := by decide +kernel
theorem dX5_knows_40 : decode cX5_knows 40 = .ok (.iload_n 2, 1) := by decide +kernel
theorem dX5_knows_41 : decode cX5_knows 41 = .ok (.tableswitch 57 0 2 #[27, 37, 46], 27) := by decide +kernel
theorem dX5_knows_68 : decode cX5_knows 68 = .ok (.aload_n 0, 1) := by decide +kernel
theorem dX5_knows_69 : decode cX5_knows 69 = .ok (.getfield 12, 3) := by decide +kernel
theorem dX5_knows_72 : decode cX5_knows 72 = .ok (.getfield 91, 3) := by decide +kernel
theorem dX5_knows_75 : decode cX5_knows 75 = .ok (.iload_n 1, 1) := by decide +kernel
theorem dX5_knows_76 : decode cX5_knows 76 = .ok (.iaload, 1) := by decide +kernel
theorem dX5_knows_77 : decode cX5_knows 77 = .ok (.ireturn, 1) := by decide +kernel
theorem dX5_knows_78 : decode cX5_knows 78 = .ok (.aload_n 0, 1) := by decide +kernel
theorem dX5_knows_79 : decode cX5_knows 79 = .ok (.getfield 21, 3) := by decide +kernel
theorem dX5_knows_82 : decode cX5_knows 82 = .ok (.iload_n 1, 1) := by decide +kernel
theorem dX5_knows_83 : decode cX5_knows 83 = .ok (.invokevirtual 143, 3) := by decide +kernel
theorem dX5_knows_86 : decode cX5_knows 86 = .ok (.ireturn, 1) := by decide +kernel
theorem dX5_knows_87 : decode cX5_knows 87 = .ok (.aload_n 0, 1) := by decide +kernel
theorem dX5_knows_88 : decode cX5_knows 88 = .ok (.getfield 21, 3) := by decide +kernel
theorem dX5_knows_91 : decode cX5_knows 91 = .ok (.iconst 1, 1) := by decide +kernel
theorem dX5_knows_92 : decode cX5_knows 92 = .ok (.iload_n 1, 1) := by decide +kernel
theorem dX5_knows_93 : decode cX5_knows 93 = .ok (.ishl, 1) := by decide +kernel
theorem dX5_knows_94 : decode cX5_knows 94 = .ok (.invokevirtual 146, 3) := by decide +kernel
theorem dX5_knows_97 : decode cX5_knows 97 = .ok (.ireturn, 1) := by decide +kernel
theorem dX5_knows_98 : decode cX5_knows 98 = .ok (.aload_n 0, 1) := by decide +kernel
theorem dX5_knows_99 : decode cX5_knows 99 = .ok (.getfield 21, 3) := by decide +kernel
theorem dX5_knows_102 : decode cX5_knows 102 = .ok (.aload_n 0, 1) := by decide +kernel
theorem dX5_knows_103 : decode cX5_knows 103 = .ok (.getfield 21, 3) := by decide +kernel
theorem dX5_knows_106 : decode cX5_knows 106 = .ok (.iconst 1, 1) := by decide +kernel
theorem dX5_knows_107 : decode cX5_knows 107 = .ok (.iload_n 1, 1) := by decide +kernel
theorem dX5_knows_108 : decode cX5_knows 108 = .ok (.ishl, 1) := by decide +kernel
theorem dX5_knows_109 : decode cX5_knows 109 = .ok (.invokevirtual 146, 3) := by decide +kernel
theorem dX5_knows_112 : decode cX5_knows 112 = .ok (.invokevirtual 149, 3) := by decide +kernel
theorem dX5_knows_115 : decode cX5_knows 115 = .ok (.ireturn, 1) := by decide +kernel
set_option maxRecDepth 20000 in
theorem ggX5_known_X1_isHandSet : GoodIn wsX5_known wsX1_isHandSet := goodIn_r _ [8, 9, 82, 83, 84, 85, 86, 87, 88, 89, 90] (by decide +kernel) (by decide +kernel)
set_option maxRecDepth 20000 in
theorem gX5_known_X1_isHandSet : GoodIn wsX5_known (wsV RX5 152 RX1 yX1_isHandSet wsX1_isHandSet) := goodIn_app (goodIn_of _ (by decide +kernel)) ggX5_known_X1_isHandSet
set_option maxRecDepth 20000 in
theorem ggX5_known_X5_refuse : GoodIn wsX5_known wsX5_refuse := goodIn_r _ [14, 15, 74, 75, 76, 77, 78, 79, 80, 81] (by decide +kernel) (by decide +kernel)
set_option maxRecDepth 20000 in
theorem gX5_known_X5_refuse : GoodIn wsX5_known (wsV RX5 49 RX5 yX5_refuse wsX5_refuse) := goodIn_app (goodIn_of _ (by decide +kernel)) ggX5_known_X5_refuse
set_option maxRecDepth 20000 in
theorem ggX5_known_X2_begin : GoodIn wsX5_known wsX2_begin := goodIn_r _ [20, 21, 22, 23, 24, 25, 26, 27, 28, 29, 30, 31, 32, 33, 34, 35, 36, 7, 37, 9, 38, 39, 40, 41, 42, 43, 44, 45, 46, 19, 47, 48, 49, 50, 51, 52, 53, 13, 54, 55, 56, 57, 58, 59, 60, 61, 62, 63, 64, 91, 92, 93, 94, 95, 96, 97, 98, 99, 100, 101, 82, 83, 84, 85, 86, 87, 88, 89, 90, 102, 103, 104] (by decide +kernel) (by decide +kernel)
set_option maxRecDepth 20000 in
theorem gX5_known_X2_begin : GoodIn wsX5_known (wsV RX5 140 RX2 yX2_begin wsX2_begin) := goodIn_app (goodIn_of _ (by decide +kernel)) ggX5_known_X2_begin
set_option maxRecDepth 20000 in
theorem ggX5_known_X2_knownTo : GoodIn wsX5_known wsX2_knownTo := goodIn_r _ [68, 23, 61, 62, 63, 19, 64, 91, 92, 93, 94, 95, 96, 97, 98, 99, 100, 101] (by decide +kernel) (by decide +kernel)
set_option maxRecDepth 20000 in
theorem gX5_known_X2_knownTo : GoodIn wsX5_known (wsV RX5 146 RX2 yX2_knownTo wsX2_knownTo) := goodIn_app (goodIn_of _ (by decide +kernel)) ggX5_known_X2_knownTo
set_option maxRecDepth 20000 in
theorem ggX5_known_X2_guessedFrom : GoodIn wsX5_known wsX2_guessedFrom := goodIn_r _ [72, 21, 73, 31, 50, 51, 52, 91, 92, 93, 94, 95, 96, 97, 98, 99, 100, 101, 82, 83, 84, 85, 86, 87, 88, 89, 90, 102, 103, 104] (by decide +kernel) (by decide +kernel)
set_option maxRecDepth 20000 in
theorem gX5_known_X2_guessedFrom : GoodIn wsX5_known (wsV RX5 149 RX2 yX2_guessedFrom wsX2_guessedFrom) := goodIn_app (goodIn_of _ (by decide +kernel)) ggX5_known_X2_guessedFrom
theorem dX5_known_0 : decode cX5_known 0 = .ok (.aload_n 0, 1) := by decide +kernel
theorem dX5_known_1 : decode cX5_known 1 = .ok (.getfield 12, 3) := by decide +kernel
theorem dX5_known_4 : decode cX5_known 4 = .ok (.iload_n 1, 1) := by decide +kernel
theorem dX5_known_5 : decode cX5_known 5 = .ok (.invokevirtual 152, 3) := by decide +kernel
theorem dX5_known_8 : decode cX5_known 8 = .ok (.ifCond .ne 9, 3) := by decide +kernel
theorem dX5_known_11 : decode cX5_known 11 = .ok (.aload_n 0, 1) := by decide +kernel
theorem dX5_known_12 : decode cX5_known 12 = .ok (.iconst (-1), 1) := by decide +kernel
theorem dX5_known_13 : decode cX5_known 13 = .ok (.invokevirtual 49, 3) := by decide +kernel
theorem dX5_known_16 : decode cX5_known 16 = .ok (.ireturn, 1) := by decide +kernel
theorem dX5_known_17 : decode cX5_known 17 = .ok (.aload_n 0, 1) := by decide +kernel
theorem dX5_known_18 : decode cX5_known 18 = .ok (.getfield 21, 3) := by decide +kernel
theorem dX5_known_21 : decode cX5_known 21 = .ok (.invokevirtual 140, 3) := by decide +kernel
theorem dX5_known_24 : decode cX5_known 24 = .ok (.aload_n 0, 1) := by decide +kernel
theorem dX5_known_25 : decode cX5_known 25 = .ok (.getfield 21, 3) := by decide +kernel
theorem dX5_known_28 : decode cX5_known 28 = .ok (.aload_n 0, 1) := by decide +kernel
theorem dX5_known_29 : decode cX5_known 29 = .ok (.getfield 21, 3) := by decide +kernel
theorem dX5_known_32 : decode cX5_known 32 = .ok (.iload_n 1, 1) := by decide +kernel
theorem dX5_known_33 : decode cX5_known 33 = .ok (.invokevirtual 146, 3) := by decide +kernel
theorem dX5_known_36 : decode cX5_known 36 = .ok (.iload_n 2, 1) := by decide +kernel
theorem dX5_known_37 : decode cX5_known 37 = .ok (.ifCond .eq 13, 3) := by decide +kernel
theorem dX5_known_40 : decode cX5_known 40 = .ok (.aload_n 0, 1) := by decide +kernel
theorem dX5_known_41 : decode cX5_known 41 = .ok (.getfield 12, 3) := by decide +kernel
theorem dX5_known_44 : decode cX5_known 44 = .ok (.getfield 137, 3) := by decide +kernel
theorem dX5_known_47 : decode cX5_known 47 = .ok (.goto 4, 3) := by decide +kernel
theorem dX5_known_50 : decode cX5_known 50 = .ok (.iconst 0, 1) := by decide +kernel
theorem dX5_known_51 : decode cX5_known 51 = .ok (.ior, 1) := by decide +kernel
theorem dX5_known_52 : decode cX5_known 52 = .ok (.invokevirtual 149, 3) := by decide +kernel
theorem dX5_known_55 : decode cX5_known 55 = .ok (.ireturn, 1) := by decide +kernel
set_option maxRecDepth 20000 in
theorem ggX5_stays_X5_outside : GoodIn wsX5_stays wsX5_outside := goodIn_r _ [5] (by decide +kernel) (by decide +kernel)
set_option maxRecDepth 20000 in
theorem gX5_stays_X5_outside : GoodIn wsX5_stays (va_wsS RX5 64 yX5_outside wsX5_outside) := goodIn_app (goodIn_of _ (by decide +kernel)) ggX5_stays_X5_outside
set_option maxRecDepth 20000 in
theorem ggX5_stays_X5_refuse : GoodIn wsX5_stays wsX5_refuse := goodIn_r _ [9, 10, 110, 111, 112, 113, 114, 115, 116, 117] (by decide +kernel) (by decide +kernel)
set_option maxRecDepth 20000 in
theorem gX5_stays_X5_refuse : GoodIn wsX5_stays (wsV RX5 49 RX5 yX5_refuse wsX5_refuse) := goodIn_app (goodIn_of _ (by decide +kernel)) ggX5_stays_X5_refuse
set_option maxRecDepth 20000 in
theorem ggX5_stays_X2_begin : GoodIn wsX5_stays wsX2_begin := goodIn_r _ [15, 16, 17, 18, 19, 20, 21, 22, 23, 24, 25, 26, 27, 28, 29, 30, 31, 32, 33, 34, 35, 36, 37, 38, 39, 40, 41, 42, 43, 14, 44, 45, 46, 47, 48, 49, 50, 4, 51, 52, 53, 54, 55, 56, 57, 58, 59, 60, 61, 118, 119, 120, 121, 122, 123, 124, 125, 126, 127, 128, 129, 130, 131, 132, 133, 134, 135, 136, 137, 138, 139, 140] (by decide +kernel) (by decide +kernel)
set_option maxRecDepth 20000 in
theorem gX5_stays_X2_begin : GoodIn wsX5_stays (wsV RX5 140 RX2 yX2_begin wsX2_begin) := goodIn_app (goodIn_of _ (by decide +kernel)) ggX5_stays_X2_begin
set_option maxRecDepth 20000 in
theorem ggX5_stays_X2_chooseLeavers : GoodIn wsX5_stays wsX2_chooseLeavers := goodIn_r _ [65, 66, 25, 67, 68, 69, 70, 71, 72, 73, 74, 75, 76, 77, 78, 79, 80, 81, 82, 83, 84, 85, 118, 119, 120, 121, 122, 123, 124, 125, 126, 127, 128, 141, 142, 143] (by decide +kernel) (by decide +kernel)
set_option maxRecDepth 20000 in
theorem gX5_stays_X2_chooseLeavers : GoodIn wsX5_stays (wsV RX5 155 RX2 yX2_chooseLeavers wsX2_chooseLeavers) := goodIn_app (goodIn_of _ (by decide +kernel)) ggX5_stays_X2_chooseLeavers
set_option maxRecDepth 20000 in
theorem ggX5_stays_X2_isKept : GoodIn wsX5_stays wsX2_isKept := goodIn_r _ [89, 66, 90, 91, 92, 14, 93, 94, 95, 96, 97, 98, 99, 100, 58, 25, 18, 28, 26, 24, 59, 60, 61, 101, 102, 103, 104, 16, 105, 47, 48, 49, 106, 107, 108, 70, 109, 76, 118, 119, 120, 121, 122, 123, 124, 125, 126, 127, 128, 141, 142, 143, 129, 130, 131, 132, 133, 134, 135, 136, 137, 138, 139, 140] (by decide +kernel) (by decide +kernel)
set_option maxRecDepth 20000 in
theorem gX5_stays_X2_isKept : GoodIn wsX5_stays (wsV RX5 158 RX2 yX2_isKept wsX2_isKept) := goodIn_app (goodIn_of _ (by decide +kernel)) ggX5_stays_X2_isKept
theorem dX5_stays_0 : decode cX5_stays 0 = .ok (.iload_n 1, 1) := by decide +kernel
theorem dX5_stays_1 : decode cX5_stays 1 = .ok (.iconst 0, 1) := by decide +kernel
theorem dX5_stays_2 : decode cX5_stays 2 = .ok (.bipush 8, 2) := by decide +kernel
theorem dX5_stays_4 : decode cX5_stays 4 = .ok (.invokestatic 64, 3) := by decide +kernel
theorem dX5_stays_7 : decode cX5_stays 7 = .ok (.istore_n 2, 1) := by decide +kernel
theorem dX5_stays_8 : decode cX5_stays 8 = .ok (.iload_n 2, 1) := by decide +kernel
theorem dX5_stays_9 : decode cX5_stays 9 = .ok (.ifCond .eq 9, 3) := by decide +kernel
theorem dX5_stays_12 : decode cX5_stays 12 = .ok (.aload_n 0, 1) := by decide +kernel
theorem dX5_stays_13 : decode cX5_stays 13 = .ok (.iload_n 2, 1) := by decide +kernel
theorem dX5_stays_14 : decode cX5_stays 14 = .ok (.invokevirtual 49, 3) := by decide +kernel
theorem dX5_stays_17 : decode cX5_stays 17 = .ok (.ireturn, 1) := by decide +kernel
theorem dX5_stays_18 : decode cX5_stays 18 = .ok (.aload_n 0, 1) := by decide +kernel
theorem dX5_stays_19 : decode cX5_stays 19 = .ok (.getfield 21, 3) := by decide +kernel
theorem dX5_stays_22 : decode cX5_stays 22 = .ok (.invokevirtual 140, 3) := by decide +kernel
theorem dX5_stays_25 : decode cX5_stays 25 = .ok (.aload_n 0, 1) := by decide +kernel
theorem dX5_stays_26 : decode cX5_stays 26 = .ok (.getfield 21, 3) := by decide +kernel
theorem dX5_stays_29 : decode cX5_stays 29 = .ok (.iload_n 1, 1) := by decide +kernel
theorem dX5_stays_30 : decode cX5_stays 30 = .ok (.invokevirtual 155, 3) := by decide +kernel
theorem dX5_stays_33 : decode cX5_stays 33 = .ok (.aload_n 0, 1) := by decide +kernel
theorem dX5_stays_34 : decode cX5_stays 34 = .ok (.getfield 21, 3) := by decide +kernel
theorem dX5_stays_37 : decode cX5_stays 37 = .ok (.invokevirtual 158, 3) := by decide +kernel
theorem dX5_stays_40 : decode cX5_stays 40 = .ok (.ifCond .eq 7, 3) := by decide +kernel
theorem dX5_stays_43 : decode cX5_stays 43 = .ok (.iconst 1, 1) := by decide +kernel
theorem dX5_stays_44 : decode cX5_stays 44 = .ok (.goto 4, 3) := by decide +kernel
theorem dX5_stays_47 : decode cX5_stays 47 = .ok (.iconst 0, 1) := by decide +kernel
theorem dX5_stays_48 : decode cX5_stays 48 = .ok (.ireturn, 1) := by decide +kernel
set_option maxRecDepth 20000 in
theorem ggX5_safe_X5_outside : GoodIn wsX5_safe wsX5_outside := goodIn_r _ [5] (by decide +kernel) (by decide +kernel)
set_option maxRecDepth 20000 in
theorem gX5_safe_X5_outside : GoodIn wsX5_safe (va_wsS RX5 64 yX5_outside wsX5_outside) := goodIn_app (goodIn_of _ (by decide +kernel)) ggX5_safe_X5_outside
set_option maxRecDepth 20000 in
theorem ggX5_safe_X5_refuse : GoodIn wsX5_safe wsX5_refuse := goodIn_r _ [9, 10, 110, 111, 112, 113, 114, 115, 116, 117] (by decide +kernel) (by decide +kernel)
set_option maxRecDepth 20000 in
theorem gX5_safe_X5_refuse : GoodIn wsX5_safe (wsV RX5 49 RX5 yX5_refuse wsX5_refuse) := goodIn_app (goodIn_of _ (by decide +kernel)) ggX5_safe_X5_refuse
set_option maxRecDepth 20000 in
theorem ggX5_safe_X2_begin : GoodIn wsX5_safe wsX2_begin := goodIn_r _ [15, 16, 17, 18, 19, 20, 21, 22, 23, 24, 25, 26, 27, 28, 29, 30, 31, 32, 33, 34, 35, 36, 37, 38, 39, 40, 41, 42, 43, 14, 44, 45, 46, 47, 48, 49, 50, 4, 51, 52, 53, 54, 55, 56, 57, 58, 59, 60, 61, 118, 119, 120, 121, 122, 123, 124, 125, 126, 127, 128, 129, 130, 131, 132, 133, 134, 135, 136, 137, 138, 139, 140] (by decide +kernel) (by decide +kernel)
set_option maxRecDepth 20000 in
theorem gX5_safe_X2_begin : GoodIn wsX5_safe (wsV RX5 140 RX2 yX2_begin wsX2_begin) := goodIn_app (goodIn_of _ (by decide +kernel)) ggX5_safe_X2_begin
set_option maxRecDepth 20000 in
theorem ggX5_safe_X2_chooseTakers : GoodIn wsX5_safe wsX2_chooseTakers := goodIn_r _ [65, 66, 25, 67, 68, 69, 70, 71, 72, 73, 74, 75, 76, 77, 78, 79, 80, 81, 82, 83, 84, 85, 118, 119, 120, 121, 122, 123, 124, 125, 126, 127, 128, 141, 142, 143] (by decide +kernel) (by decide +kernel)
set_option maxRecDepth 20000 in
theorem gX5_safe_X2_chooseTakers : GoodIn wsX5_safe (wsV RX5 161 RX2 yX2_chooseTakers wsX2_chooseTakers) := goodIn_app (goodIn_of _ (by decide +kernel)) ggX5_safe_X2_chooseTakers
set_option maxRecDepth 20000 in
theorem ggX5_safe_X2_isSafe : GoodIn wsX5_safe wsX2_isSafe := goodIn_r _ [89, 66, 90, 91, 92, 14, 93, 94, 95, 96, 97, 98, 99, 100, 58, 25, 18, 28, 26, 24, 59, 60, 61, 101, 102, 103, 104, 16, 105, 47, 48, 49, 106, 107, 108, 70, 109, 76, 118, 119, 120, 121, 122, 123, 124, 125, 126, 127, 128, 141, 142, 143, 129, 130, 131, 132, 133, 134, 135, 136, 137, 138, 139, 140] (by decide +kernel) (by decide +kernel)
set_option maxRecDepth 20000 in
theorem gX5_safe_X2_isSafe : GoodIn wsX5_safe (wsV RX5 164 RX2 yX2_isSafe wsX2_isSafe) := goodIn_app (goodIn_of _ (by decide +kernel)) ggX5_safe_X2_isSafe
theorem dX5_safe_0 : decode cX5_safe 0 = .ok (.iload_n 1, 1) := by decide +kernel
theorem dX5_safe_1 : decode cX5_safe 1 = .ok (.iconst 0, 1) := by decide +kernel
theorem dX5_safe_2 : decode cX5_safe 2 = .ok (.bipush 8, 2) := by decide +kernel
theorem dX5_safe_4 : decode cX5_safe 4 = .ok (.invokestatic 64, 3) := by decide +kernel
theorem dX5_safe_7 : decode cX5_safe 7 = .ok (.istore_n 2, 1) := by decide +kernel
theorem dX5_safe_8 : decode cX5_safe 8 = .ok (.iload_n 2, 1) := by decide +kernel
theorem dX5_safe_9 : decode cX5_safe 9 = .ok (.ifCond .eq 9, 3) := by decide +kernel
theorem dX5_safe_12 : decode cX5_safe 12 = .ok (.aload_n 0, 1) := by decide +kernel
theorem dX5_safe_13 : decode cX5_safe 13 = .ok (.iload_n 2, 1) := by decide +kernel
theorem dX5_safe_14 : decode cX5_safe 14 = .ok (.invokevirtual 49, 3) := by decide +kernel
theorem dX5_safe_17 : decode cX5_safe 17 = .ok (.ireturn, 1) := by decide +kernel
theorem dX5_safe_18 : decode cX5_safe 18 = .ok (.aload_n 0, 1) := by decide +kernel
theorem dX5_safe_19 : decode cX5_safe 19 = .ok (.getfield 21, 3) := by decide +kernel
theorem dX5_safe_22 : decode cX5_safe 22 = .ok (.invokevirtual 140, 3) := by decide +kernel
theorem dX5_safe_25 : decode cX5_safe 25 = .ok (.aload_n 0, 1) := by decide +kernel
theorem dX5_safe_26 : decode cX5_safe 26 = .ok (.getfield 21, 3) := by decide +kernel
theorem dX5_safe_29 : decode cX5_safe 29 = .ok (.iload_n 1, 1) := by decide +kernel
theorem dX5_safe_30 : decode cX5_safe 30 = .ok (.invokevirtual 161, 3) := by decide +kernel
theorem dX5_safe_33 : decode cX5_safe 33 = .ok (.aload_n 0, 1) := by decide +kernel
theorem dX5_safe_34 : decode cX5_safe 34 = .ok (.getfield 21, 3) := by decide +kernel
theorem dX5_safe_37 : decode cX5_safe 37 = .ok (.invokevirtual 164, 3) := by decide +kernel
theorem dX5_safe_40 : decode cX5_safe 40 = .ok (.ifCond .eq 7, 3) := by decide +kernel
theorem dX5_safe_43 : decode cX5_safe 43 = .ok (.iconst 1, 1) := by decide +kernel
theorem dX5_safe_44 : decode cX5_safe 44 = .ok (.goto 4, 3) := by decide +kernel
theorem dX5_safe_47 : decode cX5_safe 47 = .ok (.iconst 0, 1) := by decide +kernel
theorem dX5_safe_48 : decode cX5_safe 48 = .ok (.ireturn, 1) := by decide +kernel
set_option maxRecDepth 20000 in
theorem ggX5_losers_X2_begin : GoodIn wsX5_losers wsX2_begin := goodIn_r _ [6, 7, 8, 9, 10, 11, 12, 13, 14, 15, 16, 17, 18, 19, 20, 21, 22, 23, 24, 25, 26, 27, 28, 29, 30, 31, 32, 33, 34, 5, 35, 36, 37, 38, 39, 40, 41, 42, 43, 44, 45, 46, 47, 48, 49, 50, 51, 52, 53, 88, 89, 90, 91, 92, 93, 94, 95, 96, 97, 98, 99, 100, 101, 102, 103, 104, 105, 106, 107, 108, 109, 110] (by decide +kernel) (by decide +kernel)
set_option maxRecDepth 20000 in
theorem gX5_losers_X2_begin : GoodIn wsX5_losers (wsV RX5 140 RX2 yX2_begin wsX2_begin) := goodIn_app (goodIn_of _ (by decide +kernel)) ggX5_losers_X2_begin
set_option maxRecDepth 20000 in
theorem ggX5_losers_X5_fewestWhoGo : GoodIn wsX5_losers wsX5_fewestWhoGo := goodIn_r _ [57, 58, 59, 1, 60, 61, 62, 63, 64, 65, 66, 67, 68, 69, 5, 70, 16, 71, 72, 73, 74, 50, 9, 19, 17, 15, 51, 52, 53, 75, 76, 77, 78, 7, 79, 38, 39, 40, 80, 81, 82, 83, 84, 85, 86, 87, 99, 100, 101, 102, 103, 104, 105, 106, 107, 88, 89, 90, 91, 92, 93, 94, 95, 96, 97, 98, 108, 109, 110] (by decide +kernel) (by decide +kernel)
