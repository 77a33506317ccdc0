theorem dX1_readFibonacci_55 : decode cX1_readFibonacci 55 = .ok (.istore_n 3, 1) := by decide +kernel
theorem dX1_readFibonacci_56 : decode cX1_readFibonacci 56 = .ok (.iinc 4 1, 3) := by decide +kernel
theorem dX1_readFibonacci_59 : decode cX1_readFibonacci 59 = .ok (.goto (-52), 3) := by decide +kernel
theorem dX1_readFibonacci_62 : decode cX1_readFibonacci 62 = .ok (.iload_n 3, 1) := by decide +kernel
theorem dX1_readFibonacci_63 : decode cX1_readFibonacci 63 = .ok (.iconst 1, 1) := by decide +kernel
theorem dX1_readFibonacci_64 : decode cX1_readFibonacci 64 = .ok (.if_icmp .ne 21, 3) := by decide +kernel
theorem dX1_readFibonacci_67 : decode cX1_readFibonacci 67 = .ok (.aload_n 0, 1) := by decide +kernel
theorem dX1_readFibonacci_68 : decode cX1_readFibonacci 68 = .ok (.getfield 12, 3) := by decide +kernel
theorem dX1_readFibonacci_71 : decode cX1_readFibonacci 71 = .ok (.invokevirtual 222, 3) := by decide +kernel
theorem dX1_readFibonacci_74 : decode cX1_readFibonacci 74 = .ok (.iconst 1, 1) := by decide +kernel
theorem dX1_readFibonacci_75 : decode cX1_readFibonacci 75 = .ok (.if_icmp .ne 10, 3) := by decide +kernel
theorem dX1_readFibonacci_78 : decode cX1_readFibonacci 78 = .ok (.lload_n 1, 1) := by decide +kernel
theorem dX1_readFibonacci_79 : decode cX1_readFibonacci 79 = .ok (.invokestatic 229, 3) := by decide +kernel
theorem dX1_readFibonacci_82 : decode cX1_readFibonacci 82 = .ok (.goto 6, 3) := by decide +kernel
theorem dX1_readFibonacci_85 : decode cX1_readFibonacci 85 = .ok (.ldc2_w 97, 3) := by decide +kernel
theorem dX1_readFibonacci_88 : decode cX1_readFibonacci 88 = .ok (.lreturn, 1) := by decide +kernel
set_option maxRecDepth 20000 in
theorem ggX1_readGolomb_X0_readOnesAndZero : GoodIn wsX1_readGolomb wsX0_readOnesAndZero := goodIn_r _ [7, 8, 9, 10, 6, 11, 12, 13, 14, 15, 16, 17, 18, 19, 20, 50, 51, 52, 53] (by decide +kernel) (by decide +kernel)
set_option maxRecDepth 20000 in
theorem gX1_readGolomb_X0_readOnesAndZero : GoodIn wsX1_readGolomb (wsV RX1 196 RX0 yX0_readOnesAndZero wsX0_readOnesAndZero) := goodIn_app (goodIn_of _ (by decide +kernel)) ggX1_readGolomb_X0_readOnesAndZero
set_option maxRecDepth 20000 in
theorem ggX1_readGolomb_X1_golombWidth : GoodIn wsX1_readGolomb wsX1_golombWidth := goodIn_r _ [24, 25, 26, 23, 27, 28, 29, 30, 31, 32, 33, 34, 35, 36] (by decide +kernel) (by decide +kernel)
set_option maxRecDepth 20000 in
theorem gX1_readGolomb_X1_golombWidth : GoodIn wsX1_readGolomb (va_wsS RX1 149 yX1_golombWidth wsX1_golombWidth) := goodIn_app (goodIn_of _ (by decide +kernel)) ggX1_readGolomb_X1_golombWidth
set_option maxRecDepth 20000 in
theorem ggX1_readGolomb_X1_golombShortRests : GoodIn wsX1_readGolomb wsX1_golombShortRests := goodIn_r _ [39] (by decide +kernel) (by decide +kernel)
set_option maxRecDepth 20000 in
theorem gX1_readGolomb_X1_golombShortRests : GoodIn wsX1_readGolomb (va_wsS RX1 152 yX1_golombShortRests wsX1_golombShortRests) := goodIn_app (goodIn_of _ (by decide +kernel)) ggX1_readGolomb_X1_golombShortRests
set_option maxRecDepth 20000 in
theorem ggX1_readGolomb_X0_readBits : GoodIn wsX1_readGolomb wsX0_readBits := goodIn_r _ [43, 44, 12, 13, 14, 15, 6, 16, 17, 18, 19, 20, 50, 51, 52, 53] (by decide +kernel) (by decide +kernel)
set_option maxRecDepth 20000 in
theorem gX1_readGolomb_X0_readBits : GoodIn wsX1_readGolomb (wsV RX1 225 RX0 yX0_readBits wsX0_readBits) := goodIn_app (goodIn_of _ (by decide +kernel)) ggX1_readGolomb_X0_readBits
set_option maxRecDepth 20000 in
theorem ggX1_readGolomb_X0_readBit : GoodIn wsX1_readGolomb wsX0_readBit := goodIn_r _ [11, 12, 13, 14, 15, 6, 16, 17, 18, 19, 20, 50, 51, 52, 53] (by decide +kernel) (by decide +kernel)
set_option maxRecDepth 20000 in
theorem gX1_readGolomb_X0_readBit : GoodIn wsX1_readGolomb (wsV RX1 222 RX0 yX0_readBit wsX0_readBit) := goodIn_app (goodIn_of _ (by decide +kernel)) ggX1_readGolomb_X0_readBit
theorem dX1_readGolomb_0 : decode cX1_readGolomb 0 = .ok (.aload_n 0, 1) := by decide +kernel
theorem dX1_readGolomb_1 : decode cX1_readGolomb 1 = .ok (.getfield 12, 3) := by decide +kernel
theorem dX1_readGolomb_4 : decode cX1_readGolomb 4 = .ok (.invokevirtual 196, 3) := by decide +kernel
theorem dX1_readGolomb_7 : decode cX1_readGolomb 7 = .ok (.i2l, 1) := by decide +kernel
theorem dX1_readGolomb_8 : decode cX1_readGolomb 8 = .ok (.lstore_n 2, 1) := by decide +kernel
theorem dX1_readGolomb_9 : decode cX1_readGolomb 9 = .ok (.iload_n 1, 1) := by decide +kernel
theorem dX1_readGolomb_10 : decode cX1_readGolomb 10 = .ok (.invokestatic 149, 3) := by decide +kernel
theorem dX1_readGolomb_13 : decode cX1_readGolomb 13 = .ok (.istore 4, 2) := by decide +kernel
theorem dX1_readGolomb_15 : decode cX1_readGolomb 15 = .ok (.iload_n 1, 1) := by decide +kernel
theorem dX1_readGolomb_16 : decode cX1_readGolomb 16 = .ok (.iload 4, 2) := by decide +kernel
theorem dX1_readGolomb_18 : decode cX1_readGolomb 18 = .ok (.invokestatic 152, 3) := by decide +kernel
theorem dX1_readGolomb_21 : decode cX1_readGolomb 21 = .ok (.lstore 5, 2) := by decide +kernel
theorem dX1_readGolomb_23 : decode cX1_readGolomb 23 = .ok (.iload 4, 2) := by decide +kernel
theorem dX1_readGolomb_25 : decode cX1_readGolomb 25 = .ok (.ifCond .ne 7, 3) := by decide +kernel
theorem dX1_readGolomb_28 : decode cX1_readGolomb 28 = .ok (.lload_n 2, 1) := by decide +kernel
theorem dX1_readGolomb_29 : decode cX1_readGolomb 29 = .ok (.lconst 1, 1) := by decide +kernel
theorem dX1_readGolomb_30 : decode cX1_readGolomb 30 = .ok (.ladd, 1) := by decide +kernel
theorem dX1_readGolomb_31 : decode cX1_readGolomb 31 = .ok (.lreturn, 1) := by decide +kernel
theorem dX1_readGolomb_32 : decode cX1_readGolomb 32 = .ok (.aload_n 0, 1) := by decide +kernel
theorem dX1_readGolomb_33 : decode cX1_readGolomb 33 = .ok (.getfield 12, 3) := by decide +kernel
theorem dX1_readGolomb_36 : decode cX1_readGolomb 36 = .ok (.lconst 0, 1) := by decide +kernel
theorem dX1_readGolomb_37 : decode cX1_readGolomb 37 = .ok (.iload 4, 2) := by decide +kernel
theorem dX1_readGolomb_39 : decode cX1_readGolomb 39 = .ok (.iconst 1, 1) := by decide +kernel
theorem dX1_readGolomb_40 : decode cX1_readGolomb 40 = .ok (.isub, 1) := by decide +kernel
theorem dX1_readGolomb_41 : decode cX1_readGolomb 41 = .ok (.invokevirtual 225, 3) := by decide +kernel
theorem dX1_readGolomb_44 : decode cX1_readGolomb 44 = .ok (.lstore 7, 2) := by decide +kernel
theorem dX1_readGolomb_46 : decode cX1_readGolomb 46 = .ok (.lload 7, 2) := by decide +kernel
theorem dX1_readGolomb_48 : decode cX1_readGolomb 48 = .ok (.lload 5, 2) := by decide +kernel
theorem dX1_readGolomb_50 : decode cX1_readGolomb 50 = .ok (.lcmp, 1) := by decide +kernel
theorem dX1_readGolomb_51 : decode cX1_readGolomb 51 = .ok (.ifCond .lt 23, 3) := by decide +kernel
theorem dX1_readGolomb_54 : decode cX1_readGolomb 54 = .ok (.ldc2_w 27, 3) := by decide +kernel
theorem dX1_readGolomb_57 : decode cX1_readGolomb 57 = .ok (.lload 7, 2) := by decide +kernel
theorem dX1_readGolomb_59 : decode cX1_readGolomb 59 = .ok (.lmul, 1) := by decide +kernel
theorem dX1_readGolomb_60 : decode cX1_readGolomb 60 = .ok (.aload_n 0, 1) := by decide +kernel
theorem dX1_readGolomb_61 : decode cX1_readGolomb 61 = .ok (.getfield 12, 3) := by decide +kernel
theorem dX1_readGolomb_64 : decode cX1_readGolomb 64 = .ok (.invokevirtual 222, 3) := by decide +kernel
theorem dX1_readGolomb_67 : decode cX1_readGolomb 67 = .ok (.i2l, 1) := by decide +kernel
theorem dX1_readGolomb_68 : decode cX1_readGolomb 68 = .ok (.ladd, 1) := by decide +kernel
theorem dX1_readGolomb_69 : decode cX1_readGolomb 69 = .ok (.lload 5, 2) := by decide +kernel
theorem dX1_readGolomb_71 : decode cX1_readGolomb 71 = .ok (.lsub, 1) := by decide +kernel
theorem dX1_readGolomb_72 : decode cX1_readGolomb 72 = .ok (.lstore 7, 2) := by decide +kernel
theorem dX1_readGolomb_74 : decode cX1_readGolomb 74 = .ok (.lload_n 2, 1) := by decide +kernel
theorem dX1_readGolomb_75 : decode cX1_readGolomb 75 = .ok (.iload_n 1, 1) := by decide +kernel
theorem dX1_readGolomb_76 : decode cX1_readGolomb 76 = .ok (.i2l, 1) := by decide +kernel
theorem dX1_readGolomb_77 : decode cX1_readGolomb 77 = .ok (.lmul, 1) := by decide +kernel
theorem dX1_readGolomb_78 : decode cX1_readGolomb 78 = .ok (.lload 7, 2) := by decide +kernel
theorem dX1_readGolomb_80 : decode cX1_readGolomb 80 = .ok (.ladd, 1) := by decide +kernel
theorem dX1_readGolomb_81 : decode cX1_readGolomb 81 = .ok (.lconst 1, 1) := by decide +kernel
theorem dX1_readGolomb_82 : decode cX1_readGolomb 82 = .ok (.ladd, 1) := by decide +kernel
theorem dX1_readGolomb_83 : decode cX1_readGolomb 83 = .ok (.lreturn, 1) := by decide +kernel
set_option maxRecDepth 20000 in
theorem ggX1_readExpGolomb_X1_readGamma : GoodIn wsX1_readExpGolomb wsX1_readGamma := goodIn_r _ [7, 2, 1, 8, 9, 10, 11, 12, 13, 14, 15, 16, 17, 18, 19, 20, 21, 22, 23, 24, 25, 26, 27, 28, 6, 29, 30, 31, 32, 33, 34, 35, 36, 37, 38] (by decide +kernel) (by decide +kernel)
set_option maxRecDepth 20000 in
theorem gX1_readExpGolomb_X1_readGamma : GoodIn wsX1_readExpGolomb (wsV RX1 199 RX1 yX1_readGamma wsX1_readGamma) := goodIn_app (goodIn_of _ (by decide +kernel)) ggX1_readExpGolomb_X1_readGamma
set_option maxRecDepth 20000 in
theorem ggX1_readExpGolomb_X0_readBits : GoodIn wsX1_readExpGolomb wsX0_readBits := goodIn_r _ [25, 26, 13, 14, 15, 16, 11, 17, 18, 19, 20, 21, 35, 36, 37, 38] (by decide +kernel) (by decide +kernel)
set_option maxRecDepth 20000 in
theorem gX1_readExpGolomb_X0_readBits : GoodIn wsX1_readExpGolomb (wsV RX1 225 RX0 yX0_readBits wsX0_readBits) := goodIn_app (goodIn_of _ (by decide +kernel)) ggX1_readExpGolomb_X0_readBits
theorem dX1_readExpGolomb_0 : decode cX1_readExpGolomb 0 = .ok (.aload_n 0, 1) := by decide +kernel
theorem dX1_readExpGolomb_1 : decode cX1_readExpGolomb 1 = .ok (.invokevirtual 199, 3) := by decide +kernel
theorem dX1_readExpGolomb_4 : decode cX1_readExpGolomb 4 = .ok (.lstore_n 2, 1) := by decide +kernel
theorem dX1_readExpGolomb_5 : decode cX1_readExpGolomb 5 = .ok (.lload_n 2, 1) := by decide +kernel
theorem dX1_readExpGolomb_6 : decode cX1_readExpGolomb 6 = .ok (.ldc2_w 97, 3) := by decide +kernel
theorem dX1_readExpGolomb_9 : decode cX1_readExpGolomb 9 = .ok (.lcmp, 1) := by decide +kernel
theorem dX1_readExpGolomb_10 : decode cX1_readExpGolomb 10 = .ok (.ifCond .eq 16, 3) := by decide +kernel
theorem dX1_readExpGolomb_13 : decode cX1_readExpGolomb 13 = .ok (.lload_n 2, 1) := by decide +kernel
theorem dX1_readExpGolomb_14 : decode cX1_readExpGolomb 14 = .ok (.lconst 1, 1) := by decide +kernel
theorem dX1_readExpGolomb_15 : decode cX1_readExpGolomb 15 = .ok (.lsub, 1) := by decide +kernel
theorem dX1_readExpGolomb_16 : decode cX1_readExpGolomb 16 = .ok (.bipush 62, 2) := by decide +kernel
theorem dX1_readExpGolomb_18 : decode cX1_readExpGolomb 18 = .ok (.iload_n 1, 1) := by decide +kernel
theorem dX1_readExpGolomb_19 : decode cX1_readExpGolomb 19 = .ok (.isub, 1) := by decide +kernel
theorem dX1_readExpGolomb_20 : decode cX1_readExpGolomb 20 = .ok (.lshr, 1) := by decide +kernel
theorem dX1_readExpGolomb_21 : decode cX1_readExpGolomb 21 = .ok (.lconst 0, 1) := by decide +kernel
theorem dX1_readExpGolomb_22 : decode cX1_readExpGolomb 22 = .ok (.lcmp, 1) := by decide +kernel
theorem dX1_readExpGolomb_23 : decode cX1_readExpGolomb 23 = .ok (.ifCond .eq 7, 3) := by decide +kernel
theorem dX1_readExpGolomb_26 : decode cX1_readExpGolomb 26 = .ok (.ldc2_w 97, 3) := by decide +kernel
theorem dX1_readExpGolomb_29 : decode cX1_readExpGolomb 29 = .ok (.lreturn, 1) := by decide +kernel
theorem dX1_readExpGolomb_30 : decode cX1_readExpGolomb 30 = .ok (.lload_n 2, 1) := by decide +kernel
theorem dX1_readExpGolomb_31 : decode cX1_readExpGolomb 31 = .ok (.lconst 1, 1) := by decide +kernel
theorem dX1_readExpGolomb_32 : decode cX1_readExpGolomb 32 = .ok (.lsub, 1) := by decide +kernel
theorem dX1_readExpGolomb_33 : decode cX1_readExpGolomb 33 = .ok (.iload_n 1, 1) := by decide +kernel
theorem dX1_readExpGolomb_34 : decode cX1_readExpGolomb 34 = .ok (.lshl, 1) := by decide +kernel
theorem dX1_readExpGolomb_35 : decode cX1_readExpGolomb 35 = .ok (.aload_n 0, 1) := by decide +kernel
theorem dX1_readExpGolomb_36 : decode cX1_readExpGolomb 36 = .ok (.getfield 12, 3) := by decide +kernel
theorem dX1_readExpGolomb_39 : decode cX1_readExpGolomb 39 = .ok (.lconst 0, 1) := by decide +kernel
theorem dX1_readExpGolomb_40 : decode cX1_readExpGolomb 40 = .ok (.iload_n 1, 1) := by decide +kernel
theorem dX1_readExpGolomb_41 : decode cX1_readExpGolomb 41 = .ok (.invokevirtual 225, 3) := by decide +kernel
theorem dX1_readExpGolomb_44 : decode cX1_readExpGolomb 44 = .ok (.ladd, 1) := by decide +kernel
theorem dX1_readExpGolomb_45 : decode cX1_readExpGolomb 45 = .ok (.lconst 1, 1) := by decide +kernel
theorem dX1_readExpGolomb_46 : decode cX1_readExpGolomb 46 = .ok (.ladd, 1) := by decide +kernel
theorem dX1_readExpGolomb_47 : decode cX1_readExpGolomb 47 = .ok (.lreturn, 1) := by decide +kernel
set_option maxRecDepth 20000 in
theorem ggX1_readGroups_X0_readBit : GoodIn wsX1_readGroups wsX0_readBit := goodIn_r _ [7, 8, 9, 10, 11, 6, 12, 13, 14, 15, 16, 26, 27, 28, 29] (by decide +kernel) (by decide +kernel)
set_option maxRecDepth 20000 in
theorem gX1_readGroups_X0_readBit : GoodIn wsX1_readGroups (wsV RX1 222 RX0 yX0_readBit wsX0_readBit) := goodIn_app (goodIn_of _ (by decide +kernel)) ggX1_readGroups_X0_readBit
set_option maxRecDepth 20000 in
theorem ggX1_readGroups_X0_readBits : GoodIn wsX1_readGroups wsX0_readBits := goodIn_r _ [20, 21, 8, 9, 10, 11, 6, 12, 13, 14, 15, 16, 26, 27, 28, 29] (by decide +kernel) (by decide +kernel)
set_option maxRecDepth 20000 in
theorem gX1_readGroups_X0_readBits : GoodIn wsX1_readGroups (wsV RX1 225 RX0 yX0_readBits wsX0_readBits) := goodIn_app (goodIn_of _ (by decide +kernel)) ggX1_readGroups_X0_readBits
theorem dX1_readGroups_0 : decode cX1_readGroups 0 = .ok (.lconst 0, 1) := by decide +kernel
theorem dX1_readGroups_1 : decode cX1_readGroups 1 = .ok (.lstore_n 2, 1) := by decide +kernel
theorem dX1_readGroups_2 : decode cX1_readGroups 2 = .ok (.iconst 0, 1) := by decide +kernel
theorem dX1_readGroups_3 : decode cX1_readGroups 3 = .ok (.istore 4, 2) := by decide +kernel
theorem dX1_readGroups_5 : decode cX1_readGroups 5 = .ok (.iload 4, 2) := by decide +kernel
theorem dX1_readGroups_7 : decode cX1_readGroups 7 = .ok (.bipush 62, 2) := by decide +kernel
theorem dX1_readGroups_9 : decode cX1_readGroups 9 = .ok (.if_icmp .ge 94, 3) := by decide +kernel
theorem dX1_readGroups_12 : decode cX1_readGroups 12 = .ok (.iload 4, 2) := by decide +kernel
theorem dX1_readGroups_14 : decode cX1_readGroups 14 = .ok (.iload_n 1, 1) := by decide +kernel
theorem dX1_readGroups_15 : decode cX1_readGroups 15 = .ok (.imul, 1) := by decide +kernel
theorem dX1_readGroups_16 : decode cX1_readGroups 16 = .ok (.istore 5, 2) := by decide +kernel
theorem dX1_readGroups_18 : decode cX1_readGroups 18 = .ok (.aload_n 0, 1) := by decide +kernel
theorem dX1_readGroups_19 : decode cX1_readGroups 19 = .ok (.getfield 12, 3) := by decide +kernel
theorem dX1_readGroups_22 : decode cX1_readGroups 22 = .ok (.invokevirtual 222, 3) := by decide +kernel
theorem dX1_readGroups_25 : decode cX1_readGroups 25 = .ok (.istore 6, 2) := by decide +kernel
theorem dX1_readGroups_27 : decode cX1_readGroups 27 = .ok (.aload_n 0, 1) := by decide +kernel
theorem dX1_readGroups_28 : decode cX1_readGroups 28 = .ok (.getfield 12, 3) := by decide +kernel
theorem dX1_readGroups_31 : decode cX1_readGroups 31 = .ok (.lconst 0, 1) := by decide +kernel
theorem dX1_readGroups_32 : decode cX1_readGroups 32 = .ok (.iload_n 1, 1) := by decide +kernel
theorem dX1_readGroups_33 : decode cX1_readGroups 33 = .ok (.invokevirtual 225, 3) := by decide +kernel
theorem dX1_readGroups_36 : decode cX1_readGroups 36 = .ok (.lstore 7, 2) := by decide +kernel
theorem dX1_readGroups_38 : decode cX1_readGroups 38 = .ok (.iload 5, 2) := by decide +kernel
theorem dX1_readGroups_40 : decode cX1_readGroups 40 = .ok (.bipush 62, 2) := by decide +kernel
theorem dX1_readGroups_42 : decode cX1_readGroups 42 = .ok (.if_icmp .ge 16, 3) := by decide +kernel
theorem dX1_readGroups_45 : decode cX1_readGroups 45 = .ok (.lload 7, 2) := by decide +kernel
theorem dX1_readGroups_47 : decode cX1_readGroups 47 = .ok (.bipush 62, 2) := by decide +kernel
theorem dX1_readGroups_49 : decode cX1_readGroups 49 = .ok (.iload 5, 2) := by decide +kernel
theorem dX1_readGroups_51 : decode cX1_readGroups 51 = .ok (.isub, 1) := by decide +kernel
theorem dX1_readGroups_52 : decode cX1_readGroups 52 = .ok (.lshr, 1) := by decide +kernel
theorem dX1_readGroups_53 : decode cX1_readGroups 53 = .ok (.lconst 0, 1) := by decide +kernel
theorem dX1_readGroups_54 : decode cX1_readGroups 54 = .ok (.lcmp, 1) := by decide +kernel
theorem dX1_readGroups_55 : decode cX1_readGroups 55 = .ok (.ifCond .eq 7, 3) := by decide +kernel
theorem dX1_readGroups_58 : decode cX1_readGroups 58 = .ok (.ldc2_w 97, 3) := by decide +kernel
theorem dX1_readGroups_61 : decode cX1_readGroups 61 = .ok (.lreturn, 1) := by decide +kernel
theorem dX1_readGroups_62 : decode cX1_readGroups 62 = .ok (.lload_n 2, 1) := by decide +kernel
theorem dX1_readGroups_63 : decode cX1_readGroups 63 = .ok (.lload 7, 2) := by decide +kernel
theorem dX1_readGroups_65 : decode cX1_readGroups 65 = .ok (.iload 5, 2) := by decide +kernel
theorem dX1_readGroups_67 : decode cX1_readGroups 67 = .ok (.lshl, 1) := by decide +kernel
theorem dX1_readGroups_68 : decode cX1_readGroups 68 = .ok (.lor, 1) := by decide +kernel
theorem dX1_readGroups_69 : decode cX1_readGroups 69 = .ok (.lstore_n 2, 1) := by decide +kernel
theorem dX1_readGroups_70 : decode cX1_readGroups 70 = .ok (.iload 6, 2) := by decide +kernel
theorem dX1_readGroups_72 : decode cX1_readGroups 72 = .ok (.ifCond .ne 25, 3) := by decide +kernel
theorem dX1_readGroups_75 : decode cX1_readGroups 75 = .ok (.lload 7, 2) := by decide +kernel
theorem dX1_readGroups_77 : decode cX1_readGroups 77 = .ok (.lconst 0, 1) := by decide +kernel
theorem dX1_readGroups_78 : decode cX1_readGroups 78 = .ok (.lcmp, 1) := by decide +kernel
theorem dX1_readGroups_79 : decode cX1_readGroups 79 = .ok (.ifCond .ne 14, 3) := by decide +kernel
theorem dX1_readGroups_82 : decode cX1_readGroups 82 = .ok (.iload 4, 2) := by decide +kernel
theorem dX1_readGroups_84 : decode cX1_readGroups 84 = .ok (.ifCond .le 9, 3) := by decide +kernel
theorem dX1_readGroups_87 : decode cX1_readGroups 87 = .ok (.ldc2_w 97, 3) := by decide +kernel
theorem dX1_readGroups_90 : decode cX1_readGroups 90 = .ok (.goto 6, 3) := by decide +kernel
theorem dX1_readGroups_93 : decode cX1_readGroups 93 = .ok (.lload_n 2, 1) := by decide +kernel
theorem dX1_readGroups_94 : decode cX1_readGroups 94 = .ok (.lconst 1, 1) := by decide +kernel
theorem dX1_readGroups_95 : decode cX1_readGroups 95 = .ok (.ladd, 1) := by decide +kernel
theorem dX1_readGroups_96 : decode cX1_readGroups 96 = .ok (.lreturn, 1) := by decide +kernel
theorem dX1_readGroups_97 : decode cX1_readGroups 97 = .ok (.iinc 4 1, 3) := by decide +kernel
theorem dX1_readGroups_100 : decode cX1_readGroups 100 = .ok (.goto (-95), 3) := by decide +kernel
theorem dX1_readGroups_103 : decode cX1_readGroups 103 = .ok (.ldc2_w 97, 3) := by decide +kernel
theorem dX1_readGroups_106 : decode cX1_readGroups 106 = .ok (.lreturn, 1) := by decide +kernel
theorem dX2_init_0 : decode cX2_init 0 = .ok (.aload_n 0, 1) := by decide +kernel
theorem dX2_init_1 : decode cX2_init 1 = .ok (.invokespecial 1, 3) := by decide +kernel
theorem dX2_init_4 : decode cX2_init 4 = .ok (.aload_n 0, 1) := by decide +kernel
theorem dX2_init_5 : decode cX2_init 5 = .ok (.sipush 4096, 3) := by decide +kernel
theorem dX2_init_8 : decode cX2_init 8 = .ok (.newarray .int, 2) := by decide +kernel
theorem dX2_init_10 : decode cX2_init 10 = .ok (.putfield 7, 3) := by decide +kernel
theorem dX2_init_13 : decode cX2_init 13 = .ok (.aload_n 0, 1) := by decide +kernel
theorem dX2_init_14 : decode cX2_init 14 = .ok (.bipush 100, 2) := by decide +kernel
theorem dX2_init_16 : decode cX2_init 16 = .ok (.newarray .long, 2) := by decide +kernel
theorem dX2_init_18 : decode cX2_init 18 = .ok (.putfield 13, 3) := by decide +kernel
theorem dX2_init_21 : decode cX2_init 21 = .ok (.aload_n 0, 1) := by decide +kernel
theorem dX2_init_22 : decode cX2_init 22 = .ok (.sipush 4200, 3) := by decide +kernel
theorem dX2_init_25 : decode cX2_init 25 = .ok (.newarray .int, 2) := by decide +kernel
theorem dX2_init_27 : decode cX2_init 27 = .ok (.putfield 17, 3) := by decide +kernel
theorem dX2_init_30 : decode cX2_init 30 = .ok (.aload_n 0, 1) := by decide +kernel
theorem dX2_init_31 : decode cX2_init 31 = .ok (.bipush 92, 2) := by decide +kernel
theorem dX2_init_33 : decode cX2_init 33 = .ok (.newarray .long, 2) := by decide +kernel
theorem dX2_init_35 : decode cX2_init 35 = .ok (.putfield 20, 3) := by decide +kernel
theorem dX2_init_38 : decode cX2_init 38 = .ok (.aload_n 0, 1) := by decide +kernel
theorem dX2_init_39 : decode cX2_init 39 = .ok (.getfield 20, 3) := by decide +kernel
theorem dX2_init_42 : decode cX2_init 42 = .ok (.iconst 0, 1) := by decide +kernel
theorem dX2_init_43 : decode cX2_init 43 = .ok (.lconst 1, 1) := by decide +kernel
theorem dX2_init_44 : decode cX2_init 44 = .ok (.lastore, 1) := by decide +kernel
theorem dX2_init_45 : decode cX2_init 45 = .ok (.aload_n 0, 1) := by decide +kernel
theorem dX2_init_46 : decode cX2_init 46 = .ok (.getfield 20, 3) := by decide +kernel
theorem dX2_init_49 : decode cX2_init 49 = .ok (.iconst 1, 1) := by decide +kernel
theorem dX2_init_50 : decode cX2_init 50 = .ok (.lconst 1, 1) := by decide +kernel
theorem dX2_init_51 : decode cX2_init 51 = .ok (.lastore, 1) := by decide +kernel
theorem dX2_init_52 : decode cX2_init 52 = .ok (.iconst 1, 1) := by decide +kernel
theorem dX2_init_53 : decode cX2_init 53 = .ok (.istore_n 1, 1) := by decide +kernel
theorem dX2_init_54 : decode cX2_init 54 = .ok (.iload_n 1, 1) := by decide +kernel
theorem dX2_init_55 : decode cX2_init 55 = .ok (.bipush 91, 2) := by decide +kernel
theorem dX2_init_57 : decode cX2_init 57 = .ok (.if_icmp .ge 43, 3) := by decide +kernel
theorem dX2_init_60 : decode cX2_init 60 = .ok (.aload_n 0, 1) := by decide +kernel
theorem dX2_init_61 : decode cX2_init 61 = .ok (.getfield 20, 3) := by decide +kernel
theorem dX2_init_64 : decode cX2_init 64 = .ok (.iload_n 1, 1) := by decide +kernel
theorem dX2_init_65 : decode cX2_init 65 = .ok (.iconst 1, 1) := by decide +kernel
theorem dX2_init_66 : decode cX2_init 66 = .ok (.iadd, 1) := by decide +kernel
theorem dX2_init_67 : decode cX2_init 67 = .ok (.iload_n 1, 1) := by decide +kernel
theorem dX2_init_68 : decode cX2_init 68 = .ok (.iconst 1, 1) := by decide +kernel
theorem dX2_init_69 : decode cX2_init 69 = .ok (.if_icmp .ne 9, 3) := by decide +kernel
theorem dX2_init_72 : decode cX2_init 72 = .ok (.ldc2_w 23, 3) := by decide +kernel
theorem dX2_init_75 : decode cX2_init 75 = .ok (.goto 18, 3) := by decide +kernel
theorem dX2_init_78 : decode cX2_init 78 = .ok (.aload_n 0, 1) := by decide +kernel
theorem dX2_init_79 : decode cX2_init 79 = .ok (.getfield 20, 3) := by decide +kernel
theorem dX2_init_82 : decode cX2_init 82 = .ok (.iload_n 1, 1) := by decide +kernel
theorem dX2_init_83 : decode cX2_init 83 = .ok (.laload, 1) := by decide +kernel
theorem dX2_init_84 : decode cX2_init 84 = .ok (.aload_n 0, 1) := by decide +kernel
theorem dX2_init_85 : decode cX2_init 85 = .ok (.getfield 20, 3) := by decide +kernel
theorem dX2_init_88 : decode cX2_init 88 = .ok (.iload_n 1, 1) := by decide +kernel
theorem dX2_init_89 : decode cX2_init 89 = .ok (.iconst 1, 1) := by decide +kernel
theorem dX2_init_90 : decode cX2_init 90 = .ok (.isub, 1) := by decide +kernel
theorem dX2_init_91 : decode cX2_init 91 = .ok (.laload, 1) := by decide +kernel
theorem dX2_init_92 : decode cX2_init 92 = .ok (.ladd, 1) := by decide +kernel
theorem dX2_init_93 : decode cX2_init 93 = .ok (.lastore, 1) := by decide +kernel
theorem dX2_init_94 : decode cX2_init 94 = .ok (.iinc 1 1, 3) := by decide +kernel
theorem dX2_init_97 : decode cX2_init 97 = .ok (.goto (-43), 3) := by decide +kernel
theorem dX2_init_100 : decode cX2_init 100 = .ok (.return_, 1) := by decide +kernel
theorem dX2_thrown_0 : decode cX2_thrown 0 = .ok (.aload_n 0, 1) := by decide +kernel
theorem dX2_thrown_1 : decode cX2_thrown 1 = .ok (.getfield 25, 3) := by decide +kernel
theorem dX2_thrown_4 : decode cX2_thrown 4 = .ok (.ireturn, 1) := by decide +kernel
theorem dX2_noKind_0 : decode cX2_noKind 0 = .ok (.iload_n 0, 1) := by decide +kernel
theorem dX2_noKind_1 : decode cX2_noKind 1 = .ok (.ifCond .lt 9, 3) := by decide +kernel
theorem dX2_noKind_4 : decode cX2_noKind 4 = .ok (.iload_n 0, 1) := by decide +kernel
theorem dX2_noKind_5 : decode cX2_noKind 5 = .ok (.bipush 7, 2) := by decide +kernel
theorem dX2_noKind_7 : decode cX2_noKind 7 = .ok (.if_icmp .le 5, 3) := by decide +kernel
theorem dX2_noKind_10 : decode cX2_noKind 10 = .ok (.iconst 1, 1) := by decide +kernel
theorem dX2_noKind_11 : decode cX2_noKind 11 = .ok (.ireturn, 1) := by decide +kernel
theorem dX2_noKind_12 : decode cX2_noKind 12 = .ok (.iload_n 0, 1) := by decide +kernel
theorem dX2_noKind_13 : decode cX2_noKind 13 = .ok (.iconst 5, 1) := by decide +kernel
theorem dX2_noKind_14 : decode cX2_noKind 14 = .ok (.if_icmp .ge 15, 3) := by decide +kernel
theorem dX2_noKind_17 : decode cX2_noKind 17 = .ok (.iload_n 1, 1) := by decide +kernel
theorem dX2_noKind_18 : decode cX2_noKind 18 = .ok (.ifCond .eq 7, 3) := by decide +kernel
theorem dX2_noKind_21 : decode cX2_noKind 21 = .ok (.iconst 1, 1) := by decide +kernel
theorem dX2_noKind_22 : decode cX2_noKind 22 = .ok (.goto 71, 3) := by decide +kernel
theorem dX2_noKind_25 : decode cX2_noKind 25 = .ok (.iconst 0, 1) := by decide +kernel
theorem dX2_noKind_26 : decode cX2_noKind 26 = .ok (.goto 67, 3) := by decide +kernel
theorem dX2_noKind_29 : decode cX2_noKind 29 = .ok (.iload_n 0, 1) := by decide +kernel
theorem dX2_noKind_30 : decode cX2_noKind 30 = .ok (.iconst 5, 1) := by decide +kernel
theorem dX2_noKind_31 : decode cX2_noKind 31 = .ok (.if_icmp .ne 22, 3) := by decide +kernel
theorem dX2_noKind_34 : decode cX2_noKind 34 = .ok (.iload_n 1, 1) := by decide +kernel
theorem dX2_noKind_35 : decode cX2_noKind 35 = .ok (.iconst 1, 1) := by decide +kernel
theorem dX2_noKind_36 : decode cX2_noKind 36 = .ok (.if_icmp .lt 9, 3) := by decide +kernel
theorem dX2_noKind_39 : decode cX2_noKind 39 = .ok (.iload_n 1, 1) := by decide +kernel
theorem dX2_noKind_40 : decode cX2_noKind 40 = .ok (.ldc 29, 2) := by decide +kernel
theorem dX2_noKind_42 : decode cX2_noKind 42 = .ok (.if_icmp .le 7, 3) := by decide +kernel
theorem dX2_noKind_45 : decode cX2_noKind 45 = .ok (.iconst 1, 1) := by decide +kernel
theorem dX2_noKind_46 : decode cX2_noKind 46 = .ok (.goto 47, 3) := by decide +kernel
theorem dX2_noKind_49 : decode cX2_noKind 49 = .ok (.iconst 0, 1) := by decide +kernel
theorem dX2_noKind_50 : decode cX2_noKind 50 = .ok (.goto 43, 3) := by decide +kernel
theorem dX2_noKind_53 : decode cX2_noKind 53 = .ok (.iload_n 0, 1) := by decide +kernel
theorem dX2_noKind_54 : decode cX2_noKind 54 = .ok (.bipush 6, 2) := by decide +kernel
theorem dX2_noKind_56 : decode cX2_noKind 56 = .ok (.if_icmp .ne 21, 3) := by decide +kernel
theorem dX2_noKind_59 : decode cX2_noKind 59 = .ok (.iload_n 1, 1) := by decide +kernel
theorem dX2_noKind_60 : decode cX2_noKind 60 = .ok (.ifCond .lt 9, 3) := by decide +kernel
theorem dX2_noKind_63 : decode cX2_noKind 63 = .ok (.iload_n 1, 1) := by decide +kernel
theorem dX2_noKind_64 : decode cX2_noKind 64 = .ok (.bipush 40, 2) := by decide +kernel
theorem dX2_noKind_66 : decode cX2_noKind 66 = .ok (.if_icmp .le 7, 3) := by decide +kernel
theorem dX2_noKind_69 : decode cX2_noKind 69 = .ok (.iconst 1, 1) := by decide +kernel
theorem dX2_noKind_70 : decode cX2_noKind 70 = .ok (.goto 23, 3) := by decide +kernel
theorem dX2_noKind_73 : decode cX2_noKind 73 = .ok (.iconst 0, 1) := by decide +kernel
theorem dX2_noKind_74 : decode cX2_noKind 74 = .ok (.goto 19, 3) := by decide +kernel
theorem dX2_noKind_77 : decode cX2_noKind 77 = .ok (.iload_n 1, 1) := by decide +kernel
theorem dX2_noKind_78 : decode cX2_noKind 78 = .ok (.iconst 1, 1) := by decide +kernel
theorem dX2_noKind_79 : decode cX2_noKind 79 = .ok (.if_icmp .lt 9, 3) := by decide +kernel
theorem dX2_noKind_82 : decode cX2_noKind 82 = .ok (.iload_n 1, 1) := by decide +kernel
theorem dX2_noKind_83 : decode cX2_noKind 83 = .ok (.bipush 16, 2) := by decide +kernel
theorem dX2_noKind_85 : decode cX2_noKind 85 = .ok (.if_icmp .le 7, 3) := by decide +kernel
theorem dX2_noKind_88 : decode cX2_noKind 88 = .ok (.iconst 1, 1) := by decide +kernel
theorem dX2_noKind_89 : decode cX2_noKind 89 = .ok (.goto 4, 3) := by decide +kernel
theorem dX2_noKind_92 : decode cX2_noKind 92 = .ok (.iconst 0, 1) := by decide +kernel
theorem dX2_noKind_93 : decode cX2_noKind 93 = .ok (.ireturn, 1) := by decide +kernel
theorem dX2_noNumber_0 : decode cX2_noNumber 0 = .ok (.lload_n 0, 1) := by decide +kernel
theorem dX2_noNumber_1 : decode cX2_noNumber 1 = .ok (.lconst 1, 1) := by decide +kernel
theorem dX2_noNumber_2 : decode cX2_noNumber 2 = .ok (.lcmp, 1) := by decide +kernel
theorem dX2_noNumber_3 : decode cX2_noNumber 3 = .ok (.ifCond .lt 11, 3) := by decide +kernel
theorem dX2_noNumber_6 : decode cX2_noNumber 6 = .ok (.lload_n 0, 1) := by decide +kernel
theorem dX2_noNumber_7 : decode cX2_noNumber 7 = .ok (.ldc2_w 30, 3) := by decide +kernel
theorem dX2_noNumber_10 : decode cX2_noNumber 10 = .ok (.lcmp, 1) := by decide +kernel
theorem dX2_noNumber_11 : decode cX2_noNumber 11 = .ok (.ifCond .le 7, 3) := by decide +kernel
theorem dX2_noNumber_14 : decode cX2_noNumber 14 = .ok (.iconst 1, 1) := by decide +kernel
theorem dX2_noNumber_15 : decode cX2_noNumber 15 = .ok (.goto 4, 3) := by decide +kernel
theorem dX2_noNumber_18 : decode cX2_noNumber 18 = .ok (.iconst 0, 1) := by decide +kernel
theorem dX2_noNumber_19 : decode cX2_noNumber 19 = .ok (.ireturn, 1) := by decide +kernel
theorem dX2_bitsOf_0 : decode cX2_bitsOf 0 = .ok (.iconst 0, 1) := by decide +kernel
theorem dX2_bitsOf_1 : decode cX2_bitsOf 1 = .ok (.istore_n 2, 1) := by decide +kernel
theorem dX2_bitsOf_2 : decode cX2_bitsOf 2 = .ok (.lload_n 0, 1) := by decide +kernel
theorem dX2_bitsOf_3 : decode cX2_bitsOf 3 = .ok (.lstore_n 3, 1) := by decide +kernel
theorem dX2_bitsOf_4 : decode cX2_bitsOf 4 = .ok (.lload_n 3, 1) := by decide +kernel
theorem dX2_bitsOf_5 : decode cX2_bitsOf 5 = .ok (.lconst 0, 1) := by decide +kernel
theorem dX2_bitsOf_6 : decode cX2_bitsOf 6 = .ok (.lcmp, 1) := by decide +kernel
theorem dX2_bitsOf_7 : decode cX2_bitsOf 7 = .ok (.ifCond .le 15, 3) := by decide +kernel
theorem dX2_bitsOf_10 : decode cX2_bitsOf 10 = .ok (.iinc 2 1, 3) := by decide +kernel
theorem dX2_bitsOf_13 : decode cX2_bitsOf 13 = .ok (.lload_n 3, 1) := by decide +kernel
theorem dX2_bitsOf_14 : decode cX2_bitsOf 14 = .ok (.ldc2_w 23, 3) := by decide +kernel
theorem dX2_bitsOf_17 : decode cX2_bitsOf 17 = .ok (.ldiv, 1) := by decide +kernel
theorem dX2_bitsOf_18 : decode cX2_bitsOf 18 = .ok (.lstore_n 3, 1) := by decide +kernel
theorem dX2_bitsOf_19 : decode cX2_bitsOf 19 = .ok (.goto (-15), 3) := by decide +kernel
theorem dX2_bitsOf_22 : decode cX2_bitsOf 22 = .ok (.iload_n 2, 1) := by decide +kernel
theorem dX2_bitsOf_23 : decode cX2_bitsOf 23 = .ok (.ireturn, 1) := by decide +kernel
theorem dX2_powerFor_0 : decode cX2_powerFor 0 = .ok (.iconst 0, 1) := by decide +kernel
theorem dX2_powerFor_1 : decode cX2_powerFor 1 = .ok (.istore_n 1, 1) := by decide +kernel
theorem dX2_powerFor_2 : decode cX2_powerFor 2 = .ok (.iconst 1, 1) := by decide +kernel
theorem dX2_powerFor_3 : decode cX2_powerFor 3 = .ok (.iload_n 1, 1) := by decide +kernel
theorem dX2_powerFor_4 : decode cX2_powerFor 4 = .ok (.ishl, 1) := by decide +kernel
theorem dX2_powerFor_5 : decode cX2_powerFor 5 = .ok (.iload_n 0, 1) := by decide +kernel
theorem dX2_powerFor_6 : decode cX2_powerFor 6 = .ok (.if_icmp .ge 9, 3) := by decide +kernel
theorem dX2_powerFor_9 : decode cX2_powerFor 9 = .ok (.iinc 1 1, 3) := by decide +kernel
theorem dX2_powerFor_12 : decode cX2_powerFor 12 = .ok (.goto (-10), 3) := by decide +kernel
theorem dX2_powerFor_15 : decode cX2_powerFor 15 = .ok (.iload_n 1, 1) := by decide +kernel
theorem dX2_powerFor_16 : decode cX2_powerFor 16 = .ok (.ireturn, 1) := by decide +kernel
set_option maxRecDepth 20000 in
theorem ggX2_byChain_X2_bitsOf : GoodIn wsX2_byChain wsX2_bitsOf := goodIn_r _ [4, 5] (by decide +kernel) (by decide +kernel)
set_option maxRecDepth 20000 in
theorem gX2_byChain_X2_bitsOf : GoodIn wsX2_byChain (va_wsS RX2 32 yX2_bitsOf wsX2_bitsOf) := goodIn_app (goodIn_of _ (by decide +kernel)) ggX2_byChain_X2_bitsOf
theorem dX2_byChain_0 : decode cX2_byChain 0 = .ok (.lconst 1, 1) := by decide +kernel
theorem dX2_byChain_1 : decode cX2_byChain 1 = .ok (.lstore_n 2, 1) := by decide +kernel
theorem dX2_byChain_2 : decode cX2_byChain 2 = .ok (.lload_n 0, 1) := by decide +kernel
theorem dX2_byChain_3 : decode cX2_byChain 3 = .ok (.lstore 4, 2) := by decide +kernel
theorem dX2_byChain_5 : decode cX2_byChain 5 = .ok (.lload 4, 2) := by decide +kernel
theorem dX2_byChain_7 : decode cX2_byChain 7 = .ok (.lconst 1, 1) := by decide +kernel
theorem dX2_byChain_8 : decode cX2_byChain 8 = .ok (.lcmp, 1) := by decide +kernel
theorem dX2_byChain_9 : decode cX2_byChain 9 = .ok (.ifCond .eq 26, 3) := by decide +kernel
theorem dX2_byChain_12 : decode cX2_byChain 12 = .ok (.lload 4, 2) := by decide +kernel
theorem dX2_byChain_14 : decode cX2_byChain 14 = .ok (.invokestatic 32, 3) := by decide +kernel
theorem dX2_byChain_17 : decode cX2_byChain 17 = .ok (.istore 6, 2) := by decide +kernel
theorem dX2_byChain_19 : decode cX2_byChain 19 = .ok (.lload_n 2, 1) := by decide +kernel
theorem dX2_byChain_20 : decode cX2_byChain 20 = .ok (.iload 6, 2) := by decide +kernel
theorem dX2_byChain_22 : decode cX2_byChain 22 = .ok (.i2l, 1) := by decide +kernel
theorem dX2_byChain_23 : decode cX2_byChain 23 = .ok (.ladd, 1) := by decide +kernel
theorem dX2_byChain_24 : decode cX2_byChain 24 = .ok (.lstore_n 2, 1) := by decide +kernel
theorem dX2_byChain_25 : decode cX2_byChain 25 = .ok (.iload 6, 2) := by decide +kernel
theorem dX2_byChain_27 : decode cX2_byChain 27 = .ok (.iconst 1, 1) := by decide +kernel
theorem dX2_byChain_28 : decode cX2_byChain 28 = .ok (.isub, 1) := by decide +kernel
theorem dX2_byChain_29 : decode cX2_byChain 29 = .ok (.i2l, 1) := by decide +kernel
theorem dX2_byChain_30 : decode cX2_byChain 30 = .ok (.lstore 4, 2) := by decide +kernel
theorem dX2_byChain_32 : decode cX2_byChain 32 = .ok (.goto (-27), 3) := by decide +kernel
theorem dX2_byChain_35 : decode cX2_byChain 35 = .ok (.lload_n 2, 1) := by decide +kernel
theorem dX2_byChain_36 : decode cX2_byChain 36 = .ok (.lreturn, 1) := by decide +kernel
theorem dX2_greatest_0 : decode cX2_greatest 0 = .ok (.iconst 1, 1) := by decide +kernel
theorem dX2_greatest_1 : decode cX2_greatest 1 = .ok (.istore_n 3, 1) := by decide +kernel
theorem dX2_greatest_2 : decode cX2_greatest 2 = .ok (.iload_n 3, 1) := by decide +kernel
theorem dX2_greatest_3 : decode cX2_greatest 3 = .ok (.bipush 90, 2) := by decide +kernel
theorem dX2_greatest_5 : decode cX2_greatest 5 = .ok (.if_icmp .ge 22, 3) := by decide +kernel
theorem dX2_greatest_8 : decode cX2_greatest 8 = .ok (.aload_n 0, 1) := by decide +kernel
theorem dX2_greatest_9 : decode cX2_greatest 9 = .ok (.getfield 20, 3) := by decide +kernel
theorem dX2_greatest_12 : decode cX2_greatest 12 = .ok (.iload_n 3, 1) := by decide +kernel
theorem dX2_greatest_13 : decode cX2_greatest 13 = .ok (.iconst 1, 1) := by decide +kernel
theorem dX2_greatest_14 : decode cX2_greatest 14 = .ok (.iadd, 1) := by decide +kernel
theorem dX2_greatest_15 : decode cX2_greatest 15 = .ok (.laload, 1) := by decide +kernel
theorem dX2_greatest_16 : decode cX2_greatest 16 = .ok (.lload_n 1, 1) := by decide +kernel
theorem dX2_greatest_17 : decode cX2_greatest 17 = .ok (.lcmp, 1) := by decide +kernel
theorem dX2_greatest_18 : decode cX2_greatest 18 = .ok (.ifCond .gt 9, 3) := by decide +kernel
theorem dX2_greatest_21 : decode cX2_greatest 21 = .ok (.iinc 3 1, 3) := by decide +kernel
theorem dX2_greatest_24 : decode cX2_greatest 24 = .ok (.goto (-22), 3) := by decide +kernel
theorem dX2_greatest_27 : decode cX2_greatest 27 = .ok (.iload_n 3, 1) := by decide +kernel
theorem dX2_greatest_28 : decode cX2_greatest 28 = .ok (.ireturn, 1) := by decide +kernel
set_option maxRecDepth 20000 in
theorem ggX2_lengthOf_X2_bitsOf : GoodIn wsX2_lengthOf wsX2_bitsOf := goodIn_r _ [5, 1] (by decide +kernel) (by decide +kernel)
set_option maxRecDepth 20000 in
theorem gX2_lengthOf_X2_bitsOf : GoodIn wsX2_lengthOf (va_wsS RX2 32 yX2_bitsOf wsX2_bitsOf) := goodIn_app (goodIn_of _ (by decide +kernel)) ggX2_lengthOf_X2_bitsOf
set_option maxRecDepth 20000 in
theorem ggX2_lengthOf_X2_byChain : GoodIn wsX2_lengthOf wsX2_byChain := goodIn_r _ [8, 2, 3, 4, 5, 1] (by decide +kernel) (by decide +kernel)
set_option maxRecDepth 20000 in
theorem gX2_lengthOf_X2_byChain : GoodIn wsX2_lengthOf (va_wsS RX2 36 yX2_byChain wsX2_byChain) := goodIn_app (goodIn_of _ (by decide +kernel)) ggX2_lengthOf_X2_byChain
set_option maxRecDepth 20000 in
theorem ggX2_lengthOf_X2_greatest : GoodIn wsX2_lengthOf wsX2_greatest := goodIn_r _ [12, 13, 17, 18, 19, 20, 21, 22, 23, 24, 25, 26, 27] (by decide +kernel) (by decide +kernel)
set_option maxRecDepth 20000 in
theorem gX2_lengthOf_X2_greatest : GoodIn wsX2_lengthOf (wsV RX2 40 RX2 yX2_greatest wsX2_greatest) := goodIn_app (goodIn_of _ (by decide +kernel)) ggX2_lengthOf_X2_greatest
set_option maxRecDepth 20000 in
theorem ggX2_lengthOf_X2_powerFor : GoodIn wsX2_lengthOf wsX2_powerFor := goodIn_r _ [16] (by decide +kernel) (by decide +kernel)
set_option maxRecDepth 20000 in
theorem gX2_lengthOf_X2_powerFor : GoodIn wsX2_lengthOf (va_wsS RX2 43 yX2_powerFor wsX2_powerFor) := goodIn_app (goodIn_of _ (by decide +kernel)) ggX2_lengthOf_X2_powerFor
theorem dX2_lengthOf_0 : decode cX2_lengthOf 0 = .ok (.lload_n 3, 1) := by decide +kernel
theorem dX2_lengthOf_1 : decode cX2_lengthOf 1 = .ok (.invokestatic 32, 3) := by decide +kernel
theorem dX2_lengthOf_4 : decode cX2_lengthOf 4 = .ok (.istore 5, 2) := by decide +kernel
theorem dX2_lengthOf_6 : decode cX2_lengthOf 6 = .ok (.iload_n 1, 1) := by decide +kernel
theorem dX2_lengthOf_7 : decode cX2_lengthOf 7 = .ok (.tableswitch 155 0 6 #[41, 43, 53, 73, 78, 87, 134], 41) := by decide +kernel
theorem dX2_lengthOf_48 : decode cX2_lengthOf 48 = .ok (.lload_n 3, 1) := by decide +kernel
theorem dX2_lengthOf_49 : decode cX2_lengthOf 49 = .ok (.lreturn, 1) := by decide +kernel
theorem dX2_lengthOf_50 : decode cX2_lengthOf 50 = .ok (.ldc2_w 23, 3) := by decide +kernel
theorem dX2_lengthOf_53 : decode cX2_lengthOf 53 = .ok (.iload 5, 2) := by decide +kernel
theorem dX2_lengthOf_55 : decode cX2_lengthOf 55 = .ok (.i2l, 1) := by decide +kernel
theorem dX2_lengthOf_56 : decode cX2_lengthOf 56 = .ok (.lmul, 1) := by decide +kernel
theorem dX2_lengthOf_57 : decode cX2_lengthOf 57 = .ok (.lconst 1, 1) := by decide +kernel
theorem dX2_lengthOf_58 : decode cX2_lengthOf 58 = .ok (.lsub, 1) := by decide +kernel
theorem dX2_lengthOf_59 : decode cX2_lengthOf 59 = .ok (.lreturn, 1) := by decide +kernel
theorem dX2_lengthOf_60 : decode cX2_lengthOf 60 = .ok (.ldc2_w 23, 3) := by decide +kernel
theorem dX2_lengthOf_63 : decode cX2_lengthOf 63 = .ok (.iload 5, 2) := by decide +kernel
theorem dX2_lengthOf_65 : decode cX2_lengthOf 65 = .ok (.i2l, 1) := by decide +kernel
theorem dX2_lengthOf_66 : decode cX2_lengthOf 66 = .ok (.invokestatic 32, 3) := by decide +kernel
theorem dX2_lengthOf_69 : decode cX2_lengthOf 69 = .ok (.i2l, 1) := by decide +kernel
theorem dX2_lengthOf_70 : decode cX2_lengthOf 70 = .ok (.lmul, 1) := by decide +kernel
theorem dX2_lengthOf_71 : decode cX2_lengthOf 71 = .ok (.lconst 1, 1) := by decide +kernel
theorem dX2_lengthOf_72 : decode cX2_lengthOf 72 = .ok (.lsub, 1) := by decide +kernel
theorem dX2_lengthOf_73 : decode cX2_lengthOf 73 = .ok (.iload 5, 2) := by decide +kernel
theorem dX2_lengthOf_75 : decode cX2_lengthOf 75 = .ok (.i2l, 1) := by decide +kernel
theorem dX2_lengthOf_76 : decode cX2_lengthOf 76 = .ok (.ladd, 1) := by decide +kernel
theorem dX2_lengthOf_77 : decode cX2_lengthOf 77 = .ok (.lconst 1, 1) := by decide +kernel
theorem dX2_lengthOf_78 : decode cX2_lengthOf 78 = .ok (.lsub, 1) := by decide +kernel
theorem dX2_lengthOf_79 : decode cX2_lengthOf 79 = .ok (.lreturn, 1) := by decide +kernel
theorem dX2_lengthOf_80 : decode cX2_lengthOf 80 = .ok (.lload_n 3, 1) := by decide +kernel
theorem dX2_lengthOf_81 : decode cX2_lengthOf 81 = .ok (.invokestatic 36, 3) := by decide +kernel
theorem dX2_lengthOf_84 : decode cX2_lengthOf 84 = .ok (.lreturn, 1) := by decide +kernel
theorem dX2_lengthOf_85 : decode cX2_lengthOf 85 = .ok (.aload_n 0, 1) := by decide +kernel
theorem dX2_lengthOf_86 : decode cX2_lengthOf 86 = .ok (.lload_n 3, 1) := by decide +kernel
theorem dX2_lengthOf_87 : decode cX2_lengthOf 87 = .ok (.invokevirtual 40, 3) := by decide +kernel
theorem dX2_lengthOf_90 : decode cX2_lengthOf 90 = .ok (.i2l, 1) := by decide +kernel
theorem dX2_lengthOf_91 : decode cX2_lengthOf 91 = .ok (.lconst 1, 1) := by decide +kernel
theorem dX2_lengthOf_92 : decode cX2_lengthOf 92 = .ok (.ladd, 1) := by decide +kernel
theorem dX2_lengthOf_93 : decode cX2_lengthOf 93 = .ok (.lreturn, 1) := by decide +kernel
theorem dX2_lengthOf_94 : decode cX2_lengthOf 94 = .ok (.lload_n 3, 1) := by decide +kernel
theorem dX2_lengthOf_95 : decode cX2_lengthOf 95 = .ok (.lconst 1, 1) := by decide +kernel
theorem dX2_lengthOf_96 : decode cX2_lengthOf 96 = .ok (.lsub, 1) := by decide +kernel
theorem dX2_lengthOf_97 : decode cX2_lengthOf 97 = .ok (.iload_n 2, 1) := by decide +kernel
theorem dX2_lengthOf_98 : decode cX2_lengthOf 98 = .ok (.i2l, 1) := by decide +kernel
theorem dX2_lengthOf_99 : decode cX2_lengthOf 99 = .ok (.lrem, 1) := by decide +kernel
theorem dX2_lengthOf_100 : decode cX2_lengthOf 100 = .ok (.lstore 6, 2) := by decide +kernel
theorem dX2_lengthOf_102 : decode cX2_lengthOf 102 = .ok (.iload_n 2, 1) := by decide +kernel
theorem dX2_lengthOf_103 : decode cX2_lengthOf 103 = .ok (.invokestatic 43, 3) := by decide +kernel
theorem dX2_lengthOf_106 : decode cX2_lengthOf 106 = .ok (.istore 8, 2) := by decide +kernel
theorem dX2_lengthOf_108 : decode cX2_lengthOf 108 = .ok (.lload_n 3, 1) := by decide +kernel
theorem dX2_lengthOf_109 : decode cX2_lengthOf 109 = .ok (.lconst 1, 1) := by decide +kernel
theorem dX2_lengthOf_110 : decode cX2_lengthOf 110 = .ok (.lsub, 1) := by decide +kernel
theorem dX2_lengthOf_111 : decode cX2_lengthOf 111 = .ok (.iload_n 2, 1) := by decide +kernel
theorem dX2_lengthOf_112 : decode cX2_lengthOf 112 = .ok (.i2l, 1) := by decide +kernel
theorem dX2_lengthOf_113 : decode cX2_lengthOf 113 = .ok (.ldiv, 1) := by decide +kernel
theorem dX2_lengthOf_114 : decode cX2_lengthOf 114 = .ok (.lconst 1, 1) := by decide +kernel
theorem dX2_lengthOf_115 : decode cX2_lengthOf 115 = .ok (.ladd, 1) := by decide +kernel
theorem dX2_lengthOf_116 : decode cX2_lengthOf 116 = .ok (.lload 6, 2) := by decide +kernel
theorem dX2_lengthOf_118 : decode cX2_lengthOf 118 = .ok (.lconst 1, 1) := by decide +kernel
theorem dX2_lengthOf_119 : decode cX2_lengthOf 119 = .ok (.iload 8, 2) := by decide +kernel
theorem dX2_lengthOf_121 : decode cX2_lengthOf 121 = .ok (.lshl, 1) := by decide +kernel
theorem dX2_lengthOf_122 : decode cX2_lengthOf 122 = .ok (.iload_n 2, 1) := by decide +kernel
theorem dX2_lengthOf_123 : decode cX2_lengthOf 123 = .ok (.i2l, 1) := by decide +kernel
theorem dX2_lengthOf_124 : decode cX2_lengthOf 124 = .ok (.lsub, 1) := by decide +kernel
theorem dX2_lengthOf_125 : decode cX2_lengthOf 125 = .ok (.lcmp, 1) := by decide +kernel
theorem dX2_lengthOf_126 : decode cX2_lengthOf 126 = .ok (.ifCond .ge 10, 3) := by decide +kernel
theorem dX2_lengthOf_129 : decode cX2_lengthOf 129 = .ok (.iload 8, 2) := by decide +kernel
theorem dX2_lengthOf_131 : decode cX2_lengthOf 131 = .ok (.iconst 1, 1) := by decide +kernel
theorem dX2_lengthOf_132 : decode cX2_lengthOf 132 = .ok (.isub, 1) := by decide +kernel
theorem dX2_lengthOf_133 : decode cX2_lengthOf 133 = .ok (.goto 5, 3) := by decide +kernel
theorem dX2_lengthOf_136 : decode cX2_lengthOf 136 = .ok (.iload 8, 2) := by decide +kernel
theorem dX2_lengthOf_138 : decode cX2_lengthOf 138 = .ok (.i2l, 1) := by decide +kernel
theorem dX2_lengthOf_139 : decode cX2_lengthOf 139 = .ok (.ladd, 1) := by decide +kernel
theorem dX2_lengthOf_140 : decode cX2_lengthOf 140 = .ok (.lreturn, 1) := by decide +kernel
theorem dX2_lengthOf_141 : decode cX2_lengthOf 141 = .ok (.ldc2_w 23, 3) := by decide +kernel
theorem dX2_lengthOf_144 : decode cX2_lengthOf 144 = .ok (.lload_n 3, 1) := by decide +kernel
theorem dX2_lengthOf_145 : decode cX2_lengthOf 145 = .ok (.lconst 1, 1) := by decide +kernel
theorem dX2_lengthOf_146 : decode cX2_lengthOf 146 = .ok (.lsub, 1) := by decide +kernel
theorem dX2_lengthOf_147 : decode cX2_lengthOf 147 = .ok (.iload_n 2, 1) := by decide +kernel
theorem dX2_lengthOf_148 : decode cX2_lengthOf 148 = .ok (.lshr, 1) := by decide +kernel
theorem dX2_lengthOf_149 : decode cX2_lengthOf 149 = .ok (.lconst 1, 1) := by decide +kernel
theorem dX2_lengthOf_150 : decode cX2_lengthOf 150 = .ok (.ladd, 1) := by decide +kernel
theorem dX2_lengthOf_151 : decode cX2_lengthOf 151 = .ok (.invokestatic 32, 3) := by decide +kernel
theorem dX2_lengthOf_154 : decode cX2_lengthOf 154 = .ok (.i2l, 1) := by decide +kernel
theorem dX2_lengthOf_155 : decode cX2_lengthOf 155 = .ok (.lmul, 1) := by decide +kernel
theorem dX2_lengthOf_156 : decode cX2_lengthOf 156 = .ok (.lconst 1, 1) := by decide +kernel
theorem dX2_lengthOf_157 : decode cX2_lengthOf 157 = .ok (.lsub, 1) := by decide +kernel
theorem dX2_lengthOf_158 : decode cX2_lengthOf 158 = .ok (.iload_n 2, 1) := by decide +kernel
theorem dX2_lengthOf_159 : decode cX2_lengthOf 159 = .ok (.i2l, 1) := by decide +kernel
theorem dX2_lengthOf_160 : decode cX2_lengthOf 160 = .ok (.ladd, 1) := by decide +kernel
theorem dX2_lengthOf_161 : decode cX2_lengthOf 161 = .ok (.lreturn, 1) := by decide +kernel
theorem dX2_lengthOf_162 : decode cX2_lengthOf 162 = .ok (.lload_n 3, 1) := by decide +kernel
theorem dX2_lengthOf_163 : decode cX2_lengthOf 163 = .ok (.lconst 1, 1) := by decide +kernel
theorem dX2_lengthOf_164 : decode cX2_lengthOf 164 = .ok (.lsub, 1) := by decide +kernel
theorem dX2_lengthOf_165 : decode cX2_lengthOf 165 = .ok (.invokestatic 32, 3) := by decide +kernel
theorem dX2_lengthOf_168 : decode cX2_lengthOf 168 = .ok (.iload_n 2, 1) := by decide +kernel
theorem dX2_lengthOf_169 : decode cX2_lengthOf 169 = .ok (.iadd, 1) := by decide +kernel
theorem dX2_lengthOf_170 : decode cX2_lengthOf 170 = .ok (.iconst 1, 1) := by decide +kernel
theorem dX2_lengthOf_171 : decode cX2_lengthOf 171 = .ok (.isub, 1) := by decide +kernel
theorem dX2_lengthOf_172 : decode cX2_lengthOf 172 = .ok (.iload_n 2, 1) := by decide +kernel
theorem dX2_lengthOf_173 : decode cX2_lengthOf 173 = .ok (.idiv, 1) := by decide +kernel
theorem dX2_lengthOf_174 : decode cX2_lengthOf 174 = .ok (.i2l, 1) := by decide +kernel
theorem dX2_lengthOf_175 : decode cX2_lengthOf 175 = .ok (.lstore 9, 2) := by decide +kernel
theorem dX2_lengthOf_177 : decode cX2_lengthOf 177 = .ok (.lload 9, 2) := by decide +kernel
theorem dX2_lengthOf_179 : decode cX2_lengthOf 179 = .ok (.lconst 1, 1) := by decide +kernel
theorem dX2_lengthOf_180 : decode cX2_lengthOf 180 = .ok (.lcmp, 1) := by decide +kernel
theorem dX2_lengthOf_181 : decode cX2_lengthOf 181 = .ok (.ifCond .ge 7, 3) := by decide +kernel
theorem dX2_lengthOf_184 : decode cX2_lengthOf 184 = .ok (.lconst 1, 1) := by decide +kernel
theorem dX2_lengthOf_185 : decode cX2_lengthOf 185 = .ok (.goto 5, 3) := by decide +kernel
theorem dX2_lengthOf_188 : decode cX2_lengthOf 188 = .ok (.lload 9, 2) := by decide +kernel
theorem dX2_lengthOf_190 : decode cX2_lengthOf 190 = .ok (.iload_n 2, 1) := by decide +kernel
theorem dX2_lengthOf_191 : decode cX2_lengthOf 191 = .ok (.iconst 1, 1) := by decide +kernel
theorem dX2_lengthOf_192 : decode cX2_lengthOf 192 = .ok (.iadd, 1) := by decide +kernel
theorem dX2_lengthOf_193 : decode cX2_lengthOf 193 = .ok (.i2l, 1) := by decide +kernel
theorem dX2_lengthOf_194 : decode cX2_lengthOf 194 = .ok (.lmul, 1) := by decide +kernel
theorem dX2_lengthOf_195 : decode cX2_lengthOf 195 = .ok (.lreturn, 1) := by decide +kernel
theorem dX2_bit_0 : decode cX2_bit 0 = .ok (.aload_n 0, 1) := by decide +kernel
theorem dX2_bit_1 : decode cX2_bit 1 = .ok (.getfield 17, 3) := by decide +kernel
theorem dX2_bit_4 : decode cX2_bit 4 = .ok (.aload_n 0, 1) := by decide +kernel
theorem dX2_bit_5 : decode cX2_bit 5 = .ok (.getfield 47, 3) := by decide +kernel
theorem dX2_bit_8 : decode cX2_bit 8 = .ok (.iload_n 1, 1) := by decide +kernel
theorem dX2_bit_9 : decode cX2_bit 9 = .ok (.iastore, 1) := by decide +kernel
theorem dX2_bit_10 : decode cX2_bit 10 = .ok (.aload_n 0, 1) := by decide +kernel
theorem dX2_bit_11 : decode cX2_bit 11 = .ok (.dup, 1) := by decide +kernel
theorem dX2_bit_12 : decode cX2_bit 12 = .ok (.getfield 47, 3) := by decide +kernel
theorem dX2_bit_15 : decode cX2_bit 15 = .ok (.iconst 1, 1) := by decide +kernel
theorem dX2_bit_16 : decode cX2_bit 16 = .ok (.iadd, 1) := by decide +kernel
theorem dX2_bit_17 : decode cX2_bit 17 = .ok (.putfield 47, 3) := by decide +kernel
theorem dX2_bit_20 : decode cX2_bit 20 = .ok (.return_, 1) := by decide +kernel
set_option maxRecDepth 20000 in
theorem ggX2_low_X2_bit : GoodIn wsX2_low wsX2_bit := goodIn_r _ [5, 6, 7, 8, 9, 10, 11, 12, 13, 14, 15, 16, 17, 18] (by decide +kernel) (by decide +kernel)
set_option maxRecDepth 20000 in
theorem gX2_low_X2_bit : GoodIn wsX2_low (wsV RX2 50 RX2 yX2_bit wsX2_bit) := goodIn_app (goodIn_of _ (by decide +kernel)) ggX2_low_X2_bit
theorem dX2_low_0 : decode cX2_low 0 = .ok (.iload_n 3, 1) := by decide +kernel
theorem dX2_low_1 : decode cX2_low 1 = .ok (.iconst 1, 1) := by decide +kernel
theorem dX2_low_2 : decode cX2_low 2 = .ok (.isub, 1) := by decide +kernel
theorem dX2_low_3 : decode cX2_low 3 = .ok (.istore 4, 2) := by decide +kernel
theorem dX2_low_5 : decode cX2_low 5 = .ok (.iload 4, 2) := by decide +kernel
theorem dX2_low_7 : decode cX2_low 7 = .ok (.ifCond .lt 20, 3) := by decide +kernel
theorem dX2_low_10 : decode cX2_low 10 = .ok (.aload_n 0, 1) := by decide +kernel
theorem dX2_low_11 : decode cX2_low 11 = .ok (.lload_n 1, 1) := by decide +kernel
theorem dX2_low_12 : decode cX2_low 12 = .ok (.iload 4, 2) := by decide +kernel
theorem dX2_low_14 : decode cX2_low 14 = .ok (.lshr, 1) := by decide +kernel
theorem dX2_low_15 : decode cX2_low 15 = .ok (.lconst 1, 1) := by decide +kernel
theorem dX2_low_16 : decode cX2_low 16 = .ok (.land, 1) := by decide +kernel
theorem dX2_low_17 : decode cX2_low 17 = .ok (.l2i, 1) := by decide +kernel
theorem dX2_low_18 : decode cX2_low 18 = .ok (.invokevirtual 50, 3) := by decide +kernel
theorem dX2_low_21 : decode cX2_low 21 = .ok (.iinc 4 (-1), 3) := by decide +kernel
theorem dX2_low_24 : decode cX2_low 24 = .ok (.goto (-19), 3) := by decide +kernel
theorem dX2_low_27 : decode cX2_low 27 = .ok (.return_, 1) := by decide +kernel
set_option maxRecDepth 20000 in
theorem ggX2_doubled_X2_bitsOf : GoodIn wsX2_doubled wsX2_bitsOf := goodIn_r _ [4, 5] (by decide +kernel) (by decide +kernel)
set_option maxRecDepth 20000 in
theorem gX2_doubled_X2_bitsOf : GoodIn wsX2_doubled (va_wsS RX2 32 yX2_bitsOf wsX2_bitsOf) := goodIn_app (goodIn_of _ (by decide +kernel)) ggX2_doubled_X2_bitsOf
set_option maxRecDepth 20000 in
theorem ggX2_doubled_X2_bit : GoodIn wsX2_doubled wsX2_bit := goodIn_r _ [9, 10, 11, 16, 17, 18, 19, 20, 21, 22, 23, 24, 25, 26] (by decide +kernel) (by decide +kernel)
set_option maxRecDepth 20000 in
theorem gX2_doubled_X2_bit : GoodIn wsX2_doubled (wsV RX2 50 RX2 yX2_bit wsX2_bit) := goodIn_app (goodIn_of _ (by decide +kernel)) ggX2_doubled_X2_bit
set_option maxRecDepth 20000 in
theorem ggX2_doubled_X2_low : GoodIn wsX2_doubled wsX2_low := goodIn_r _ [15, 6, 7, 8, 3, 9, 10, 11, 16, 17, 18, 19, 20, 21, 22, 23, 24, 25, 26] (by decide +kernel) (by decide +kernel)
set_option maxRecDepth 20000 in
theorem gX2_doubled_X2_low : GoodIn wsX2_doubled (wsV RX2 54 RX2 yX2_low wsX2_low) := goodIn_app (goodIn_of _ (by decide +kernel)) ggX2_doubled_X2_low
theorem dX2_doubled_0 : decode cX2_doubled 0 = .ok (.lload_n 1, 1) := by decide +kernel
theorem dX2_doubled_1 : decode cX2_doubled 1 = .ok (.invokestatic 32, 3) := by decide +kernel
theorem dX2_doubled_4 : decode cX2_doubled 4 = .ok (.istore_n 3, 1) := by decide +kernel
theorem dX2_doubled_5 : decode cX2_doubled 5 = .ok (.iconst 1, 1) := by decide +kernel
theorem dX2_doubled_6 : decode cX2_doubled 6 = .ok (.istore 4, 2) := by decide +kernel
theorem dX2_doubled_8 : decode cX2_doubled 8 = .ok (.iload 4, 2) := by decide +kernel
theorem dX2_doubled_10 : decode cX2_doubled 10 = .ok (.iload_n 3, 1) := by decide +kernel
theorem dX2_doubled_11 : decode cX2_doubled 11 = .ok (.if_icmp .ge 14, 3) := by decide +kernel
theorem dX2_doubled_14 : decode cX2_doubled 14 = .ok (.aload_n 0, 1) := by decide +kernel
theorem dX2_doubled_15 : decode cX2_doubled 15 = .ok (.iconst 0, 1) := by decide +kernel
theorem dX2_doubled_16 : decode cX2_doubled 16 = .ok (.invokevirtual 50, 3) := by decide +kernel
theorem dX2_doubled_19 : decode cX2_doubled 19 = .ok (.iinc 4 1, 3) := by decide +kernel
theorem dX2_doubled_22 : decode cX2_doubled 22 = .ok (.goto (-14), 3) := by decide +kernel
theorem dX2_doubled_25 : decode cX2_doubled 25 = .ok (.aload_n 0, 1) := by decide +kernel
theorem dX2_doubled_26 : decode cX2_doubled 26 = .ok (.lload_n 1, 1) := by decide +kernel
theorem dX2_doubled_27 : decode cX2_doubled 27 = .ok (.iload_n 3, 1) := by decide +kernel
theorem dX2_doubled_28 : decode cX2_doubled 28 = .ok (.invokevirtual 54, 3) := by decide +kernel
theorem dX2_doubled_31 : decode cX2_doubled 31 = .ok (.return_, 1) := by decide +kernel
set_option maxRecDepth 20000 in
theorem ggX2_ones_X2_bit : GoodIn wsX2_ones wsX2_bit := goodIn_r _ [5, 6, 7, 8, 9, 10, 11, 12, 13, 14, 15, 16, 17, 18] (by decide +kernel) (by decide +kernel)
set_option maxRecDepth 20000 in
theorem gX2_ones_X2_bit : GoodIn wsX2_ones (wsV RX2 50 RX2 yX2_bit wsX2_bit) := goodIn_app (goodIn_of _ (by decide +kernel)) ggX2_ones_X2_bit
theorem dX2_ones_0 : decode cX2_ones 0 = .ok (.lconst 0, 1) := by decide +kernel
theorem dX2_ones_1 : decode cX2_ones 1 = .ok (.lstore_n 3, 1) := by decide +kernel
theorem dX2_ones_2 : decode cX2_ones 2 = .ok (.lload_n 3, 1) := by decide +kernel
theorem dX2_ones_3 : decode cX2_ones 3 = .ok (.lload_n 1, 1) := by decide +kernel
theorem dX2_ones_4 : decode cX2_ones 4 = .ok (.lcmp, 1) := by decide +kernel
theorem dX2_ones_5 : decode cX2_ones 5 = .ok (.ifCond .ge 15, 3) := by decide +kernel
theorem dX2_ones_8 : decode cX2_ones 8 = .ok (.aload_n 0, 1) := by decide +kernel
theorem dX2_ones_9 : decode cX2_ones 9 = .ok (.iconst 1, 1) := by decide +kernel
theorem dX2_ones_10 : decode cX2_ones 10 = .ok (.invokevirtual 50, 3) := by decide +kernel
theorem dX2_ones_13 : decode cX2_ones 13 = .ok (.lload_n 3, 1) := by decide +kernel
theorem dX2_ones_14 : decode cX2_ones 14 = .ok (.lconst 1, 1) := by decide +kernel
theorem dX2_ones_15 : decode cX2_ones 15 = .ok (.ladd, 1) := by decide +kernel
theorem dX2_ones_16 : decode cX2_ones 16 = .ok (.lstore_n 3, 1) := by decide +kernel
theorem dX2_ones_17 : decode cX2_ones 17 = .ok (.goto (-15), 3) := by decide +kernel
theorem dX2_ones_20 : decode cX2_ones 20 = .ok (.aload_n 0, 1) := by decide +kernel
theorem dX2_ones_21 : decode cX2_ones 21 = .ok (.iconst 0, 1) := by decide +kernel
theorem dX2_ones_22 : decode cX2_ones 22 = .ok (.invokevirtual 50, 3) := by decide +kernel
theorem dX2_ones_25 : decode cX2_ones 25 = .ok (.return_, 1) := by decide +kernel
set_option maxRecDepth 20000 in
theorem ggX2_chain_X2_byChain : GoodIn wsX2_chain wsX2_byChain := goodIn_r _ [6, 7, 8, 5, 9, 10] (by decide +kernel) (by decide +kernel)
set_option maxRecDepth 20000 in
theorem gX2_chain_X2_byChain : GoodIn wsX2_chain (va_wsS RX2 36 yX2_byChain wsX2_byChain) := goodIn_app (goodIn_of _ (by decide +kernel)) ggX2_chain_X2_byChain
set_option maxRecDepth 20000 in
theorem ggX2_chain_X2_bitsOf : GoodIn wsX2_chain wsX2_bitsOf := goodIn_r _ [9, 10] (by decide +kernel) (by decide +kernel)
set_option maxRecDepth 20000 in
theorem gX2_chain_X2_bitsOf : GoodIn wsX2_chain (va_wsS RX2 32 yX2_bitsOf wsX2_bitsOf) := goodIn_app (goodIn_of _ (by decide +kernel)) ggX2_chain_X2_bitsOf
theorem dX2_chain_0 : decode cX2_chain 0 = .ok (.lload_n 1, 1) := by decide +kernel
theorem dX2_chain_1 : decode cX2_chain 1 = .ok (.invokestatic 36, 3) := by decide +kernel
theorem dX2_chain_4 : decode cX2_chain 4 = .ok (.l2i, 1) := by decide +kernel
theorem dX2_chain_5 : decode cX2_chain 5 = .ok (.istore_n 3, 1) := by decide +kernel
theorem dX2_chain_6 : decode cX2_chain 6 = .ok (.iload_n 3, 1) := by decide +kernel
theorem dX2_chain_7 : decode cX2_chain 7 = .ok (.iconst 1, 1) := by decide +kernel
theorem dX2_chain_8 : decode cX2_chain 8 = .ok (.isub, 1) := by decide +kernel
theorem dX2_chain_9 : decode cX2_chain 9 = .ok (.istore 4, 2) := by decide +kernel
theorem dX2_chain_11 : decode cX2_chain 11 = .ok (.aload_n 0, 1) := by decide +kernel
theorem dX2_chain_12 : decode cX2_chain 12 = .ok (.getfield 17, 3) := by decide +kernel
theorem dX2_chain_15 : decode cX2_chain 15 = .ok (.iload 4, 2) := by decide +kernel
theorem dX2_chain_17 : decode cX2_chain 17 = .ok (.iconst 0, 1) := by decide +kernel
theorem dX2_chain_18 : decode cX2_chain 18 = .ok (.iastore, 1) := by decide +kernel
theorem dX2_chain_19 : decode cX2_chain 19 = .ok (.lload_n 1, 1) := by decide +kernel
theorem dX2_chain_20 : decode cX2_chain 20 = .ok (.lstore 5, 2) := by decide +kernel
theorem dX2_chain_22 : decode cX2_chain 22 = .ok (.lload 5, 2) := by decide +kernel
theorem dX2_chain_24 : decode cX2_chain 24 = .ok (.lconst 1, 1) := by decide +kernel
theorem dX2_chain_25 : decode cX2_chain 25 = .ok (.lcmp, 1) := by decide +kernel
theorem dX2_chain_26 : decode cX2_chain 26 = .ok (.ifCond .eq 54, 3) := by decide +kernel
theorem dX2_chain_29 : decode cX2_chain 29 = .ok (.lload 5, 2) := by decide +kernel
theorem dX2_chain_31 : decode cX2_chain 31 = .ok (.invokestatic 32, 3) := by decide +kernel
theorem dX2_chain_34 : decode cX2_chain 34 = .ok (.istore 7, 2) := by decide +kernel
theorem dX2_chain_36 : decode cX2_chain 36 = .ok (.iconst 0, 1) := by decide +kernel
theorem dX2_chain_37 : decode cX2_chain 37 = .ok (.istore 8, 2) := by decide +kernel
theorem dX2_chain_39 : decode cX2_chain 39 = .ok (.iload 8, 2) := by decide +kernel
theorem dX2_chain_41 : decode cX2_chain 41 = .ok (.iload 7, 2) := by decide +kernel
theorem dX2_chain_43 : decode cX2_chain 43 = .ok (.if_icmp .ge 27, 3) := by decide +kernel
theorem dX2_chain_46 : decode cX2_chain 46 = .ok (.iinc 4 (-1), 3) := by decide +kernel
theorem dX2_chain_49 : decode cX2_chain 49 = .ok (.aload_n 0, 1) := by decide +kernel
theorem dX2_chain_50 : decode cX2_chain 50 = .ok (.getfield 17, 3) := by decide +kernel
theorem dX2_chain_53 : decode cX2_chain 53 = .ok (.iload 4, 2) := by decide +kernel
theorem dX2_chain_55 : decode cX2_chain 55 = .ok (.lload 5, 2) := by decide +kernel
theorem dX2_chain_57 : decode cX2_chain 57 = .ok (.iload 8, 2) := by decide +kernel
theorem dX2_chain_59 : decode cX2_chain 59 = .ok (.lshr, 1) := by decide +kernel
theorem dX2_chain_60 : decode cX2_chain 60 = .ok (.lconst 1, 1) := by decide +kernel
theorem dX2_chain_61 : decode cX2_chain 61 = .ok (.land, 1) := by decide +kernel
theorem dX2_chain_62 : decode cX2_chain 62 = .ok (.l2i, 1) := by decide +kernel
theorem dX2_chain_63 : decode cX2_chain 63 = .ok (.iastore, 1) := by decide +kernel
theorem dX2_chain_64 : decode cX2_chain 64 = .ok (.iinc 8 1, 3) := by decide +kernel
theorem dX2_chain_67 : decode cX2_chain 67 = .ok (.goto (-28), 3) := by decide +kernel
theorem dX2_chain_70 : decode cX2_chain 70 = .ok (.iload 7, 2) := by decide +kernel
theorem dX2_chain_72 : decode cX2_chain 72 = .ok (.iconst 1, 1) := by decide +kernel
theorem dX2_chain_73 : decode cX2_chain 73 = .ok (.isub, 1) := by decide +kernel
theorem dX2_chain_74 : decode cX2_chain 74 = .ok (.i2l, 1) := by decide +kernel
theorem dX2_chain_75 : decode cX2_chain 75 = .ok (.lstore 5, 2) := by decide +kernel
theorem dX2_chain_77 : decode cX2_chain 77 = .ok (.goto (-55), 3) := by decide +kernel
theorem dX2_chain_80 : decode cX2_chain 80 = .ok (.aload_n 0, 1) := by decide +kernel
theorem dX2_chain_81 : decode cX2_chain 81 = .ok (.iload_n 3, 1) := by decide +kernel
theorem dX2_chain_82 : decode cX2_chain 82 = .ok (.putfield 47, 3) := by decide +kernel
theorem dX2_chain_85 : decode cX2_chain 85 = .ok (.return_, 1) := by decide +kernel
set_option maxRecDepth 20000 in
theorem ggX2_bySums_X2_greatest : GoodIn wsX2_bySums wsX2_greatest := goodIn_r _ [8, 1, 9, 10, 11, 12, 13, 14, 15, 16, 17, 18, 19] (by decide +kernel) (by decide +kernel)
set_option maxRecDepth 20000 in
theorem gX2_bySums_X2_greatest : GoodIn wsX2_bySums (wsV RX2 40 RX2 yX2_greatest wsX2_greatest) := goodIn_app (goodIn_of _ (by decide +kernel)) ggX2_bySums_X2_greatest
theorem dX2_bySums_0 : decode cX2_bySums 0 = .ok (.aload_n 0, 1) := by decide +kernel
theorem dX2_bySums_1 : decode cX2_bySums 1 = .ok (.lload_n 1, 1) := by decide +kernel
theorem dX2_bySums_2 : decode cX2_bySums 2 = .ok (.invokevirtual 40, 3) := by decide +kernel
theorem dX2_bySums_5 : decode cX2_bySums 5 = .ok (.istore_n 3, 1) := by decide +kernel
theorem dX2_bySums_6 : decode cX2_bySums 6 = .ok (.lload_n 1, 1) := by decide +kernel
theorem dX2_bySums_7 : decode cX2_bySums 7 = .ok (.lstore 4, 2) := by decide +kernel
theorem dX2_bySums_9 : decode cX2_bySums 9 = .ok (.iload_n 3, 1) := by decide +kernel
theorem dX2_bySums_10 : decode cX2_bySums 10 = .ok (.istore 6, 2) := by decide +kernel
theorem dX2_bySums_12 : decode cX2_bySums 12 = .ok (.iload 6, 2) := by decide +kernel
theorem dX2_bySums_14 : decode cX2_bySums 14 = .ok (.ifCond .le 70, 3) := by decide +kernel
theorem dX2_bySums_17 : decode cX2_bySums 17 = .ok (.aload_n 0, 1) := by decide +kernel
theorem dX2_bySums_18 : decode cX2_bySums 18 = .ok (.getfield 20, 3) := by decide +kernel
theorem dX2_bySums_21 : decode cX2_bySums 21 = .ok (.iload 6, 2) := by decide +kernel
theorem dX2_bySums_23 : decode cX2_bySums 23 = .ok (.laload, 1) := by decide +kernel
theorem dX2_bySums_24 : decode cX2_bySums 24 = .ok (.lload 4, 2) := by decide +kernel
theorem dX2_bySums_26 : decode cX2_bySums 26 = .ok (.lcmp, 1) := by decide +kernel
theorem dX2_bySums_27 : decode cX2_bySums 27 = .ok (.ifCond .gt 7, 3) := by decide +kernel
theorem dX2_bySums_30 : decode cX2_bySums 30 = .ok (.iconst 1, 1) := by decide +kernel
theorem dX2_bySums_31 : decode cX2_bySums 31 = .ok (.goto 4, 3) := by decide +kernel
theorem dX2_bySums_34 : decode cX2_bySums 34 = .ok (.iconst 0, 1) := by decide +kernel
theorem dX2_bySums_35 : decode cX2_bySums 35 = .ok (.istore 7, 2) := by decide +kernel
theorem dX2_bySums_37 : decode cX2_bySums 37 = .ok (.aload_n 0, 1) := by decide +kernel
theorem dX2_bySums_38 : decode cX2_bySums 38 = .ok (.getfield 17, 3) := by decide +kernel
theorem dX2_bySums_41 : decode cX2_bySums 41 = .ok (.iload 6, 2) := by decide +kernel
theorem dX2_bySums_43 : decode cX2_bySums 43 = .ok (.iconst 1, 1) := by decide +kernel
theorem dX2_bySums_44 : decode cX2_bySums 44 = .ok (.isub, 1) := by decide +kernel
theorem dX2_bySums_45 : decode cX2_bySums 45 = .ok (.iload 7, 2) := by decide +kernel
theorem dX2_bySums_47 : decode cX2_bySums 47 = .ok (.ifCond .eq 7, 3) := by decide +kernel
theorem dX2_bySums_50 : decode cX2_bySums 50 = .ok (.iconst 1, 1) := by decide +kernel
theorem dX2_bySums_51 : decode cX2_bySums 51 = .ok (.goto 4, 3) := by decide +kernel
theorem dX2_bySums_54 : decode cX2_bySums 54 = .ok (.iconst 0, 1) := by decide +kernel
theorem dX2_bySums_55 : decode cX2_bySums 55 = .ok (.iastore, 1) := by decide +kernel
theorem dX2_bySums_56 : decode cX2_bySums 56 = .ok (.iload 7, 2) := by decide +kernel
theorem dX2_bySums_58 : decode cX2_bySums 58 = .ok (.ifCond .eq 16, 3) := by decide +kernel
theorem dX2_bySums_61 : decode cX2_bySums 61 = .ok (.lload 4, 2) := by decide +kernel
theorem dX2_bySums_63 : decode cX2_bySums 63 = .ok (.aload_n 0, 1) := by decide +kernel
theorem dX2_bySums_64 : decode cX2_bySums 64 = .ok (.getfield 20, 3) := by decide +kernel
theorem dX2_bySums_67 : decode cX2_bySums 67 = .ok (.iload 6, 2) := by decide +kernel
theorem dX2_bySums_69 : decode cX2_bySums 69 = .ok (.laload, 1) := by decide +kernel
theorem dX2_bySums_70 : decode cX2_bySums 70 = .ok (.lsub, 1) := by decide +kernel
theorem dX2_bySums_71 : decode cX2_bySums 71 = .ok (.goto 5, 3) := by decide +kernel
theorem dX2_bySums_74 : decode cX2_bySums 74 = .ok (.lload 4, 2) := by decide +kernel
theorem dX2_bySums_76 : decode cX2_bySums 76 = .ok (.lstore 4, 2) := by decide +kernel
theorem dX2_bySums_78 : decode cX2_bySums 78 = .ok (.iinc 6 (-1), 3) := by decide +kernel
theorem dX2_bySums_81 : decode cX2_bySums 81 = .ok (.goto (-69), 3) := by decide +kernel
theorem dX2_bySums_84 : decode cX2_bySums 84 = .ok (.aload_n 0, 1) := by decide +kernel
theorem dX2_bySums_85 : decode cX2_bySums 85 = .ok (.getfield 17, 3) := by decide +kernel
theorem dX2_bySums_88 : decode cX2_bySums 88 = .ok (.iload_n 3, 1) := by decide +kernel
theorem dX2_bySums_89 : decode cX2_bySums 89 = .ok (.iconst 1, 1) := by decide +kernel
theorem dX2_bySums_90 : decode cX2_bySums 90 = .ok (.iastore, 1) := by decide +kernel
theorem dX2_bySums_91 : decode cX2_bySums 91 = .ok (.aload_n 0, 1) := by decide +kernel
theorem dX2_bySums_92 : decode cX2_bySums 92 = .ok (.iload_n 3, 1) := by decide +kernel
theorem dX2_bySums_93 : decode cX2_bySums 93 = .ok (.iconst 1, 1) := by decide +kernel
theorem dX2_bySums_94 : decode cX2_bySums 94 = .ok (.iadd, 1) := by decide +kernel
theorem dX2_bySums_95 : decode cX2_bySums 95 = .ok (.putfield 47, 3) := by decide +kernel
theorem dX2_bySums_98 : decode cX2_bySums 98 = .ok (.return_, 1) := by decide +kernel
set_option maxRecDepth 20000 in
theorem ggX2_byQuotient_X2_ones : GoodIn wsX2_byQuotient wsX2_ones := goodIn_r _ [5, 6, 7, 8, 4, 9, 10, 11, 19, 20, 21, 22, 23, 24, 25, 26, 27, 28, 29] (by decide +kernel) (by decide +kernel)
set_option maxRecDepth 20000 in
theorem gX2_byQuotient_X2_ones : GoodIn wsX2_byQuotient (wsV RX2 58 RX2 yX2_ones wsX2_ones) := goodIn_app (goodIn_of _ (by decide +kernel)) ggX2_byQuotient_X2_ones
set_option maxRecDepth 20000 in
theorem ggX2_byQuotient_X2_powerFor : GoodIn wsX2_byQuotient wsX2_powerFor := goodIn_r _ [14] (by decide +kernel) (by decide +kernel)
set_option maxRecDepth 20000 in
theorem gX2_byQuotient_X2_powerFor : GoodIn wsX2_byQuotient (va_wsS RX2 43 yX2_powerFor wsX2_powerFor) := goodIn_app (goodIn_of _ (by decide +kernel)) ggX2_byQuotient_X2_powerFor
set_option maxRecDepth 20000 in
theorem ggX2_byQuotient_X2_low : GoodIn wsX2_byQuotient wsX2_low := goodIn_r _ [18, 6, 7, 8, 4, 9, 10, 11, 19, 20, 21, 22, 23, 24, 25, 26, 27, 28, 29] (by decide +kernel) (by decide +kernel)
set_option maxRecDepth 20000 in
theorem gX2_byQuotient_X2_low : GoodIn wsX2_byQuotient (wsV RX2 54 RX2 yX2_low wsX2_low) := goodIn_app (goodIn_of _ (by decide +kernel)) ggX2_byQuotient_X2_low
theorem dX2_byQuotient_0 : decode cX2_byQuotient 0 = .ok (.aload_n 0, 1) := by decide +kernel
theorem dX2_byQuotient_1 : decode cX2_byQuotient 1 = .ok (.lload_n 2, 1) := by decide +kernel
theorem dX2_byQuotient_2 : decode cX2_byQuotient 2 = .ok (.lconst 1, 1) := by decide +kernel
theorem dX2_byQuotient_3 : decode cX2_byQuotient 3 = .ok (.lsub, 1) := by decide +kernel
theorem dX2_byQuotient_4 : decode cX2_byQuotient 4 = .ok (.iload_n 1, 1) := by decide +kernel
theorem dX2_byQuotient_5 : decode cX2_byQuotient 5 = .ok (.i2l, 1) := by decide +kernel
theorem dX2_byQuotient_6 : decode cX2_byQuotient 6 = .ok (.ldiv, 1) := by decide +kernel
theorem dX2_byQuotient_7 : decode cX2_byQuotient 7 = .ok (.invokevirtual 58, 3) := by decide +kernel
theorem dX2_byQuotient_10 : decode cX2_byQuotient 10 = .ok (.lload_n 2, 1) := by decide +kernel
theorem dX2_byQuotient_11 : decode cX2_byQuotient 11 = .ok (.lconst 1, 1) := by decide +kernel
theorem dX2_byQuotient_12 : decode cX2_byQuotient 12 = .ok (.lsub, 1) := by decide +kernel
theorem dX2_byQuotient_13 : decode cX2_byQuotient 13 = .ok (.iload_n 1, 1) := by decide +kernel
theorem dX2_byQuotient_14 : decode cX2_byQuotient 14 = .ok (.i2l, 1) := by decide +kernel
theorem dX2_byQuotient_15 : decode cX2_byQuotient 15 = .ok (.lrem, 1) := by decide +kernel
theorem dX2_byQuotient_16 : decode cX2_byQuotient 16 = .ok (.lstore 4, 2) := by decide +kernel
theorem dX2_byQuotient_18 : decode cX2_byQuotient 18 = .ok (.iload_n 1, 1) := by decide +kernel
theorem dX2_byQuotient_19 : decode cX2_byQuotient 19 = .ok (.invokestatic 43, 3) := by decide +kernel
theorem dX2_byQuotient_22 : decode cX2_byQuotient 22 = .ok (.istore 6, 2) := by decide +kernel
theorem dX2_byQuotient_24 : decode cX2_byQuotient 24 = .ok (.lconst 1, 1) := by decide +kernel
theorem dX2_byQuotient_25 : decode cX2_byQuotient 25 = .ok (.iload 6, 2) := by decide +kernel
theorem dX2_byQuotient_27 : decode cX2_byQuotient 27 = .ok (.lshl, 1) := by decide +kernel
theorem dX2_byQuotient_28 : decode cX2_byQuotient 28 = .ok (.iload_n 1, 1) := by decide +kernel
theorem dX2_byQuotient_29 : decode cX2_byQuotient 29 = .ok (.i2l, 1) := by decide +kernel
theorem dX2_byQuotient_30 : decode cX2_byQuotient 30 = .ok (.lsub, 1) := by decide +kernel
theorem dX2_byQuotient_31 : decode cX2_byQuotient 31 = .ok (.lstore 7, 2) := by decide +kernel
theorem dX2_byQuotient_33 : decode cX2_byQuotient 33 = .ok (.lload 4, 2) := by decide +kernel
theorem dX2_byQuotient_35 : decode cX2_byQuotient 35 = .ok (.lload 7, 2) := by decide +kernel
theorem dX2_byQuotient_37 : decode cX2_byQuotient 37 = .ok (.lcmp, 1) := by decide +kernel
theorem dX2_byQuotient_38 : decode cX2_byQuotient 38 = .ok (.ifCond .ge 16, 3) := by decide +kernel
theorem dX2_byQuotient_41 : decode cX2_byQuotient 41 = .ok (.aload_n 0, 1) := by decide +kernel
theorem dX2_byQuotient_42 : decode cX2_byQuotient 42 = .ok (.lload 4, 2) := by decide +kernel
theorem dX2_byQuotient_44 : decode cX2_byQuotient 44 = .ok (.iload 6, 2) := by decide +kernel
theorem dX2_byQuotient_46 : decode cX2_byQuotient 46 = .ok (.iconst 1, 1) := by decide +kernel
theorem dX2_byQuotient_47 : decode cX2_byQuotient 47 = .ok (.isub, 1) := by decide +kernel
theorem dX2_byQuotient_48 : decode cX2_byQuotient 48 = .ok (.invokevirtual 54, 3) := by decide +kernel
theorem dX2_byQuotient_51 : decode cX2_byQuotient 51 = .ok (.goto 14, 3) := by decide +kernel
theorem dX2_byQuotient_54 : decode cX2_byQuotient 54 = .ok (.aload_n 0, 1) := by decide +kernel
theorem dX2_byQuotient_55 : decode cX2_byQuotient 55 = .ok (.lload 4, 2) := by decide +kernel
theorem dX2_byQuotient_57 : decode cX2_byQuotient 57 = .ok (.lload 7, 2) := by decide +kernel
theorem dX2_byQuotient_59 : decode cX2_byQuotient 59 = .ok (.ladd, 1) := by decide +kernel
theorem dX2_byQuotient_60 : decode cX2_byQuotient 60 = .ok (.iload 6, 2) := by decide +kernel
theorem dX2_byQuotient_62 : decode cX2_byQuotient 62 = .ok (.invokevirtual 54, 3) := by decide +kernel
theorem dX2_byQuotient_65 : decode cX2_byQuotient 65 = .ok (.return_, 1) := by decide +kernel
set_option maxRecDepth 20000 in
theorem ggX2_byGroups_X2_bit : GoodIn wsX2_byGroups wsX2_bit := goodIn_r _ [5, 6, 7, 12, 13, 14, 15, 16, 17, 18, 19, 20, 21, 22] (by decide +kernel) (by decide +kernel)
set_option maxRecDepth 20000 in
theorem gX2_byGroups_X2_bit : GoodIn wsX2_byGroups (wsV RX2 50 RX2 yX2_bit wsX2_bit) := goodIn_app (goodIn_of _ (by decide +kernel)) ggX2_byGroups_X2_bit
set_option maxRecDepth 20000 in
theorem ggX2_byGroups_X2_low : GoodIn wsX2_byGroups wsX2_low := goodIn_r _ [11, 1, 2, 3, 4, 5, 6, 7, 12, 13, 14, 15, 16, 17, 18, 19, 20, 21, 22] (by decide +kernel) (by decide +kernel)
set_option maxRecDepth 20000 in
theorem gX2_byGroups_X2_low : GoodIn wsX2_byGroups (wsV RX2 54 RX2 yX2_low wsX2_low) := goodIn_app (goodIn_of _ (by decide +kernel)) ggX2_byGroups_X2_low
theorem dX2_byGroups_0 : decode cX2_byGroups 0 = .ok (.lload_n 2, 1) := by decide +kernel
theorem dX2_byGroups_1 : decode cX2_byGroups 1 = .ok (.lconst 1, 1) := by decide +kernel
theorem dX2_byGroups_2 : decode cX2_byGroups 2 = .ok (.lsub, 1) := by decide +kernel
theorem dX2_byGroups_3 : decode cX2_byGroups 3 = .ok (.lstore 4, 2) := by decide +kernel
theorem dX2_byGroups_5 : decode cX2_byGroups 5 = .ok (.iconst 1, 1) := by decide +kernel
theorem dX2_byGroups_6 : decode cX2_byGroups 6 = .ok (.istore 6, 2) := by decide +kernel
theorem dX2_byGroups_8 : decode cX2_byGroups 8 = .ok (.iload 6, 2) := by decide +kernel
theorem dX2_byGroups_10 : decode cX2_byGroups 10 = .ok (.ifCond .eq 51, 3) := by decide +kernel
theorem dX2_byGroups_13 : decode cX2_byGroups 13 = .ok (.lload 4, 2) := by decide +kernel
theorem dX2_byGroups_15 : decode cX2_byGroups 15 = .ok (.iload_n 1, 1) := by decide +kernel
theorem dX2_byGroups_16 : decode cX2_byGroups 16 = .ok (.lshr, 1) := by decide +kernel
theorem dX2_byGroups_17 : decode cX2_byGroups 17 = .ok (.lstore 7, 2) := by decide +kernel
theorem dX2_byGroups_19 : decode cX2_byGroups 19 = .ok (.lload 7, 2) := by decide +kernel
theorem dX2_byGroups_21 : decode cX2_byGroups 21 = .ok (.lconst 0, 1) := by decide +kernel
theorem dX2_byGroups_22 : decode cX2_byGroups 22 = .ok (.lcmp, 1) := by decide +kernel
theorem dX2_byGroups_23 : decode cX2_byGroups 23 = .ok (.ifCond .eq 7, 3) := by decide +kernel
theorem dX2_byGroups_26 : decode cX2_byGroups 26 = .ok (.iconst 1, 1) := by decide +kernel
theorem dX2_byGroups_27 : decode cX2_byGroups 27 = .ok (.goto 4, 3) := by decide +kernel
theorem dX2_byGroups_30 : decode cX2_byGroups 30 = .ok (.iconst 0, 1) := by decide +kernel
theorem dX2_byGroups_31 : decode cX2_byGroups 31 = .ok (.istore 6, 2) := by decide +kernel
theorem dX2_byGroups_33 : decode cX2_byGroups 33 = .ok (.aload_n 0, 1) := by decide +kernel
theorem dX2_byGroups_34 : decode cX2_byGroups 34 = .ok (.iload 6, 2) := by decide +kernel
theorem dX2_byGroups_36 : decode cX2_byGroups 36 = .ok (.ifCond .eq 7, 3) := by decide +kernel
theorem dX2_byGroups_39 : decode cX2_byGroups 39 = .ok (.iconst 1, 1) := by decide +kernel
theorem dX2_byGroups_40 : decode cX2_byGroups 40 = .ok (.goto 4, 3) := by decide +kernel
theorem dX2_byGroups_43 : decode cX2_byGroups 43 = .ok (.iconst 0, 1) := by decide +kernel
theorem dX2_byGroups_44 : decode cX2_byGroups 44 = .ok (.invokevirtual 50, 3) := by decide +kernel
theorem dX2_byGroups_47 : decode cX2_byGroups 47 = .ok (.aload_n 0, 1) := by decide +kernel
theorem dX2_byGroups_48 : decode cX2_byGroups 48 = .ok (.lload 4, 2) := by decide +kernel
theorem dX2_byGroups_50 : decode cX2_byGroups 50 = .ok (.iload_n 1, 1) := by decide +kernel
theorem dX2_byGroups_51 : decode cX2_byGroups 51 = .ok (.invokevirtual 54, 3) := by decide +kernel
theorem dX2_byGroups_54 : decode cX2_byGroups 54 = .ok (.lload 7, 2) := by decide +kernel
theorem dX2_byGroups_56 : decode cX2_byGroups 56 = .ok (.lstore 4, 2) := by decide +kernel
theorem dX2_byGroups_58 : decode cX2_byGroups 58 = .ok (.goto (-50), 3) := by decide +kernel
theorem dX2_byGroups_61 : decode cX2_byGroups 61 = .ok (.return_, 1) := by decide +kernel
set_option maxRecDepth 20000 in
theorem ggX2_make_X2_ones : GoodIn wsX2_make wsX2_ones := goodIn_r _ [6, 7, 8, 9, 5, 10, 11, 1, 51, 52, 53, 54, 55, 56, 57, 58, 59, 60, 61] (by decide +kernel) (by decide +kernel)
set_option maxRecDepth 20000 in
theorem gX2_make_X2_ones : GoodIn wsX2_make (wsV RX2 58 RX2 yX2_ones wsX2_ones) := goodIn_app (goodIn_of _ (by decide +kernel)) ggX2_make_X2_ones
set_option maxRecDepth 20000 in
theorem ggX2_make_X2_doubled : GoodIn wsX2_make wsX2_doubled := goodIn_r _ [15, 16, 17, 5, 18, 19, 7, 8, 9, 10, 11, 1, 20, 21, 22, 23, 51, 52, 53, 54, 55, 56, 57, 58, 59, 60, 61] (by decide +kernel) (by decide +kernel)
set_option maxRecDepth 20000 in
theorem gX2_make_X2_doubled : GoodIn wsX2_make (wsV RX2 62 RX2 yX2_doubled wsX2_doubled) := goodIn_app (goodIn_of _ (by decide +kernel)) ggX2_make_X2_doubled
set_option maxRecDepth 20000 in
theorem ggX2_make_X2_bitsOf : GoodIn wsX2_make wsX2_bitsOf := goodIn_r _ [18, 19] (by decide +kernel) (by decide +kernel)
set_option maxRecDepth 20000 in
theorem gX2_make_X2_bitsOf : GoodIn wsX2_make (va_wsS RX2 32 yX2_bitsOf wsX2_bitsOf) := goodIn_app (goodIn_of _ (by decide +kernel)) ggX2_make_X2_bitsOf
set_option maxRecDepth 20000 in
theorem ggX2_make_X2_low : GoodIn wsX2_make wsX2_low := goodIn_r _ [23, 7, 8, 9, 5, 10, 11, 1, 51, 52, 53, 54, 55, 56, 57, 58, 59, 60, 61] (by decide +kernel) (by decide +kernel)
set_option maxRecDepth 20000 in
theorem gX2_make_X2_low : GoodIn wsX2_make (wsV RX2 54 RX2 yX2_low wsX2_low) := goodIn_app (goodIn_of _ (by decide +kernel)) ggX2_make_X2_low
set_option maxRecDepth 20000 in
theorem ggX2_make_X2_chain : GoodIn wsX2_make wsX2_chain := goodIn_r _ [27, 11, 1, 28, 29, 5, 30, 16, 17, 18, 19, 51, 52, 53, 54, 55, 56, 57, 58, 59, 60, 61] (by decide +kernel) (by decide +kernel)
set_option maxRecDepth 20000 in
theorem gX2_make_X2_chain : GoodIn wsX2_make (wsV RX2 65 RX2 yX2_chain wsX2_chain) := goodIn_app (goodIn_of _ (by decide +kernel)) ggX2_make_X2_chain
set_option maxRecDepth 20000 in
theorem ggX2_make_X2_bySums : GoodIn wsX2_make wsX2_bySums := goodIn_r _ [34, 35, 11, 1, 36, 37, 38, 5, 39, 51, 52, 53, 54, 55, 56, 57, 58, 59, 60, 61] (by decide +kernel) (by decide +kernel)
set_option maxRecDepth 20000 in
theorem gX2_make_X2_bySums : GoodIn wsX2_make (wsV RX2 68 RX2 yX2_bySums wsX2_bySums) := goodIn_app (goodIn_of _ (by decide +kernel)) ggX2_make_X2_bySums
set_option maxRecDepth 20000 in
theorem ggX2_make_X2_byQuotient : GoodIn wsX2_make wsX2_byQuotient := goodIn_r _ [43, 2, 3, 4, 5, 6, 7, 8, 9, 10, 11, 1, 44, 45, 46, 20, 21, 22, 23, 51, 52, 53, 54, 55, 56, 57, 58, 59, 60, 61] (by decide +kernel) (by decide +kernel)
set_option maxRecDepth 20000 in
theorem gX2_make_X2_byQuotient : GoodIn wsX2_make (wsV RX2 71 RX2 yX2_byQuotient wsX2_byQuotient) := goodIn_app (goodIn_of _ (by decide +kernel)) ggX2_make_X2_byQuotient
set_option maxRecDepth 20000 in
theorem ggX2_make_X2_byGroups : GoodIn wsX2_make wsX2_byGroups := goodIn_r _ [50, 7, 8, 9, 5, 10, 11, 1, 20, 21, 22, 23, 51, 52, 53, 54, 55, 56, 57, 58, 59, 60, 61] (by decide +kernel) (by decide +kernel)
set_option maxRecDepth 20000 in
theorem gX2_make_X2_byGroups : GoodIn wsX2_make (wsV RX2 75 RX2 yX2_byGroups wsX2_byGroups) := goodIn_app (goodIn_of _ (by decide +kernel)) ggX2_make_X2_byGroups
theorem dX2_make_0 : decode cX2_make 0 = .ok (.aload_n 0, 1) := by decide +kernel
theorem dX2_make_1 : decode cX2_make 1 = .ok (.iconst 0, 1) := by decide +kernel
theorem dX2_make_2 : decode cX2_make 2 = .ok (.putfield 47, 3) := by decide +kernel
theorem dX2_make_5 : decode cX2_make 5 = .ok (.iload_n 1, 1) := by decide +kernel
theorem dX2_make_6 : decode cX2_make 6 = .ok (.tableswitch 130 0 6 #[42, 52, 60, 83, 91, 99, 108], 42) := by decide +kernel
theorem dX2_make_48 : decode cX2_make 48 = .ok (.aload_n 0, 1) := by decide +kernel
theorem dX2_make_49 : decode cX2_make 49 = .ok (.lload_n 3, 1) := by decide +kernel
theorem dX2_make_50 : decode cX2_make 50 = .ok (.lconst 1, 1) := by decide +kernel
theorem dX2_make_51 : decode cX2_make 51 = .ok (.lsub, 1) := by decide +kernel
theorem dX2_make_52 : decode cX2_make 52 = .ok (.invokevirtual 58, 3) := by decide +kernel
theorem dX2_make_55 : decode cX2_make 55 = .ok (.goto 87, 3) := by decide +kernel
theorem dX2_make_58 : decode cX2_make 58 = .ok (.aload_n 0, 1) := by decide +kernel
theorem dX2_make_59 : decode cX2_make 59 = .ok (.lload_n 3, 1) := by decide +kernel
theorem dX2_make_60 : decode cX2_make 60 = .ok (.invokevirtual 62, 3) := by decide +kernel
theorem dX2_make_63 : decode cX2_make 63 = .ok (.goto 79, 3) := by decide +kernel
theorem dX2_make_66 : decode cX2_make 66 = .ok (.aload_n 0, 1) := by decide +kernel
theorem dX2_make_67 : decode cX2_make 67 = .ok (.lload_n 3, 1) := by decide +kernel
theorem dX2_make_68 : decode cX2_make 68 = .ok (.invokestatic 32, 3) := by decide +kernel
theorem dX2_make_71 : decode cX2_make 71 = .ok (.i2l, 1) := by decide +kernel
theorem dX2_make_72 : decode cX2_make 72 = .ok (.invokevirtual 62, 3) := by decide +kernel
theorem dX2_make_75 : decode cX2_make 75 = .ok (.aload_n 0, 1) := by decide +kernel
theorem dX2_make_76 : decode cX2_make 76 = .ok (.lload_n 3, 1) := by decide +kernel
theorem dX2_make_77 : decode cX2_make 77 = .ok (.lload_n 3, 1) := by decide +kernel
theorem dX2_make_78 : decode cX2_make 78 = .ok (.invokestatic 32, 3) := by decide +kernel
theorem dX2_make_81 : decode cX2_make 81 = .ok (.iconst 1, 1) := by decide +kernel
theorem dX2_make_82 : decode cX2_make 82 = .ok (.isub, 1) := by decide +kernel
theorem dX2_make_83 : decode cX2_make 83 = .ok (.invokevirtual 54, 3) := by decide +kernel
theorem dX2_make_86 : decode cX2_make 86 = .ok (.goto 56, 3) := by decide +kernel
theorem dX2_make_89 : decode cX2_make 89 = .ok (.aload_n 0, 1) := by decide +kernel
theorem dX2_make_90 : decode cX2_make 90 = .ok (.lload_n 3, 1) := by decide +kernel
theorem dX2_make_91 : decode cX2_make 91 = .ok (.invokevirtual 65, 3) := by decide +kernel
theorem dX2_make_94 : decode cX2_make 94 = .ok (.goto 48, 3) := by decide +kernel
theorem dX2_make_97 : decode cX2_make 97 = .ok (.aload_n 0, 1) := by decide +kernel
theorem dX2_make_98 : decode cX2_make 98 = .ok (.lload_n 3, 1) := by decide +kernel
theorem dX2_make_99 : decode cX2_make 99 = .ok (.invokevirtual 68, 3) := by decide +kernel
theorem dX2_make_102 : decode cX2_make 102 = .ok (.goto 40, 3) := by decide +kernel
theorem dX2_make_105 : decode cX2_make 105 = .ok (.aload_n 0, 1) := by decide +kernel
theorem dX2_make_106 : decode cX2_make 106 = .ok (.iload_n 2, 1) := by decide +kernel
theorem dX2_make_107 : decode cX2_make 107 = .ok (.lload_n 3, 1) := by decide +kernel
theorem dX2_make_108 : decode cX2_make 108 = .ok (.invokevirtual 71, 3) := by decide +kernel
theorem dX2_make_111 : decode cX2_make 111 = .ok (.goto 31, 3) := by decide +kernel
theorem dX2_make_114 : decode cX2_make 114 = .ok (.aload_n 0, 1) := by decide +kernel
theorem dX2_make_115 : decode cX2_make 115 = .ok (.lload_n 3, 1) := by decide +kernel
theorem dX2_make_116 : decode cX2_make 116 = .ok (.lconst 1, 1) := by decide +kernel
theorem dX2_make_117 : decode cX2_make 117 = .ok (.lsub, 1) := by decide +kernel
theorem dX2_make_118 : decode cX2_make 118 = .ok (.iload_n 2, 1) := by decide +kernel
theorem dX2_make_119 : decode cX2_make 119 = .ok (.lshr, 1) := by decide +kernel
theorem dX2_make_120 : decode cX2_make 120 = .ok (.lconst 1, 1) := by decide +kernel
theorem dX2_make_121 : decode cX2_make 121 = .ok (.ladd, 1) := by decide +kernel
theorem dX2_make_122 : decode cX2_make 122 = .ok (.invokevirtual 62, 3) := by decide +kernel
theorem dX2_make_125 : decode cX2_make 125 = .ok (.aload_n 0, 1) := by decide +kernel
theorem dX2_make_126 : decode cX2_make 126 = .ok (.lload_n 3, 1) := by decide +kernel
theorem dX2_make_127 : decode cX2_make 127 = .ok (.lconst 1, 1) := by decide +kernel
theorem dX2_make_128 : decode cX2_make 128 = .ok (.lsub, 1) := by decide +kernel
theorem dX2_make_129 : decode cX2_make 129 = .ok (.iload_n 2, 1) := by decide +kernel
theorem dX2_make_130 : decode cX2_make 130 = .ok (.invokevirtual 54, 3) := by decide +kernel
theorem dX2_make_133 : decode cX2_make 133 = .ok (.goto 9, 3) := by decide +kernel
theorem dX2_make_136 : decode cX2_make 136 = .ok (.aload_n 0, 1) := by decide +kernel
theorem dX2_make_137 : decode cX2_make 137 = .ok (.iload_n 2, 1) := by decide +kernel
theorem dX2_make_138 : decode cX2_make 138 = .ok (.lload_n 3, 1) := by decide +kernel
theorem dX2_make_139 : decode cX2_make 139 = .ok (.invokevirtual 75, 3) := by decide +kernel
theorem dX2_make_142 : decode cX2_make 142 = .ok (.return_, 1) := by decide +kernel
set_option maxRecDepth 20000 in
theorem ggX2_puts_X2_lengthOf : GoodIn wsX2_puts wsX2_lengthOf := goodIn_r _ [9, 10, 11, 12, 8, 13, 14, 15, 16, 17, 18, 19, 20, 21, 22, 23, 24, 61, 62, 63, 64, 65, 66, 67, 68, 69, 70, 71] (by decide +kernel) (by decide +kernel)
set_option maxRecDepth 20000 in
theorem gX2_puts_X2_lengthOf : GoodIn wsX2_puts (wsV RX2 78 RX2 yX2_lengthOf wsX2_lengthOf) := goodIn_app (goodIn_of _ (by decide +kernel)) ggX2_puts_X2_lengthOf
set_option maxRecDepth 20000 in
theorem ggX2_puts_X2_make : GoodIn wsX2_puts wsX2_make := goodIn_r _ [28, 2, 29, 30, 31, 8, 32, 33, 34, 35, 36, 4, 37, 38, 39, 40, 11, 12, 13, 10, 41, 42, 43, 44, 45, 46, 47, 48, 14, 15, 16, 49, 50, 51, 52, 21, 17, 18, 19, 20, 53, 54, 55, 56, 22, 23, 24, 57, 58, 59, 60, 61, 62, 63, 64, 65, 66, 67, 68, 69, 70, 71] (by decide +kernel) (by decide +kernel)
set_option maxRecDepth 20000 in
theorem gX2_puts_X2_make : GoodIn wsX2_puts (wsV RX2 85 RX2 yX2_make wsX2_make) := goodIn_app (goodIn_of _ (by decide +kernel)) ggX2_puts_X2_make
theorem dX2_puts_0 : decode cX2_puts 0 = .ok (.aload_n 0, 1) := by decide +kernel
theorem dX2_puts_1 : decode cX2_puts 1 = .ok (.iload_n 1, 1) := by decide +kernel
theorem dX2_puts_2 : decode cX2_puts 2 = .ok (.iload_n 2, 1) := by decide +kernel
theorem dX2_puts_3 : decode cX2_puts 3 = .ok (.lload_n 3, 1) := by decide +kernel
theorem dX2_puts_4 : decode cX2_puts 4 = .ok (.invokevirtual 78, 3) := by decide +kernel
theorem dX2_puts_7 : decode cX2_puts 7 = .ok (.sipush 4096, 3) := by decide +kernel
theorem dX2_puts_10 : decode cX2_puts 10 = .ok (.aload_n 0, 1) := by decide +kernel
theorem dX2_puts_11 : decode cX2_puts 11 = .ok (.getfield 82, 3) := by decide +kernel
theorem dX2_puts_14 : decode cX2_puts 14 = .ok (.isub, 1) := by decide +kernel
theorem dX2_puts_15 : decode cX2_puts 15 = .ok (.i2l, 1) := by decide +kernel
theorem dX2_puts_16 : decode cX2_puts 16 = .ok (.lcmp, 1) := by decide +kernel
theorem dX2_puts_17 : decode cX2_puts 17 = .ok (.ifCond .le 5, 3) := by decide +kernel
theorem dX2_puts_20 : decode cX2_puts 20 = .ok (.iconst 0, 1) := by decide +kernel
theorem dX2_puts_21 : decode cX2_puts 21 = .ok (.ireturn, 1) := by decide +kernel
theorem dX2_puts_22 : decode cX2_puts 22 = .ok (.aload_n 0, 1) := by decide +kernel
theorem dX2_puts_23 : decode cX2_puts 23 = .ok (.iload_n 1, 1) := by decide +kernel
theorem dX2_puts_24 : decode cX2_puts 24 = .ok (.iload_n 2, 1) := by decide +kernel
theorem dX2_puts_25 : decode cX2_puts 25 = .ok (.lload_n 3, 1) := by decide +kernel
theorem dX2_puts_26 : decode cX2_puts 26 = .ok (.invokevirtual 85, 3) := by decide +kernel
theorem dX2_puts_29 : decode cX2_puts 29 = .ok (.iconst 0, 1) := by decide +kernel
theorem dX2_puts_30 : decode cX2_puts 30 = .ok (.istore 5, 2) := by decide +kernel
theorem dX2_puts_32 : decode cX2_puts 32 = .ok (.iload 5, 2) := by decide +kernel
theorem dX2_puts_34 : decode cX2_puts 34 = .ok (.aload_n 0, 1) := by decide +kernel
theorem dX2_puts_35 : decode cX2_puts 35 = .ok (.getfield 47, 3) := by decide +kernel
theorem dX2_puts_38 : decode cX2_puts 38 = .ok (.if_icmp .ge 35, 3) := by decide +kernel
theorem dX2_puts_41 : decode cX2_puts 41 = .ok (.aload_n 0, 1) := by decide +kernel
theorem dX2_puts_42 : decode cX2_puts 42 = .ok (.getfield 7, 3) := by decide +kernel
theorem dX2_puts_45 : decode cX2_puts 45 = .ok (.aload_n 0, 1) := by decide +kernel
theorem dX2_puts_46 : decode cX2_puts 46 = .ok (.getfield 82, 3) := by decide +kernel
theorem dX2_puts_49 : decode cX2_puts 49 = .ok (.aload_n 0, 1) := by decide +kernel
theorem dX2_puts_50 : decode cX2_puts 50 = .ok (.getfield 17, 3) := by decide +kernel
theorem dX2_puts_53 : decode cX2_puts 53 = .ok (.iload 5, 2) := by decide +kernel
theorem dX2_puts_55 : decode cX2_puts 55 = .ok (.iaload, 1) := by decide +kernel
theorem dX2_puts_56 : decode cX2_puts 56 = .ok (.iastore, 1) := by decide +kernel
theorem dX2_puts_57 : decode cX2_puts 57 = .ok (.aload_n 0, 1) := by decide +kernel
theorem dX2_puts_58 : decode cX2_puts 58 = .ok (.dup, 1) := by decide +kernel
theorem dX2_puts_59 : decode cX2_puts 59 = .ok (.getfield 82, 3) := by decide +kernel
theorem dX2_puts_62 : decode cX2_puts 62 = .ok (.iconst 1, 1) := by decide +kernel
theorem dX2_puts_63 : decode cX2_puts 63 = .ok (.iadd, 1) := by decide +kernel
theorem dX2_puts_64 : decode cX2_puts 64 = .ok (.putfield 82, 3) := by decide +kernel
theorem dX2_puts_67 : decode cX2_puts 67 = .ok (.iinc 5 1, 3) := by decide +kernel
theorem dX2_puts_70 : decode cX2_puts 70 = .ok (.goto (-38), 3) := by decide +kernel
theorem dX2_puts_73 : decode cX2_puts 73 = .ok (.iconst 1, 1) := by decide +kernel
theorem dX2_puts_74 : decode cX2_puts 74 = .ok (.ireturn, 1) := by decide +kernel
theorem dX2_next_0 : decode cX2_next 0 = .ok (.aload_n 0, 1) := by decide +kernel
theorem dX2_next_1 : decode cX2_next 1 = .ok (.getfield 89, 3) := by decide +kernel
theorem dX2_next_4 : decode cX2_next 4 = .ok (.aload_n 0, 1) := by decide +kernel
theorem dX2_next_5 : decode cX2_next 5 = .ok (.getfield 82, 3) := by decide +kernel
theorem dX2_next_8 : decode cX2_next 8 = .ok (.if_icmp .lt 10, 3) := by decide +kernel
theorem dX2_next_11 : decode cX2_next 11 = .ok (.aload_n 0, 1) := by decide +kernel
theorem dX2_next_12 : decode cX2_next 12 = .ok (.iconst 1, 1) := by decide +kernel
theorem dX2_next_13 : decode cX2_next 13 = .ok (.putfield 92, 3) := by decide +kernel
theorem dX2_next_16 : decode cX2_next 16 = .ok (.iconst 0, 1) := by decide +kernel
theorem dX2_next_17 : decode cX2_next 17 = .ok (.ireturn, 1) := by decide +kernel
theorem dX2_next_18 : decode cX2_next 18 = .ok (.aload_n 0, 1) := by decide +kernel
theorem dX2_next_19 : decode cX2_next 19 = .ok (.dup, 1) := by decide +kernel
theorem dX2_next_20 : decode cX2_next 20 = .ok (.getfield 89, 3) := by decide +kernel
theorem dX2_next_23 : decode cX2_next 23 = .ok (.iconst 1, 1) := by decide +kernel
theorem dX2_next_24 : decode cX2_next 24 = .ok (.iadd, 1) := by decide +kernel
theorem dX2_next_25 : decode cX2_next 25 = .ok (.putfield 89, 3) := by decide +kernel
theorem dX2_next_28 : decode cX2_next 28 = .ok (.aload_n 0, 1) := by decide +kernel
theorem dX2_next_29 : decode cX2_next 29 = .ok (.getfield 7, 3) := by decide +kernel
theorem dX2_next_32 : decode cX2_next 32 = .ok (.aload_n 0, 1) := by decide +kernel
theorem dX2_next_33 : decode cX2_next 33 = .ok (.getfield 89, 3) := by decide +kernel
theorem dX2_next_36 : decode cX2_next 36 = .ok (.iconst 1, 1) := by decide +kernel
theorem dX2_next_37 : decode cX2_next 37 = .ok (.isub, 1) := by decide +kernel
theorem dX2_next_38 : decode cX2_next 38 = .ok (.iaload, 1) := by decide +kernel
theorem dX2_next_39 : decode cX2_next 39 = .ok (.ireturn, 1) := by decide +kernel
set_option maxRecDepth 20000 in
theorem ggX2_some_X2_next : GoodIn wsX2_some wsX2_next := goodIn_r _ [7, 8, 9, 1, 10, 11, 12, 13, 14, 15, 16, 17, 18, 19, 20, 21] (by decide +kernel) (by decide +kernel)
set_option maxRecDepth 20000 in
theorem gX2_some_X2_next : GoodIn wsX2_some (wsV RX2 96 RX2 yX2_next wsX2_next) := goodIn_app (goodIn_of _ (by decide +kernel)) ggX2_some_X2_next
theorem dX2_some_0 : decode cX2_some 0 = .ok (.iload_n 1, 1) := by decide +kernel
theorem dX2_some_1 : decode cX2_some 1 = .ok (.bipush 63, 2) := by decide +kernel
theorem dX2_some_3 : decode cX2_some 3 = .ok (.if_icmp .le 8, 3) := by decide +kernel
theorem dX2_some_6 : decode cX2_some 6 = .ok (.aload_n 0, 1) := by decide +kernel
theorem dX2_some_7 : decode cX2_some 7 = .ok (.iconst 1, 1) := by decide +kernel
theorem dX2_some_8 : decode cX2_some 8 = .ok (.putfield 92, 3) := by decide +kernel
theorem dX2_some_11 : decode cX2_some 11 = .ok (.lconst 0, 1) := by decide +kernel
theorem dX2_some_12 : decode cX2_some 12 = .ok (.lstore_n 2, 1) := by decide +kernel
theorem dX2_some_13 : decode cX2_some 13 = .ok (.iconst 0, 1) := by decide +kernel
theorem dX2_some_14 : decode cX2_some 14 = .ok (.istore 4, 2) := by decide +kernel
theorem dX2_some_16 : decode cX2_some 16 = .ok (.iload 4, 2) := by decide +kernel
theorem dX2_some_18 : decode cX2_some 18 = .ok (.iload_n 1, 1) := by decide +kernel
theorem dX2_some_19 : decode cX2_some 19 = .ok (.if_icmp .ge 28, 3) := by decide +kernel
theorem dX2_some_22 : decode cX2_some 22 = .ok (.aload_n 0, 1) := by decide +kernel
theorem dX2_some_23 : decode cX2_some 23 = .ok (.getfield 92, 3) := by decide +kernel
theorem dX2_some_26 : decode cX2_some 26 = .ok (.ifCond .ne 21, 3) := by decide +kernel
theorem dX2_some_29 : decode cX2_some 29 = .ok (.ldc2_w 23, 3) := by decide +kernel
theorem dX2_some_32 : decode cX2_some 32 = .ok (.lload_n 2, 1) := by decide +kernel
theorem dX2_some_33 : decode cX2_some 33 = .ok (.lmul, 1) := by decide +kernel
theorem dX2_some_34 : decode cX2_some 34 = .ok (.aload_n 0, 1) := by decide +kernel
theorem dX2_some_35 : decode cX2_some 35 = .ok (.invokevirtual 96, 3) := by decide +kernel
theorem dX2_some_38 : decode cX2_some 38 = .ok (.i2l, 1) := by decide +kernel
theorem dX2_some_39 : decode cX2_some 39 = .ok (.ladd, 1) := by decide +kernel
theorem dX2_some_40 : decode cX2_some 40 = .ok (.lstore_n 2, 1) := by decide +kernel
theorem dX2_some_41 : decode cX2_some 41 = .ok (.iinc 4 1, 3) := by decide +kernel
theorem dX2_some_44 : decode cX2_some 44 = .ok (.goto (-28), 3) := by decide +kernel
theorem dX2_some_47 : decode cX2_some 47 = .ok (.lload_n 2, 1) := by decide +kernel
theorem dX2_some_48 : decode cX2_some 48 = .ok (.lreturn, 1) := by decide +kernel
theorem dX2_run_0 : decode cX2_run 0 = .ok (.iconst 0, 1) := by decide +kernel
theorem dX2_run_1 : decode cX2_run 1 = .ok (.istore_n 2, 1) := by decide +kernel
theorem dX2_run_2 : decode cX2_run 2 = .ok (.aload_n 0, 1) := by decide +kernel
theorem dX2_run_3 : decode cX2_run 3 = .ok (.getfield 92, 3) := by decide +kernel
theorem dX2_run_6 : decode cX2_run 6 = .ok (.ifCond .ne 43, 3) := by decide +kernel
theorem dX2_run_9 : decode cX2_run 9 = .ok (.aload_n 0, 1) := by decide +kernel
theorem dX2_run_10 : decode cX2_run 10 = .ok (.getfield 89, 3) := by decide +kernel
theorem dX2_run_13 : decode cX2_run 13 = .ok (.aload_n 0, 1) := by decide +kernel
theorem dX2_run_14 : decode cX2_run 14 = .ok (.getfield 82, 3) := by decide +kernel
theorem dX2_run_17 : decode cX2_run 17 = .ok (.if_icmp .ge 32, 3) := by decide +kernel
theorem dX2_run_20 : decode cX2_run 20 = .ok (.aload_n 0, 1) := by decide +kernel
theorem dX2_run_21 : decode cX2_run 21 = .ok (.getfield 7, 3) := by decide +kernel
theorem dX2_run_24 : decode cX2_run 24 = .ok (.aload_n 0, 1) := by decide +kernel
theorem dX2_run_25 : decode cX2_run 25 = .ok (.getfield 89, 3) := by decide +kernel
theorem dX2_run_28 : decode cX2_run 28 = .ok (.iaload, 1) := by decide +kernel
theorem dX2_run_29 : decode cX2_run 29 = .ok (.iload_n 1, 1) := by decide +kernel
theorem dX2_run_30 : decode cX2_run 30 = .ok (.if_icmp .ne 19, 3) := by decide +kernel
theorem dX2_run_33 : decode cX2_run 33 = .ok (.aload_n 0, 1) := by decide +kernel
theorem dX2_run_34 : decode cX2_run 34 = .ok (.dup, 1) := by decide +kernel
theorem dX2_run_35 : decode cX2_run 35 = .ok (.getfield 89, 3) := by decide +kernel
theorem dX2_run_38 : decode cX2_run 38 = .ok (.iconst 1, 1) := by decide +kernel
theorem dX2_run_39 : decode cX2_run 39 = .ok (.iadd, 1) := by decide +kernel
theorem dX2_run_40 : decode cX2_run 40 = .ok (.putfield 89, 3) := by decide +kernel
theorem dX2_run_43 : decode cX2_run 43 = .ok (.iinc 2 1, 3) := by decide +kernel
theorem dX2_run_46 : decode cX2_run 46 = .ok (.goto (-44), 3) := by decide +kernel
theorem dX2_run_49 : decode cX2_run 49 = .ok (.aload_n 0, 1) := by decide +kernel
theorem dX2_run_50 : decode cX2_run 50 = .ok (.getfield 89, 3) := by decide +kernel
theorem dX2_run_53 : decode cX2_run 53 = .ok (.aload_n 0, 1) := by decide +kernel
theorem dX2_run_54 : decode cX2_run 54 = .ok (.getfield 82, 3) := by decide +kernel
theorem dX2_run_57 : decode cX2_run 57 = .ok (.if_icmp .lt 8, 3) := by decide +kernel
theorem dX2_run_60 : decode cX2_run 60 = .ok (.aload_n 0, 1) := by decide +kernel
theorem dX2_run_61 : decode cX2_run 61 = .ok (.iconst 1, 1) := by decide +kernel
theorem dX2_run_62 : decode cX2_run 62 = .ok (.putfield 92, 3) := by decide +kernel
theorem dX2_run_65 : decode cX2_run 65 = .ok (.iload_n 2, 1) := by decide +kernel
theorem dX2_run_66 : decode cX2_run 66 = .ok (.ireturn, 1) := by decide +kernel
set_option maxRecDepth 20000 in
theorem ggX2_readDoubled_X2_run : GoodIn wsX2_readDoubled wsX2_run := goodIn_r _ [6, 1, 7, 8, 9, 19, 20, 21, 22, 23, 24, 25, 26, 27, 28, 29] (by decide +kernel) (by decide +kernel)
set_option maxRecDepth 20000 in
theorem gX2_readDoubled_X2_run : GoodIn wsX2_readDoubled (wsV RX2 100 RX2 yX2_run wsX2_run) := goodIn_app (goodIn_of _ (by decide +kernel)) ggX2_readDoubled_X2_run
set_option maxRecDepth 20000 in
theorem ggX2_readDoubled_X2_some : GoodIn wsX2_readDoubled wsX2_some := goodIn_r _ [13, 1, 14, 15, 16, 17, 5, 18, 7, 8, 9, 19, 20, 21, 22, 23, 24, 25, 26, 27, 28, 29] (by decide +kernel) (by decide +kernel)
set_option maxRecDepth 20000 in
theorem gX2_readDoubled_X2_some : GoodIn wsX2_readDoubled (wsV RX2 103 RX2 yX2_some wsX2_some) := goodIn_app (goodIn_of _ (by decide +kernel)) ggX2_readDoubled_X2_some
theorem dX2_readDoubled_0 : decode cX2_readDoubled 0 = .ok (.aload_n 0, 1) := by decide +kernel
theorem dX2_readDoubled_1 : decode cX2_readDoubled 1 = .ok (.iconst 0, 1) := by decide +kernel
theorem dX2_readDoubled_2 : decode cX2_readDoubled 2 = .ok (.invokevirtual 100, 3) := by decide +kernel
theorem dX2_readDoubled_5 : decode cX2_readDoubled 5 = .ok (.istore_n 1, 1) := by decide +kernel
theorem dX2_readDoubled_6 : decode cX2_readDoubled 6 = .ok (.aload_n 0, 1) := by decide +kernel
theorem dX2_readDoubled_7 : decode cX2_readDoubled 7 = .ok (.getfield 92, 3) := by decide +kernel
theorem dX2_readDoubled_10 : decode cX2_readDoubled 10 = .ok (.ifCond .eq 7, 3) := by decide +kernel
theorem dX2_readDoubled_13 : decode cX2_readDoubled 13 = .ok (.lconst 0, 1) := by decide +kernel
theorem dX2_readDoubled_14 : decode cX2_readDoubled 14 = .ok (.goto 10, 3) := by decide +kernel
theorem dX2_readDoubled_17 : decode cX2_readDoubled 17 = .ok (.aload_n 0, 1) := by decide +kernel
theorem dX2_readDoubled_18 : decode cX2_readDoubled 18 = .ok (.iload_n 1, 1) := by decide +kernel
theorem dX2_readDoubled_19 : decode cX2_readDoubled 19 = .ok (.iconst 1, 1) := by decide +kernel
theorem dX2_readDoubled_20 : decode cX2_readDoubled 20 = .ok (.iadd, 1) := by decide +kernel
theorem dX2_readDoubled_21 : decode cX2_readDoubled 21 = .ok (.invokevirtual 103, 3) := by decide +kernel
theorem dX2_readDoubled_24 : decode cX2_readDoubled 24 = .ok (.lreturn, 1) := by decide +kernel
set_option maxRecDepth 20000 in
theorem ggX2_readChain_X2_next : GoodIn wsX2_readChain wsX2_next := goodIn_r _ [7, 8, 9, 1, 10, 16, 17, 18, 19, 20, 21, 22, 23, 24, 25, 26] (by decide +kernel) (by decide +kernel)
set_option maxRecDepth 20000 in
theorem gX2_readChain_X2_next : GoodIn wsX2_readChain (wsV RX2 96 RX2 yX2_next wsX2_next) := goodIn_app (goodIn_of _ (by decide +kernel)) ggX2_readChain_X2_next
set_option maxRecDepth 20000 in
theorem ggX2_readChain_X2_some : GoodIn wsX2_readChain wsX2_some := goodIn_r _ [14, 1, 15, 3, 4, 5, 6, 7, 8, 9, 10, 16, 17, 18, 19, 20, 21, 22, 23, 24, 25, 26] (by decide +kernel) (by decide +kernel)
set_option maxRecDepth 20000 in
theorem gX2_readChain_X2_some : GoodIn wsX2_readChain (wsV RX2 103 RX2 yX2_some wsX2_some) := goodIn_app (goodIn_of _ (by decide +kernel)) ggX2_readChain_X2_some
theorem dX2_readChain_0 : decode cX2_readChain 0 = .ok (.lconst 1, 1) := by decide +kernel
theorem dX2_readChain_1 : decode cX2_readChain 1 = .ok (.lstore_n 1, 1) := by decide +kernel
theorem dX2_readChain_2 : decode cX2_readChain 2 = .ok (.aload_n 0, 1) := by decide +kernel
theorem dX2_readChain_3 : decode cX2_readChain 3 = .ok (.getfield 92, 3) := by decide +kernel
theorem dX2_readChain_6 : decode cX2_readChain 6 = .ok (.ifCond .ne 55, 3) := by decide +kernel
theorem dX2_readChain_9 : decode cX2_readChain 9 = .ok (.aload_n 0, 1) := by decide +kernel
theorem dX2_readChain_10 : decode cX2_readChain 10 = .ok (.invokevirtual 96, 3) := by decide +kernel
theorem dX2_readChain_13 : decode cX2_readChain 13 = .ok (.iconst 1, 1) := by decide +kernel
theorem dX2_readChain_14 : decode cX2_readChain 14 = .ok (.if_icmp .ne 47, 3) := by decide +kernel
theorem dX2_readChain_17 : decode cX2_readChain 17 = .ok (.lload_n 1, 1) := by decide +kernel
theorem dX2_readChain_18 : decode cX2_readChain 18 = .ok (.ldc2_w 107, 3) := by decide +kernel
theorem dX2_readChain_21 : decode cX2_readChain 21 = .ok (.lcmp, 1) := by decide +kernel
theorem dX2_readChain_22 : decode cX2_readChain 22 = .ok (.ifCond .le 11, 3) := by decide +kernel
theorem dX2_readChain_25 : decode cX2_readChain 25 = .ok (.aload_n 0, 1) := by decide +kernel
theorem dX2_readChain_26 : decode cX2_readChain 26 = .ok (.iconst 1, 1) := by decide +kernel
theorem dX2_readChain_27 : decode cX2_readChain 27 = .ok (.putfield 92, 3) := by decide +kernel
theorem dX2_readChain_30 : decode cX2_readChain 30 = .ok (.goto (-28), 3) := by decide +kernel
theorem dX2_readChain_33 : decode cX2_readChain 33 = .ok (.aload_n 0, 1) := by decide +kernel
theorem dX2_readChain_34 : decode cX2_readChain 34 = .ok (.lload_n 1, 1) := by decide +kernel
theorem dX2_readChain_35 : decode cX2_readChain 35 = .ok (.l2i, 1) := by decide +kernel
theorem dX2_readChain_36 : decode cX2_readChain 36 = .ok (.invokevirtual 103, 3) := by decide +kernel
theorem dX2_readChain_39 : decode cX2_readChain 39 = .ok (.lstore_n 3, 1) := by decide +kernel
theorem dX2_readChain_40 : decode cX2_readChain 40 = .ok (.aload_n 0, 1) := by decide +kernel
theorem dX2_readChain_41 : decode cX2_readChain 41 = .ok (.getfield 92, 3) := by decide +kernel
theorem dX2_readChain_44 : decode cX2_readChain 44 = .ok (.ifCond .eq 7, 3) := by decide +kernel
theorem dX2_readChain_47 : decode cX2_readChain 47 = .ok (.lconst 0, 1) := by decide +kernel
theorem dX2_readChain_48 : decode cX2_readChain 48 = .ok (.goto 9, 3) := by decide +kernel
theorem dX2_readChain_51 : decode cX2_readChain 51 = .ok (.lconst 1, 1) := by decide +kernel
theorem dX2_readChain_52 : decode cX2_readChain 52 = .ok (.lload_n 1, 1) := by decide +kernel
theorem dX2_readChain_53 : decode cX2_readChain 53 = .ok (.l2i, 1) := by decide +kernel
theorem dX2_readChain_54 : decode cX2_readChain 54 = .ok (.lshl, 1) := by decide +kernel
theorem dX2_readChain_55 : decode cX2_readChain 55 = .ok (.lload_n 3, 1) := by decide +kernel
theorem dX2_readChain_56 : decode cX2_readChain 56 = .ok (.ladd, 1) := by decide +kernel
theorem dX2_readChain_57 : decode cX2_readChain 57 = .ok (.lstore_n 1, 1) := by decide +kernel
theorem dX2_readChain_58 : decode cX2_readChain 58 = .ok (.goto (-56), 3) := by decide +kernel
theorem dX2_readChain_61 : decode cX2_readChain 61 = .ok (.lload_n 1, 1) := by decide +kernel
theorem dX2_readChain_62 : decode cX2_readChain 62 = .ok (.lreturn, 1) := by decide +kernel
set_option maxRecDepth 20000 in
theorem ggX2_readSums_X2_next : GoodIn wsX2_readSums wsX2_next := goodIn_r _ [8, 9, 10, 1, 11, 12, 13, 14, 15, 16, 17, 18, 19, 20, 21, 22] (by decide +kernel) (by decide +kernel)
set_option maxRecDepth 20000 in
theorem gX2_readSums_X2_next : GoodIn wsX2_readSums (wsV RX2 96 RX2 yX2_next wsX2_next) := goodIn_app (goodIn_of _ (by decide +kernel)) ggX2_readSums_X2_next
theorem dX2_readSums_0 : decode cX2_readSums 0 = .ok (.lconst 0, 1) := by decide +kernel
theorem dX2_readSums_1 : decode cX2_readSums 1 = .ok (.lstore_n 1, 1) := by decide +kernel
theorem dX2_readSums_2 : decode cX2_readSums 2 = .ok (.iconst 0, 1) := by decide +kernel
theorem dX2_readSums_3 : decode cX2_readSums 3 = .ok (.istore_n 3, 1) := by decide +kernel
theorem dX2_readSums_4 : decode cX2_readSums 4 = .ok (.iconst 0, 1) := by decide +kernel
theorem dX2_readSums_5 : decode cX2_readSums 5 = .ok (.istore 4, 2) := by decide +kernel
theorem dX2_readSums_7 : decode cX2_readSums 7 = .ok (.iconst 1, 1) := by decide +kernel
theorem dX2_readSums_8 : decode cX2_readSums 8 = .ok (.istore 5, 2) := by decide +kernel
theorem dX2_readSums_10 : decode cX2_readSums 10 = .ok (.iload 5, 2) := by decide +kernel
theorem dX2_readSums_12 : decode cX2_readSums 12 = .ok (.ifCond .eq 93, 3) := by decide +kernel
theorem dX2_readSums_15 : decode cX2_readSums 15 = .ok (.aload_n 0, 1) := by decide +kernel
theorem dX2_readSums_16 : decode cX2_readSums 16 = .ok (.getfield 92, 3) := by decide +kernel
theorem dX2_readSums_19 : decode cX2_readSums 19 = .ok (.ifCond .ne 86, 3) := by decide +kernel
theorem dX2_readSums_22 : decode cX2_readSums 22 = .ok (.aload_n 0, 1) := by decide +kernel
theorem dX2_readSums_23 : decode cX2_readSums 23 = .ok (.invokevirtual 96, 3) := by decide +kernel
theorem dX2_readSums_26 : decode cX2_readSums 26 = .ok (.istore 6, 2) := by decide +kernel
theorem dX2_readSums_28 : decode cX2_readSums 28 = .ok (.iinc 4 1, 3) := by decide +kernel
theorem dX2_readSums_31 : decode cX2_readSums 31 = .ok (.iload 6, 2) := by decide +kernel
theorem dX2_readSums_33 : decode cX2_readSums 33 = .ok (.iconst 1, 1) := by decide +kernel
theorem dX2_readSums_34 : decode cX2_readSums 34 = .ok (.if_icmp .ne 14, 3) := by decide +kernel
theorem dX2_readSums_37 : decode cX2_readSums 37 = .ok (.iload_n 3, 1) := by decide +kernel
theorem dX2_readSums_38 : decode cX2_readSums 38 = .ok (.iconst 1, 1) := by decide +kernel
theorem dX2_readSums_39 : decode cX2_readSums 39 = .ok (.if_icmp .ne 9, 3) := by decide +kernel
theorem dX2_readSums_42 : decode cX2_readSums 42 = .ok (.iconst 0, 1) := by decide +kernel
theorem dX2_readSums_43 : decode cX2_readSums 43 = .ok (.istore 5, 2) := by decide +kernel
theorem dX2_readSums_45 : decode cX2_readSums 45 = .ok (.goto 54, 3) := by decide +kernel
theorem dX2_readSums_48 : decode cX2_readSums 48 = .ok (.iload 4, 2) := by decide +kernel
theorem dX2_readSums_50 : decode cX2_readSums 50 = .ok (.bipush 90, 2) := by decide +kernel
theorem dX2_readSums_52 : decode cX2_readSums 52 = .ok (.if_icmp .le 11, 3) := by decide +kernel
theorem dX2_readSums_55 : decode cX2_readSums 55 = .ok (.aload_n 0, 1) := by decide +kernel
theorem dX2_readSums_56 : decode cX2_readSums 56 = .ok (.iconst 1, 1) := by decide +kernel
theorem dX2_readSums_57 : decode cX2_readSums 57 = .ok (.putfield 92, 3) := by decide +kernel
theorem dX2_readSums_60 : decode cX2_readSums 60 = .ok (.goto 39, 3) := by decide +kernel
theorem dX2_readSums_63 : decode cX2_readSums 63 = .ok (.iload 6, 2) := by decide +kernel
theorem dX2_readSums_65 : decode cX2_readSums 65 = .ok (.iconst 1, 1) := by decide +kernel
theorem dX2_readSums_66 : decode cX2_readSums 66 = .ok (.if_icmp .ne 33, 3) := by decide +kernel
theorem dX2_readSums_69 : decode cX2_readSums 69 = .ok (.aload_n 0, 1) := by decide +kernel
theorem dX2_readSums_70 : decode cX2_readSums 70 = .ok (.getfield 92, 3) := by decide +kernel
theorem dX2_readSums_73 : decode cX2_readSums 73 = .ok (.ifCond .ne 26, 3) := by decide +kernel
theorem dX2_readSums_76 : decode cX2_readSums 76 = .ok (.lload_n 1, 1) := by decide +kernel
theorem dX2_readSums_77 : decode cX2_readSums 77 = .ok (.aload_n 0, 1) := by decide +kernel
theorem dX2_readSums_78 : decode cX2_readSums 78 = .ok (.getfield 20, 3) := by decide +kernel
theorem dX2_readSums_81 : decode cX2_readSums 81 = .ok (.iload 4, 2) := by decide +kernel
theorem dX2_readSums_83 : decode cX2_readSums 83 = .ok (.laload, 1) := by decide +kernel
theorem dX2_readSums_84 : decode cX2_readSums 84 = .ok (.ladd, 1) := by decide +kernel
theorem dX2_readSums_85 : decode cX2_readSums 85 = .ok (.lstore_n 1, 1) := by decide +kernel
theorem dX2_readSums_86 : decode cX2_readSums 86 = .ok (.lload_n 1, 1) := by decide +kernel
theorem dX2_readSums_87 : decode cX2_readSums 87 = .ok (.ldc2_w 30, 3) := by decide +kernel
theorem dX2_readSums_90 : decode cX2_readSums 90 = .ok (.lcmp, 1) := by decide +kernel
theorem dX2_readSums_91 : decode cX2_readSums 91 = .ok (.ifCond .le 8, 3) := by decide +kernel
theorem dX2_readSums_94 : decode cX2_readSums 94 = .ok (.aload_n 0, 1) := by decide +kernel
theorem dX2_readSums_95 : decode cX2_readSums 95 = .ok (.iconst 1, 1) := by decide +kernel
theorem dX2_readSums_96 : decode cX2_readSums 96 = .ok (.putfield 92, 3) := by decide +kernel
theorem dX2_readSums_99 : decode cX2_readSums 99 = .ok (.iload 6, 2) := by decide +kernel
theorem dX2_readSums_101 : decode cX2_readSums 101 = .ok (.istore_n 3, 1) := by decide +kernel
theorem dX2_readSums_102 : decode cX2_readSums 102 = .ok (.goto (-92), 3) := by decide +kernel
theorem dX2_readSums_105 : decode cX2_readSums 105 = .ok (.lload_n 1, 1) := by decide +kernel
theorem dX2_readSums_106 : decode cX2_readSums 106 = .ok (.lreturn, 1) := by decide +kernel
set_option maxRecDepth 20000 in
theorem ggX2_readQuotient_X2_run : GoodIn wsX2_readQuotient wsX2_run := goodIn_r _ [8, 1, 2, 9, 10, 22, 23, 24, 25, 26, 27, 28, 29, 30, 31, 32] (by decide +kernel) (by decide +kernel)
set_option maxRecDepth 20000 in
theorem gX2_readQuotient_X2_run : GoodIn wsX2_readQuotient (wsV RX2 100 RX2 yX2_run wsX2_run) := goodIn_app (goodIn_of _ (by decide +kernel)) ggX2_readQuotient_X2_run
set_option maxRecDepth 20000 in
theorem ggX2_readQuotient_X2_powerFor : GoodIn wsX2_readQuotient wsX2_powerFor := goodIn_r _ [13] (by decide +kernel) (by decide +kernel)
set_option maxRecDepth 20000 in
theorem gX2_readQuotient_X2_powerFor : GoodIn wsX2_readQuotient (va_wsS RX2 43 yX2_powerFor wsX2_powerFor) := goodIn_app (goodIn_of _ (by decide +kernel)) ggX2_readQuotient_X2_powerFor
set_option maxRecDepth 20000 in
theorem ggX2_readQuotient_X2_some : GoodIn wsX2_readQuotient wsX2_some := goodIn_r _ [17, 1, 3, 18, 19, 20, 7, 21, 2, 9, 10, 22, 23, 24, 25, 26, 27, 28, 29, 30, 31, 32] (by decide +kernel) (by decide +kernel)
set_option maxRecDepth 20000 in
theorem gX2_readQuotient_X2_some : GoodIn wsX2_readQuotient (wsV RX2 103 RX2 yX2_some wsX2_some) := goodIn_app (goodIn_of _ (by decide +kernel)) ggX2_readQuotient_X2_some
set_option maxRecDepth 20000 in
theorem ggX2_readQuotient_X2_next : GoodIn wsX2_readQuotient wsX2_next := goodIn_r _ [21, 2, 9, 1, 10, 22, 23, 24, 25, 26, 27, 28, 29, 30, 31, 32] (by decide +kernel) (by decide +kernel)
set_option maxRecDepth 20000 in
theorem gX2_readQuotient_X2_next : GoodIn wsX2_readQuotient (wsV RX2 96 RX2 yX2_next wsX2_next) := goodIn_app (goodIn_of _ (by decide +kernel)) ggX2_readQuotient_X2_next
theorem dX2_readQuotient_0 : decode cX2_readQuotient 0 = .ok (.aload_n 0, 1) := by decide +kernel
theorem dX2_readQuotient_1 : decode cX2_readQuotient 1 = .ok (.iconst 1, 1) := by decide +kernel
theorem dX2_readQuotient_2 : decode cX2_readQuotient 2 = .ok (.invokevirtual 100, 3) := by decide +kernel
theorem dX2_readQuotient_5 : decode cX2_readQuotient 5 = .ok (.i2l, 1) := by decide +kernel
theorem dX2_readQuotient_6 : decode cX2_readQuotient 6 = .ok (.lstore_n 2, 1) := by decide +kernel
theorem dX2_readQuotient_7 : decode cX2_readQuotient 7 = .ok (.aload_n 0, 1) := by decide +kernel
theorem dX2_readQuotient_8 : decode cX2_readQuotient 8 = .ok (.getfield 92, 3) := by decide +kernel
theorem dX2_readQuotient_11 : decode cX2_readQuotient 11 = .ok (.ifCond .eq 5, 3) := by decide +kernel
theorem dX2_readQuotient_14 : decode cX2_readQuotient 14 = .ok (.lconst 0, 1) := by decide +kernel
theorem dX2_readQuotient_15 : decode cX2_readQuotient 15 = .ok (.lreturn, 1) := by decide +kernel
theorem dX2_readQuotient_16 : decode cX2_readQuotient 16 = .ok (.aload_n 0, 1) := by decide +kernel
theorem dX2_readQuotient_17 : decode cX2_readQuotient 17 = .ok (.dup, 1) := by decide +kernel
theorem dX2_readQuotient_18 : decode cX2_readQuotient 18 = .ok (.getfield 89, 3) := by decide +kernel
theorem dX2_readQuotient_21 : decode cX2_readQuotient 21 = .ok (.iconst 1, 1) := by decide +kernel
theorem dX2_readQuotient_22 : decode cX2_readQuotient 22 = .ok (.iadd, 1) := by decide +kernel
theorem dX2_readQuotient_23 : decode cX2_readQuotient 23 = .ok (.putfield 89, 3) := by decide +kernel
theorem dX2_readQuotient_26 : decode cX2_readQuotient 26 = .ok (.iload_n 1, 1) := by decide +kernel
theorem dX2_readQuotient_27 : decode cX2_readQuotient 27 = .ok (.invokestatic 43, 3) := by decide +kernel
theorem dX2_readQuotient_30 : decode cX2_readQuotient 30 = .ok (.istore 4, 2) := by decide +kernel
theorem dX2_readQuotient_32 : decode cX2_readQuotient 32 = .ok (.lconst 1, 1) := by decide +kernel
theorem dX2_readQuotient_33 : decode cX2_readQuotient 33 = .ok (.iload 4, 2) := by decide +kernel
theorem dX2_readQuotient_35 : decode cX2_readQuotient 35 = .ok (.lshl, 1) := by decide +kernel
theorem dX2_readQuotient_36 : decode cX2_readQuotient 36 = .ok (.iload_n 1, 1) := by decide +kernel
theorem dX2_readQuotient_37 : decode cX2_readQuotient 37 = .ok (.i2l, 1) := by decide +kernel
theorem dX2_readQuotient_38 : decode cX2_readQuotient 38 = .ok (.lsub, 1) := by decide +kernel
theorem dX2_readQuotient_39 : decode cX2_readQuotient 39 = .ok (.lstore 5, 2) := by decide +kernel
theorem dX2_readQuotient_41 : decode cX2_readQuotient 41 = .ok (.iload 4, 2) := by decide +kernel
theorem dX2_readQuotient_43 : decode cX2_readQuotient 43 = .ok (.ifCond .le 14, 3) := by decide +kernel
theorem dX2_readQuotient_46 : decode cX2_readQuotient 46 = .ok (.aload_n 0, 1) := by decide +kernel
theorem dX2_readQuotient_47 : decode cX2_readQuotient 47 = .ok (.iload 4, 2) := by decide +kernel
theorem dX2_readQuotient_49 : decode cX2_readQuotient 49 = .ok (.iconst 1, 1) := by decide +kernel
theorem dX2_readQuotient_50 : decode cX2_readQuotient 50 = .ok (.isub, 1) := by decide +kernel
theorem dX2_readQuotient_51 : decode cX2_readQuotient 51 = .ok (.invokevirtual 103, 3) := by decide +kernel
theorem dX2_readQuotient_54 : decode cX2_readQuotient 54 = .ok (.goto 4, 3) := by decide +kernel
theorem dX2_readQuotient_57 : decode cX2_readQuotient 57 = .ok (.lconst 0, 1) := by decide +kernel
theorem dX2_readQuotient_58 : decode cX2_readQuotient 58 = .ok (.lstore 7, 2) := by decide +kernel
theorem dX2_readQuotient_60 : decode cX2_readQuotient 60 = .ok (.iload 4, 2) := by decide +kernel
theorem dX2_readQuotient_62 : decode cX2_readQuotient 62 = .ok (.ifCond .le 35, 3) := by decide +kernel
theorem dX2_readQuotient_65 : decode cX2_readQuotient 65 = .ok (.lload 7, 2) := by decide +kernel
theorem dX2_readQuotient_67 : decode cX2_readQuotient 67 = .ok (.lload 5, 2) := by decide +kernel
theorem dX2_readQuotient_69 : decode cX2_readQuotient 69 = .ok (.lcmp, 1) := by decide +kernel
theorem dX2_readQuotient_70 : decode cX2_readQuotient 70 = .ok (.ifCond .lt 27, 3) := by decide +kernel
theorem dX2_readQuotient_73 : decode cX2_readQuotient 73 = .ok (.aload_n 0, 1) := by decide +kernel
theorem dX2_readQuotient_74 : decode cX2_readQuotient 74 = .ok (.getfield 92, 3) := by decide +kernel
theorem dX2_readQuotient_77 : decode cX2_readQuotient 77 = .ok (.ifCond .ne 20, 3) := by decide +kernel
theorem dX2_readQuotient_80 : decode cX2_readQuotient 80 = .ok (.ldc2_w 23, 3) := by decide +kernel
theorem dX2_readQuotient_83 : decode cX2_readQuotient 83 = .ok (.lload 7, 2) := by decide +kernel
theorem dX2_readQuotient_85 : decode cX2_readQuotient 85 = .ok (.lmul, 1) := by decide +kernel
theorem dX2_readQuotient_86 : decode cX2_readQuotient 86 = .ok (.aload_n 0, 1) := by decide +kernel
theorem dX2_readQuotient_87 : decode cX2_readQuotient 87 = .ok (.invokevirtual 96, 3) := by decide +kernel
theorem dX2_readQuotient_90 : decode cX2_readQuotient 90 = .ok (.i2l, 1) := by decide +kernel
theorem dX2_readQuotient_91 : decode cX2_readQuotient 91 = .ok (.ladd, 1) := by decide +kernel
theorem dX2_readQuotient_92 : decode cX2_readQuotient 92 = .ok (.lload 5, 2) := by decide +kernel
theorem dX2_readQuotient_94 : decode cX2_readQuotient 94 = .ok (.lsub, 1) := by decide +kernel
theorem dX2_readQuotient_95 : decode cX2_readQuotient 95 = .ok (.lstore 7, 2) := by decide +kernel
theorem dX2_readQuotient_97 : decode cX2_readQuotient 97 = .ok (.lload_n 2, 1) := by decide +kernel
theorem dX2_readQuotient_98 : decode cX2_readQuotient 98 = .ok (.iload_n 1, 1) := by decide +kernel
theorem dX2_readQuotient_99 : decode cX2_readQuotient 99 = .ok (.i2l, 1) := by decide +kernel
theorem dX2_readQuotient_100 : decode cX2_readQuotient 100 = .ok (.lmul, 1) := by decide +kernel
theorem dX2_readQuotient_101 : decode cX2_readQuotient 101 = .ok (.lload 7, 2) := by decide +kernel
theorem dX2_readQuotient_103 : decode cX2_readQuotient 103 = .ok (.ladd, 1) := by decide +kernel
theorem dX2_readQuotient_104 : decode cX2_readQuotient 104 = .ok (.lconst 1, 1) := by decide +kernel
theorem dX2_readQuotient_105 : decode cX2_readQuotient 105 = .ok (.ladd, 1) := by decide +kernel
theorem dX2_readQuotient_106 : decode cX2_readQuotient 106 = .ok (.lreturn, 1) := by decide +kernel
set_option maxRecDepth 20000 in
theorem ggX2_readShort_X2_readDoubled : GoodIn wsX2_readShort wsX2_readDoubled := goodIn_r _ [7, 1, 8, 9, 10, 6, 11, 12, 13, 14, 15, 16, 17, 18, 19, 20, 21, 22, 23, 24, 25, 26, 27, 28, 29, 30, 31, 32, 33, 34] (by decide +kernel) (by decide +kernel)
set_option maxRecDepth 20000 in
theorem gX2_readShort_X2_readDoubled : GoodIn wsX2_readShort (wsV RX2 109 RX2 yX2_readDoubled wsX2_readDoubled) := goodIn_app (goodIn_of _ (by decide +kernel)) ggX2_readShort_X2_readDoubled
set_option maxRecDepth 20000 in
theorem ggX2_readShort_X2_some : GoodIn wsX2_readShort wsX2_some := goodIn_r _ [18, 1, 19, 20, 21, 22, 6, 23, 12, 13, 14, 24, 25, 26, 27, 28, 29, 30, 31, 32, 33, 34] (by decide +kernel) (by decide +kernel)
set_option maxRecDepth 20000 in
theorem gX2_readShort_X2_some : GoodIn wsX2_readShort (wsV RX2 103 RX2 yX2_some wsX2_some) := goodIn_app (goodIn_of _ (by decide +kernel)) ggX2_readShort_X2_some
theorem dX2_readShort_0 : decode cX2_readShort 0 = .ok (.aload_n 0, 1) := by decide +kernel
theorem dX2_readShort_1 : decode cX2_readShort 1 = .ok (.invokevirtual 109, 3) := by decide +kernel
theorem dX2_readShort_4 : decode cX2_readShort 4 = .ok (.lstore_n 2, 1) := by decide +kernel
theorem dX2_readShort_5 : decode cX2_readShort 5 = .ok (.aload_n 0, 1) := by decide +kernel
theorem dX2_readShort_6 : decode cX2_readShort 6 = .ok (.getfield 92, 3) := by decide +kernel
theorem dX2_readShort_9 : decode cX2_readShort 9 = .ok (.ifCond .eq 7, 3) := by decide +kernel
theorem dX2_readShort_12 : decode cX2_readShort 12 = .ok (.lconst 0, 1) := by decide +kernel
theorem dX2_readShort_13 : decode cX2_readShort 13 = .ok (.goto 8, 3) := by decide +kernel
theorem dX2_readShort_16 : decode cX2_readShort 16 = .ok (.aload_n 0, 1) := by decide +kernel
theorem dX2_readShort_17 : decode cX2_readShort 17 = .ok (.iload_n 1, 1) := by decide +kernel
theorem dX2_readShort_18 : decode cX2_readShort 18 = .ok (.invokevirtual 103, 3) := by decide +kernel
theorem dX2_readShort_21 : decode cX2_readShort 21 = .ok (.lstore 4, 2) := by decide +kernel
theorem dX2_readShort_23 : decode cX2_readShort 23 = .ok (.aload_n 0, 1) := by decide +kernel
theorem dX2_readShort_24 : decode cX2_readShort 24 = .ok (.getfield 92, 3) := by decide +kernel
theorem dX2_readShort_27 : decode cX2_readShort 27 = .ok (.ifCond .ne 15, 3) := by decide +kernel
theorem dX2_readShort_30 : decode cX2_readShort 30 = .ok (.lload_n 2, 1) := by decide +kernel
theorem dX2_readShort_31 : decode cX2_readShort 31 = .ok (.lconst 1, 1) := by decide +kernel
theorem dX2_readShort_32 : decode cX2_readShort 32 = .ok (.lsub, 1) := by decide +kernel
theorem dX2_readShort_33 : decode cX2_readShort 33 = .ok (.ldc2_w 113, 3) := by decide +kernel
theorem dX2_readShort_36 : decode cX2_readShort 36 = .ok (.iload_n 1, 1) := by decide +kernel
theorem dX2_readShort_37 : decode cX2_readShort 37 = .ok (.lshr, 1) := by decide +kernel
theorem dX2_readShort_38 : decode cX2_readShort 38 = .ok (.lcmp, 1) := by decide +kernel
theorem dX2_readShort_39 : decode cX2_readShort 39 = .ok (.ifCond .le 10, 3) := by decide +kernel
theorem dX2_readShort_42 : decode cX2_readShort 42 = .ok (.aload_n 0, 1) := by decide +kernel
theorem dX2_readShort_43 : decode cX2_readShort 43 = .ok (.iconst 1, 1) := by decide +kernel
theorem dX2_readShort_44 : decode cX2_readShort 44 = .ok (.putfield 92, 3) := by decide +kernel
theorem dX2_readShort_47 : decode cX2_readShort 47 = .ok (.lconst 0, 1) := by decide +kernel
theorem dX2_readShort_48 : decode cX2_readShort 48 = .ok (.lreturn, 1) := by decide +kernel
theorem dX2_readShort_49 : decode cX2_readShort 49 = .ok (.lload_n 2, 1) := by decide +kernel
theorem dX2_readShort_50 : decode cX2_readShort 50 = .ok (.lconst 1, 1) := by decide +kernel
theorem dX2_readShort_51 : decode cX2_readShort 51 = .ok (.lsub, 1) := by decide +kernel
theorem dX2_readShort_52 : decode cX2_readShort 52 = .ok (.iload_n 1, 1) := by decide +kernel
theorem dX2_readShort_53 : decode cX2_readShort 53 = .ok (.lshl, 1) := by decide +kernel
theorem dX2_readShort_54 : decode cX2_readShort 54 = .ok (.lload 4, 2) := by decide +kernel
theorem dX2_readShort_56 : decode cX2_readShort 56 = .ok (.ladd, 1) := by decide +kernel
theorem dX2_readShort_57 : decode cX2_readShort 57 = .ok (.lconst 1, 1) := by decide +kernel
theorem dX2_readShort_58 : decode cX2_readShort 58 = .ok (.ladd, 1) := by decide +kernel
theorem dX2_readShort_59 : decode cX2_readShort 59 = .ok (.lreturn, 1) := by decide +kernel
set_option maxRecDepth 20000 in
theorem ggX2_readGroups_X2_next : GoodIn wsX2_readGroups wsX2_next := goodIn_r _ [7, 8, 9, 1, 10, 16, 17, 18, 19, 20, 21, 22, 23, 24, 25, 26] (by decide +kernel) (by decide +kernel)
set_option maxRecDepth 20000 in
theorem gX2_readGroups_X2_next : GoodIn wsX2_readGroups (wsV RX2 96 RX2 yX2_next wsX2_next) := goodIn_app (goodIn_of _ (by decide +kernel)) ggX2_readGroups_X2_next
set_option maxRecDepth 20000 in
theorem ggX2_readGroups_X2_some : GoodIn wsX2_readGroups wsX2_some := goodIn_r _ [14, 1, 15, 3, 4, 5, 6, 7, 8, 9, 10, 16, 17, 18, 19, 20, 21, 22, 23, 24, 25, 26] (by decide +kernel) (by decide +kernel)
set_option maxRecDepth 20000 in
theorem gX2_readGroups_X2_some : GoodIn wsX2_readGroups (wsV RX2 103 RX2 yX2_some wsX2_some) := goodIn_app (goodIn_of _ (by decide +kernel)) ggX2_readGroups_X2_some
theorem dX2_readGroups_0 : decode cX2_readGroups 0 = .ok (.lconst 0, 1) := by decide +kernel
theorem dX2_readGroups_1 : decode cX2_readGroups 1 = .ok (.lstore_n 2, 1) := by decide +kernel
theorem dX2_readGroups_2 : decode cX2_readGroups 2 = .ok (.iconst 0, 1) := by decide +kernel
theorem dX2_readGroups_3 : decode cX2_readGroups 3 = .ok (.istore 4, 2) := by decide +kernel
theorem dX2_readGroups_5 : decode cX2_readGroups 5 = .ok (.iconst 1, 1) := by decide +kernel
theorem dX2_readGroups_6 : decode cX2_readGroups 6 = .ok (.istore 5, 2) := by decide +kernel
theorem dX2_readGroups_8 : decode cX2_readGroups 8 = .ok (.iload 5, 2) := by decide +kernel
theorem dX2_readGroups_10 : decode cX2_readGroups 10 = .ok (.ifCond .eq 143, 3) := by decide +kernel
theorem dX2_readGroups_13 : decode cX2_readGroups 13 = .ok (.aload_n 0, 1) := by decide +kernel
theorem dX2_readGroups_14 : decode cX2_readGroups 14 = .ok (.getfield 92, 3) := by decide +kernel
theorem dX2_readGroups_17 : decode cX2_readGroups 17 = .ok (.ifCond .ne 136, 3) := by decide +kernel
theorem dX2_readGroups_20 : decode cX2_readGroups 20 = .ok (.aload_n 0, 1) := by decide +kernel
theorem dX2_readGroups_21 : decode cX2_readGroups 21 = .ok (.invokevirtual 96, 3) := by decide +kernel
theorem dX2_readGroups_24 : decode cX2_readGroups 24 = .ok (.iconst 1, 1) := by decide +kernel
theorem dX2_readGroups_25 : decode cX2_readGroups 25 = .ok (.if_icmp .ne 7, 3) := by decide +kernel
theorem dX2_readGroups_28 : decode cX2_readGroups 28 = .ok (.iconst 1, 1) := by decide +kernel
theorem dX2_readGroups_29 : decode cX2_readGroups 29 = .ok (.goto 4, 3) := by decide +kernel
theorem dX2_readGroups_32 : decode cX2_readGroups 32 = .ok (.iconst 0, 1) := by decide +kernel
theorem dX2_readGroups_33 : decode cX2_readGroups 33 = .ok (.istore 5, 2) := by decide +kernel
theorem dX2_readGroups_35 : decode cX2_readGroups 35 = .ok (.aload_n 0, 1) := by decide +kernel
theorem dX2_readGroups_36 : decode cX2_readGroups 36 = .ok (.getfield 92, 3) := by decide +kernel
theorem dX2_readGroups_39 : decode cX2_readGroups 39 = .ok (.ifCond .eq 7, 3) := by decide +kernel
theorem dX2_readGroups_42 : decode cX2_readGroups 42 = .ok (.lconst 0, 1) := by decide +kernel
theorem dX2_readGroups_43 : decode cX2_readGroups 43 = .ok (.goto 8, 3) := by decide +kernel
theorem dX2_readGroups_46 : decode cX2_readGroups 46 = .ok (.aload_n 0, 1) := by decide +kernel
theorem dX2_readGroups_47 : decode cX2_readGroups 47 = .ok (.iload_n 1, 1) := by decide +kernel
theorem dX2_readGroups_48 : decode cX2_readGroups 48 = .ok (.invokevirtual 103, 3) := by decide +kernel
theorem dX2_readGroups_51 : decode cX2_readGroups 51 = .ok (.lstore 6, 2) := by decide +kernel
theorem dX2_readGroups_53 : decode cX2_readGroups 53 = .ok (.iload 5, 2) := by decide +kernel
theorem dX2_readGroups_55 : decode cX2_readGroups 55 = .ok (.ifCond .ne 20, 3) := by decide +kernel
theorem dX2_readGroups_58 : decode cX2_readGroups 58 = .ok (.lload 6, 2) := by decide +kernel
theorem dX2_readGroups_60 : decode cX2_readGroups 60 = .ok (.lconst 0, 1) := by decide +kernel
theorem dX2_readGroups_61 : decode cX2_readGroups 61 = .ok (.lcmp, 1) := by decide +kernel
theorem dX2_readGroups_62 : decode cX2_readGroups 62 = .ok (.ifCond .ne 13, 3) := by decide +kernel
theorem dX2_readGroups_65 : decode cX2_readGroups 65 = .ok (.iload 4, 2) := by decide +kernel
theorem dX2_readGroups_67 : decode cX2_readGroups 67 = .ok (.ifCond .le 8, 3) := by decide +kernel
theorem dX2_readGroups_70 : decode cX2_readGroups 70 = .ok (.aload_n 0, 1) := by decide +kernel
theorem dX2_readGroups_71 : decode cX2_readGroups 71 = .ok (.iconst 1, 1) := by decide +kernel
theorem dX2_readGroups_72 : decode cX2_readGroups 72 = .ok (.putfield 92, 3) := by decide +kernel
theorem dX2_readGroups_75 : decode cX2_readGroups 75 = .ok (.lload 6, 2) := by decide +kernel
theorem dX2_readGroups_77 : decode cX2_readGroups 77 = .ok (.lconst 0, 1) := by decide +kernel
theorem dX2_readGroups_78 : decode cX2_readGroups 78 = .ok (.lcmp, 1) := by decide +kernel
theorem dX2_readGroups_79 : decode cX2_readGroups 79 = .ok (.ifCond .le 27, 3) := by decide +kernel
theorem dX2_readGroups_82 : decode cX2_readGroups 82 = .ok (.iload 4, 2) := by decide +kernel
theorem dX2_readGroups_84 : decode cX2_readGroups 84 = .ok (.bipush 62, 2) := by decide +kernel
theorem dX2_readGroups_86 : decode cX2_readGroups 86 = .ok (.if_icmp .gt 15, 3) := by decide +kernel
theorem dX2_readGroups_89 : decode cX2_readGroups 89 = .ok (.lload 6, 2) := by decide +kernel
theorem dX2_readGroups_91 : decode cX2_readGroups 91 = .ok (.ldc2_w 113, 3) := by decide +kernel
theorem dX2_readGroups_94 : decode cX2_readGroups 94 = .ok (.iload 4, 2) := by decide +kernel
theorem dX2_readGroups_96 : decode cX2_readGroups 96 = .ok (.lshr, 1) := by decide +kernel
theorem dX2_readGroups_97 : decode cX2_readGroups 97 = .ok (.lcmp, 1) := by decide +kernel
theorem dX2_readGroups_98 : decode cX2_readGroups 98 = .ok (.ifCond .le 8, 3) := by decide +kernel
theorem dX2_readGroups_101 : decode cX2_readGroups 101 = .ok (.aload_n 0, 1) := by decide +kernel
theorem dX2_readGroups_102 : decode cX2_readGroups 102 = .ok (.iconst 1, 1) := by decide +kernel
theorem dX2_readGroups_103 : decode cX2_readGroups 103 = .ok (.putfield 92, 3) := by decide +kernel
theorem dX2_readGroups_106 : decode cX2_readGroups 106 = .ok (.lload 6, 2) := by decide +kernel
theorem dX2_readGroups_108 : decode cX2_readGroups 108 = .ok (.lconst 0, 1) := by decide +kernel
theorem dX2_readGroups_109 : decode cX2_readGroups 109 = .ok (.lcmp, 1) := by decide +kernel
theorem dX2_readGroups_110 : decode cX2_readGroups 110 = .ok (.ifCond .le 20, 3) := by decide +kernel
theorem dX2_readGroups_113 : decode cX2_readGroups 113 = .ok (.aload_n 0, 1) := by decide +kernel
theorem dX2_readGroups_114 : decode cX2_readGroups 114 = .ok (.getfield 92, 3) := by decide +kernel
theorem dX2_readGroups_117 : decode cX2_readGroups 117 = .ok (.ifCond .ne 13, 3) := by decide +kernel
theorem dX2_readGroups_120 : decode cX2_readGroups 120 = .ok (.lload_n 2, 1) := by decide +kernel
theorem dX2_readGroups_121 : decode cX2_readGroups 121 = .ok (.lload 6, 2) := by decide +kernel
theorem dX2_readGroups_123 : decode cX2_readGroups 123 = .ok (.iload 4, 2) := by decide +kernel
theorem dX2_readGroups_125 : decode cX2_readGroups 125 = .ok (.lshl, 1) := by decide +kernel
theorem dX2_readGroups_126 : decode cX2_readGroups 126 = .ok (.ladd, 1) := by decide +kernel
theorem dX2_readGroups_127 : decode cX2_readGroups 127 = .ok (.goto 4, 3) := by decide +kernel
theorem dX2_readGroups_130 : decode cX2_readGroups 130 = .ok (.lload_n 2, 1) := by decide +kernel
theorem dX2_readGroups_131 : decode cX2_readGroups 131 = .ok (.lstore_n 2, 1) := by decide +kernel
theorem dX2_readGroups_132 : decode cX2_readGroups 132 = .ok (.iload 4, 2) := by decide +kernel
theorem dX2_readGroups_134 : decode cX2_readGroups 134 = .ok (.bipush 100, 2) := by decide +kernel
theorem dX2_readGroups_136 : decode cX2_readGroups 136 = .ok (.if_icmp .le 8, 3) := by decide +kernel
theorem dX2_readGroups_139 : decode cX2_readGroups 139 = .ok (.iload 4, 2) := by decide +kernel
theorem dX2_readGroups_141 : decode cX2_readGroups 141 = .ok (.goto 7, 3) := by decide +kernel
theorem dX2_readGroups_144 : decode cX2_readGroups 144 = .ok (.iload 4, 2) := by decide +kernel
theorem dX2_readGroups_146 : decode cX2_readGroups 146 = .ok (.iload_n 1, 1) := by decide +kernel
theorem dX2_readGroups_147 : decode cX2_readGroups 147 = .ok (.iadd, 1) := by decide +kernel
theorem dX2_readGroups_148 : decode cX2_readGroups 148 = .ok (.istore 4, 2) := by decide +kernel
theorem dX2_readGroups_150 : decode cX2_readGroups 150 = .ok (.goto (-142), 3) := by decide +kernel
theorem dX2_readGroups_153 : decode cX2_readGroups 153 = .ok (.lload_n 2, 1) := by decide +kernel
theorem dX2_readGroups_154 : decode cX2_readGroups 154 = .ok (.lconst 1, 1) := by decide +kernel
theorem dX2_readGroups_155 : decode cX2_readGroups 155 = .ok (.ladd, 1) := by decide +kernel
theorem dX2_readGroups_156 : decode cX2_readGroups 156 = .ok (.lreturn, 1) := by decide +kernel
set_option maxRecDepth 20000 in
theorem ggX2_reads_X2_run : GoodIn wsX2_reads wsX2_run := goodIn_r _ [11, 3, 2, 12, 13, 53, 54, 55, 56, 57, 58, 59, 60, 61, 62, 63] (by decide +kernel) (by decide +kernel)
set_option maxRecDepth 20000 in
theorem gX2_reads_X2_run : GoodIn wsX2_reads (wsV RX2 100 RX2 yX2_run wsX2_run) := goodIn_app (goodIn_of _ (by decide +kernel)) ggX2_reads_X2_run
set_option maxRecDepth 20000 in
theorem ggX2_reads_X2_readDoubled : GoodIn wsX2_reads wsX2_readDoubled := goodIn_r _ [17, 3, 7, 8, 9, 10, 11, 2, 12, 13, 18, 19, 20, 21, 22, 23, 24, 25, 26, 53, 54, 55, 56, 57, 58, 59, 60, 61, 62, 63] (by decide +kernel) (by decide +kernel)
set_option maxRecDepth 20000 in
theorem gX2_reads_X2_readDoubled : GoodIn wsX2_reads (wsV RX2 109 RX2 yX2_readDoubled wsX2_readDoubled) := goodIn_app (goodIn_of _ (by decide +kernel)) ggX2_reads_X2_readDoubled
set_option maxRecDepth 20000 in
theorem ggX2_reads_X2_some : GoodIn wsX2_reads wsX2_some := goodIn_r _ [21, 3, 22, 23, 24, 25, 10, 26, 2, 12, 13, 53, 54, 55, 56, 57, 58, 59, 60, 61, 62, 63] (by decide +kernel) (by decide +kernel)
set_option maxRecDepth 20000 in
theorem gX2_reads_X2_some : GoodIn wsX2_reads (wsV RX2 103 RX2 yX2_some wsX2_some) := goodIn_app (goodIn_of _ (by decide +kernel)) ggX2_reads_X2_some
set_option maxRecDepth 20000 in
theorem ggX2_reads_X2_readChain : GoodIn wsX2_reads wsX2_readChain := goodIn_r _ [30, 3, 31, 23, 24, 25, 10, 26, 2, 12, 13, 18, 19, 20, 21, 22, 53, 54, 55, 56, 57, 58, 59, 60, 61, 62, 63] (by decide +kernel) (by decide +kernel)
set_option maxRecDepth 20000 in
theorem gX2_reads_X2_readChain : GoodIn wsX2_reads (wsV RX2 120 RX2 yX2_readChain wsX2_readChain) := goodIn_app (goodIn_of _ (by decide +kernel)) ggX2_reads_X2_readChain
set_option maxRecDepth 20000 in
theorem ggX2_reads_X2_readSums : GoodIn wsX2_reads wsX2_readSums := goodIn_r _ [35, 3, 36, 5, 23, 24, 25, 10, 26, 2, 12, 13, 53, 54, 55, 56, 57, 58, 59, 60, 61, 62, 63] (by decide +kernel) (by decide +kernel)
set_option maxRecDepth 20000 in
theorem gX2_reads_X2_readSums : GoodIn wsX2_reads (wsV RX2 123 RX2 yX2_readSums wsX2_readSums) := goodIn_app (goodIn_of _ (by decide +kernel)) ggX2_reads_X2_readSums
set_option maxRecDepth 20000 in
theorem ggX2_reads_X2_readQuotient : GoodIn wsX2_reads wsX2_readQuotient := goodIn_r _ [40, 3, 2, 22, 7, 8, 9, 10, 11, 12, 13, 41, 42, 43, 18, 19, 20, 21, 23, 24, 25, 26, 53, 54, 55, 56, 57, 58, 59, 60, 61, 62, 63] (by decide +kernel) (by decide +kernel)
set_option maxRecDepth 20000 in
theorem gX2_reads_X2_readQuotient : GoodIn wsX2_reads (wsV RX2 126 RX2 yX2_readQuotient wsX2_readQuotient) := goodIn_app (goodIn_of _ (by decide +kernel)) ggX2_reads_X2_readQuotient
set_option maxRecDepth 20000 in
theorem ggX2_reads_X2_readShort : GoodIn wsX2_reads wsX2_readShort := goodIn_r _ [47, 3, 48, 14, 15, 16, 10, 17, 7, 8, 9, 11, 2, 12, 13, 18, 19, 20, 21, 22, 23, 24, 25, 26, 53, 54, 55, 56, 57, 58, 59, 60, 61, 62, 63] (by decide +kernel) (by decide +kernel)
set_option maxRecDepth 20000 in
theorem gX2_reads_X2_readShort : GoodIn wsX2_reads (wsV RX2 129 RX2 yX2_readShort wsX2_readShort) := goodIn_app (goodIn_of _ (by decide +kernel)) ggX2_reads_X2_readShort
set_option maxRecDepth 20000 in
theorem ggX2_reads_X2_readGroups : GoodIn wsX2_reads wsX2_readGroups := goodIn_r _ [52, 3, 48, 23, 24, 25, 10, 26, 2, 12, 13, 18, 19, 20, 21, 22, 53, 54, 55, 56, 57, 58, 59, 60, 61, 62, 63] (by decide +kernel) (by decide +kernel)
set_option maxRecDepth 20000 in
theorem gX2_reads_X2_readGroups : GoodIn wsX2_reads (wsV RX2 132 RX2 yX2_readGroups wsX2_readGroups) := goodIn_app (goodIn_of _ (by decide +kernel)) ggX2_reads_X2_readGroups
theorem dX2_reads_0 : decode cX2_reads 0 = .ok (.aload_n 0, 1) := by decide +kernel
theorem dX2_reads_1 : decode cX2_reads 1 = .ok (.aload_n 0, 1) := by decide +kernel
theorem dX2_reads_2 : decode cX2_reads 2 = .ok (.getfield 115, 3) := by decide +kernel
theorem dX2_reads_5 : decode cX2_reads 5 = .ok (.putfield 89, 3) := by decide +kernel
theorem dX2_reads_8 : decode cX2_reads 8 = .ok (.aload_n 0, 1) := by decide +kernel
theorem dX2_reads_9 : decode cX2_reads 9 = .ok (.iconst 0, 1) := by decide +kernel
theorem dX2_reads_10 : decode cX2_reads 10 = .ok (.putfield 92, 3) := by decide +kernel
theorem dX2_reads_13 : decode cX2_reads 13 = .ok (.lconst 0, 1) := by decide +kernel
theorem dX2_reads_14 : decode cX2_reads 14 = .ok (.lstore_n 3, 1) := by decide +kernel
theorem dX2_reads_15 : decode cX2_reads 15 = .ok (.iload_n 1, 1) := by decide +kernel
theorem dX2_reads_16 : decode cX2_reads 16 = .ok (.tableswitch 174 0 6 #[44, 66, 74, 140, 148, 156, 165], 44) := by decide +kernel
theorem dX2_reads_60 : decode cX2_reads 60 = .ok (.aload_n 0, 1) := by decide +kernel
theorem dX2_reads_61 : decode cX2_reads 61 = .ok (.iconst 1, 1) := by decide +kernel
theorem dX2_reads_62 : decode cX2_reads 62 = .ok (.invokevirtual 100, 3) := by decide +kernel
theorem dX2_reads_65 : decode cX2_reads 65 = .ok (.i2l, 1) := by decide +kernel
theorem dX2_reads_66 : decode cX2_reads 66 = .ok (.lconst 1, 1) := by decide +kernel
theorem dX2_reads_67 : decode cX2_reads 67 = .ok (.ladd, 1) := by decide +kernel
theorem dX2_reads_68 : decode cX2_reads 68 = .ok (.lstore_n 3, 1) := by decide +kernel
theorem dX2_reads_69 : decode cX2_reads 69 = .ok (.aload_n 0, 1) := by decide +kernel
theorem dX2_reads_70 : decode cX2_reads 70 = .ok (.dup, 1) := by decide +kernel
theorem dX2_reads_71 : decode cX2_reads 71 = .ok (.getfield 89, 3) := by decide +kernel
theorem dX2_reads_74 : decode cX2_reads 74 = .ok (.iconst 1, 1) := by decide +kernel
theorem dX2_reads_75 : decode cX2_reads 75 = .ok (.iadd, 1) := by decide +kernel
theorem dX2_reads_76 : decode cX2_reads 76 = .ok (.putfield 89, 3) := by decide +kernel
theorem dX2_reads_79 : decode cX2_reads 79 = .ok (.goto 117, 3) := by decide +kernel
theorem dX2_reads_82 : decode cX2_reads 82 = .ok (.aload_n 0, 1) := by decide +kernel
theorem dX2_reads_83 : decode cX2_reads 83 = .ok (.invokevirtual 109, 3) := by decide +kernel
theorem dX2_reads_86 : decode cX2_reads 86 = .ok (.lstore_n 3, 1) := by decide +kernel
theorem dX2_reads_87 : decode cX2_reads 87 = .ok (.goto 109, 3) := by decide +kernel
theorem dX2_reads_90 : decode cX2_reads 90 = .ok (.aload_n 0, 1) := by decide +kernel
theorem dX2_reads_91 : decode cX2_reads 91 = .ok (.invokevirtual 109, 3) := by decide +kernel
theorem dX2_reads_94 : decode cX2_reads 94 = .ok (.lstore 5, 2) := by decide +kernel
theorem dX2_reads_96 : decode cX2_reads 96 = .ok (.lload 5, 2) := by decide +kernel
theorem dX2_reads_98 : decode cX2_reads 98 = .ok (.ldc2_w 118, 3) := by decide +kernel
theorem dX2_reads_101 : decode cX2_reads 101 = .ok (.lcmp, 1) := by decide +kernel
theorem dX2_reads_102 : decode cX2_reads 102 = .ok (.ifCond .le 11, 3) := by decide +kernel
theorem dX2_reads_105 : decode cX2_reads 105 = .ok (.aload_n 0, 1) := by decide +kernel
theorem dX2_reads_106 : decode cX2_reads 106 = .ok (.iconst 1, 1) := by decide +kernel
theorem dX2_reads_107 : decode cX2_reads 107 = .ok (.putfield 92, 3) := by decide +kernel
theorem dX2_reads_110 : decode cX2_reads 110 = .ok (.goto 86, 3) := by decide +kernel
theorem dX2_reads_113 : decode cX2_reads 113 = .ok (.aload_n 0, 1) := by decide +kernel
theorem dX2_reads_114 : decode cX2_reads 114 = .ok (.getfield 92, 3) := by decide +kernel
theorem dX2_reads_117 : decode cX2_reads 117 = .ok (.ifCond .ne 79, 3) := by decide +kernel
theorem dX2_reads_120 : decode cX2_reads 120 = .ok (.aload_n 0, 1) := by decide +kernel
theorem dX2_reads_121 : decode cX2_reads 121 = .ok (.lload 5, 2) := by decide +kernel
theorem dX2_reads_123 : decode cX2_reads 123 = .ok (.l2i, 1) := by decide +kernel
theorem dX2_reads_124 : decode cX2_reads 124 = .ok (.iconst 1, 1) := by decide +kernel
theorem dX2_reads_125 : decode cX2_reads 125 = .ok (.isub, 1) := by decide +kernel
theorem dX2_reads_126 : decode cX2_reads 126 = .ok (.invokevirtual 103, 3) := by decide +kernel
theorem dX2_reads_129 : decode cX2_reads 129 = .ok (.lstore 7, 2) := by decide +kernel
theorem dX2_reads_131 : decode cX2_reads 131 = .ok (.aload_n 0, 1) := by decide +kernel
theorem dX2_reads_132 : decode cX2_reads 132 = .ok (.getfield 92, 3) := by decide +kernel
theorem dX2_reads_135 : decode cX2_reads 135 = .ok (.ifCond .eq 7, 3) := by decide +kernel
theorem dX2_reads_138 : decode cX2_reads 138 = .ok (.lconst 0, 1) := by decide +kernel
theorem dX2_reads_139 : decode cX2_reads 139 = .ok (.goto 13, 3) := by decide +kernel
theorem dX2_reads_142 : decode cX2_reads 142 = .ok (.lconst 1, 1) := by decide +kernel
theorem dX2_reads_143 : decode cX2_reads 143 = .ok (.lload 5, 2) := by decide +kernel
theorem dX2_reads_145 : decode cX2_reads 145 = .ok (.l2i, 1) := by decide +kernel
theorem dX2_reads_146 : decode cX2_reads 146 = .ok (.iconst 1, 1) := by decide +kernel
theorem dX2_reads_147 : decode cX2_reads 147 = .ok (.isub, 1) := by decide +kernel
theorem dX2_reads_148 : decode cX2_reads 148 = .ok (.lshl, 1) := by decide +kernel
theorem dX2_reads_149 : decode cX2_reads 149 = .ok (.lload 7, 2) := by decide +kernel
theorem dX2_reads_151 : decode cX2_reads 151 = .ok (.ladd, 1) := by decide +kernel
theorem dX2_reads_152 : decode cX2_reads 152 = .ok (.lstore_n 3, 1) := by decide +kernel
theorem dX2_reads_153 : decode cX2_reads 153 = .ok (.goto 43, 3) := by decide +kernel
theorem dX2_reads_156 : decode cX2_reads 156 = .ok (.aload_n 0, 1) := by decide +kernel
theorem dX2_reads_157 : decode cX2_reads 157 = .ok (.invokevirtual 120, 3) := by decide +kernel
theorem dX2_reads_160 : decode cX2_reads 160 = .ok (.lstore_n 3, 1) := by decide +kernel
theorem dX2_reads_161 : decode cX2_reads 161 = .ok (.goto 35, 3) := by decide +kernel
theorem dX2_reads_164 : decode cX2_reads 164 = .ok (.aload_n 0, 1) := by decide +kernel
theorem dX2_reads_165 : decode cX2_reads 165 = .ok (.invokevirtual 123, 3) := by decide +kernel
theorem dX2_reads_168 : decode cX2_reads 168 = .ok (.lstore_n 3, 1) := by decide +kernel
theorem dX2_reads_169 : decode cX2_reads 169 = .ok (.goto 27, 3) := by decide +kernel
theorem dX2_reads_172 : decode cX2_reads 172 = .ok (.aload_n 0, 1) := by decide +kernel
theorem dX2_reads_173 : decode cX2_reads 173 = .ok (.iload_n 2, 1) := by decide +kernel
theorem dX2_reads_174 : decode cX2_reads 174 = .ok (.invokevirtual 126, 3) := by decide +kernel
theorem dX2_reads_177 : decode cX2_reads 177 = .ok (.lstore_n 3, 1) := by decide +kernel
theorem dX2_reads_178 : decode cX2_reads 178 = .ok (.goto 18, 3) := by decide +kernel
theorem dX2_reads_181 : decode cX2_reads 181 = .ok (.aload_n 0, 1) := by decide +kernel
theorem dX2_reads_182 : decode cX2_reads 182 = .ok (.iload_n 2, 1) := by decide +kernel
theorem dX2_reads_183 : decode cX2_reads 183 = .ok (.invokevirtual 129, 3) := by decide +kernel
theorem dX2_reads_186 : decode cX2_reads 186 = .ok (.lstore_n 3, 1) := by decide +kernel
theorem dX2_reads_187 : decode cX2_reads 187 = .ok (.goto 9, 3) := by decide +kernel
theorem dX2_reads_190 : decode cX2_reads 190 = .ok (.aload_n 0, 1) := by decide +kernel
theorem dX2_reads_191 : decode cX2_reads 191 = .ok (.iload_n 2, 1) := by decide +kernel
theorem dX2_reads_192 : decode cX2_reads 192 = .ok (.invokevirtual 132, 3) := by decide +kernel
theorem dX2_reads_195 : decode cX2_reads 195 = .ok (.lstore_n 3, 1) := by decide +kernel
theorem dX2_reads_196 : decode cX2_reads 196 = .ok (.aload_n 0, 1) := by decide +kernel
theorem dX2_reads_197 : decode cX2_reads 197 = .ok (.getfield 92, 3) := by decide +kernel
theorem dX2_reads_200 : decode cX2_reads 200 = .ok (.ifCond .ne 17, 3) := by decide +kernel
theorem dX2_reads_203 : decode cX2_reads 203 = .ok (.lload_n 3, 1) := by decide +kernel
theorem dX2_reads_204 : decode cX2_reads 204 = .ok (.lconst 1, 1) := by decide +kernel
theorem dX2_reads_205 : decode cX2_reads 205 = .ok (.lcmp, 1) := by decide +kernel
theorem dX2_reads_206 : decode cX2_reads 206 = .ok (.ifCond .lt 11, 3) := by decide +kernel
theorem dX2_reads_209 : decode cX2_reads 209 = .ok (.lload_n 3, 1) := by decide +kernel
theorem dX2_reads_210 : decode cX2_reads 210 = .ok (.ldc2_w 30, 3) := by decide +kernel
theorem dX2_reads_213 : decode cX2_reads 213 = .ok (.lcmp, 1) := by decide +kernel
theorem dX2_reads_214 : decode cX2_reads 214 = .ok (.ifCond .le 7, 3) := by decide +kernel
theorem dX2_reads_217 : decode cX2_reads 217 = .ok (.ldc2_w 135, 3) := by decide +kernel
theorem dX2_reads_220 : decode cX2_reads 220 = .ok (.lreturn, 1) := by decide +kernel
theorem dX2_reads_221 : decode cX2_reads 221 = .ok (.aload_n 0, 1) := by decide +kernel
theorem dX2_reads_222 : decode cX2_reads 222 = .ok (.aload_n 0, 1) := by decide +kernel
theorem dX2_reads_223 : decode cX2_reads 223 = .ok (.getfield 89, 3) := by decide +kernel
theorem dX2_reads_226 : decode cX2_reads 226 = .ok (.putfield 115, 3) := by decide +kernel
theorem dX2_reads_229 : decode cX2_reads 229 = .ok (.lload_n 3, 1) := by decide +kernel
theorem dX2_reads_230 : decode cX2_reads 230 = .ok (.lreturn, 1) := by decide +kernel
theorem dX2_firstOf_0 : decode cX2_firstOf 0 = .ok (.lconst 1, 1) := by decide +kernel
theorem dX2_firstOf_1 : decode cX2_firstOf 1 = .ok (.iload_n 0, 1) := by decide +kernel
theorem dX2_firstOf_2 : decode cX2_firstOf 2 = .ok (.iconst 1, 1) := by decide +kernel
theorem dX2_firstOf_3 : decode cX2_firstOf 3 = .ok (.isub, 1) := by decide +kernel
theorem dX2_firstOf_4 : decode cX2_firstOf 4 = .ok (.lshl, 1) := by decide +kernel
theorem dX2_firstOf_5 : decode cX2_firstOf 5 = .ok (.lreturn, 1) := by decide +kernel
theorem dX2_lastOf_0 : decode cX2_lastOf 0 = .ok (.iload_n 0, 1) := by decide +kernel
theorem dX2_lastOf_1 : decode cX2_lastOf 1 = .ok (.bipush 62, 2) := by decide +kernel
theorem dX2_lastOf_3 : decode cX2_lastOf 3 = .ok (.if_icmp .le 9, 3) := by decide +kernel
theorem dX2_lastOf_6 : decode cX2_lastOf 6 = .ok (.ldc2_w 30, 3) := by decide +kernel
theorem dX2_lastOf_9 : decode cX2_lastOf 9 = .ok (.goto 8, 3) := by decide +kernel
theorem dX2_lastOf_12 : decode cX2_lastOf 12 = .ok (.lconst 1, 1) := by decide +kernel
theorem dX2_lastOf_13 : decode cX2_lastOf 13 = .ok (.iload_n 0, 1) := by decide +kernel
theorem dX2_lastOf_14 : decode cX2_lastOf 14 = .ok (.lshl, 1) := by decide +kernel
theorem dX2_lastOf_15 : decode cX2_lastOf 15 = .ok (.lconst 1, 1) := by decide +kernel
theorem dX2_lastOf_16 : decode cX2_lastOf 16 = .ok (.lsub, 1) := by decide +kernel
theorem dX2_lastOf_17 : decode cX2_lastOf 17 = .ok (.lreturn, 1) := by decide +kernel
set_option maxRecDepth 20000 in
theorem ggX2_bitsFor_X2_firstOf : GoodIn wsX2_bitsFor wsX2_firstOf := goodIn_r _ [4] (by decide +kernel) (by decide +kernel)
set_option maxRecDepth 20000 in
theorem gX2_bitsFor_X2_firstOf : GoodIn wsX2_bitsFor (va_wsS RX2 137 yX2_firstOf wsX2_firstOf) := goodIn_app (goodIn_of _ (by decide +kernel)) ggX2_bitsFor_X2_firstOf
set_option maxRecDepth 20000 in
theorem ggX2_bitsFor_X2_lengthOf : GoodIn wsX2_bitsFor wsX2_lengthOf := goodIn_r _ [8, 9, 10, 11, 3, 12, 13, 14, 15, 16, 17, 18, 19, 20, 21, 22, 23, 24, 25, 26, 27, 28, 29, 30, 31, 32, 33, 34] (by decide +kernel) (by decide +kernel)
set_option maxRecDepth 20000 in
theorem gX2_bitsFor_X2_lengthOf : GoodIn wsX2_bitsFor (wsV RX2 78 RX2 yX2_lengthOf wsX2_lengthOf) := goodIn_app (goodIn_of _ (by decide +kernel)) ggX2_bitsFor_X2_lengthOf
theorem dX2_bitsFor_0 : decode cX2_bitsFor 0 = .ok (.iconst 1, 1) := by decide +kernel
theorem dX2_bitsFor_1 : decode cX2_bitsFor 1 = .ok (.istore_n 3, 1) := by decide +kernel
theorem dX2_bitsFor_2 : decode cX2_bitsFor 2 = .ok (.iload_n 3, 1) := by decide +kernel
theorem dX2_bitsFor_3 : decode cX2_bitsFor 3 = .ok (.bipush 64, 2) := by decide +kernel
theorem dX2_bitsFor_5 : decode cX2_bitsFor 5 = .ok (.if_icmp .ge 27, 3) := by decide +kernel
theorem dX2_bitsFor_8 : decode cX2_bitsFor 8 = .ok (.aload_n 0, 1) := by decide +kernel
theorem dX2_bitsFor_9 : decode cX2_bitsFor 9 = .ok (.iload_n 1, 1) := by decide +kernel
theorem dX2_bitsFor_10 : decode cX2_bitsFor 10 = .ok (.iconst 0, 1) := by decide +kernel
theorem dX2_bitsFor_11 : decode cX2_bitsFor 11 = .ok (.iload_n 3, 1) := by decide +kernel
theorem dX2_bitsFor_12 : decode cX2_bitsFor 12 = .ok (.invokestatic 137, 3) := by decide +kernel
theorem dX2_bitsFor_15 : decode cX2_bitsFor 15 = .ok (.invokevirtual 78, 3) := by decide +kernel
theorem dX2_bitsFor_18 : decode cX2_bitsFor 18 = .ok (.iload_n 2, 1) := by decide +kernel
theorem dX2_bitsFor_19 : decode cX2_bitsFor 19 = .ok (.i2l, 1) := by decide +kernel
theorem dX2_bitsFor_20 : decode cX2_bitsFor 20 = .ok (.lcmp, 1) := by decide +kernel
theorem dX2_bitsFor_21 : decode cX2_bitsFor 21 = .ok (.ifCond .ne 5, 3) := by decide +kernel
theorem dX2_bitsFor_24 : decode cX2_bitsFor 24 = .ok (.iload_n 3, 1) := by decide +kernel
theorem dX2_bitsFor_25 : decode cX2_bitsFor 25 = .ok (.ireturn, 1) := by decide +kernel
theorem dX2_bitsFor_26 : decode cX2_bitsFor 26 = .ok (.iinc 3 1, 3) := by decide +kernel
theorem dX2_bitsFor_29 : decode cX2_bitsFor 29 = .ok (.goto (-27), 3) := by decide +kernel
theorem dX2_bitsFor_32 : decode cX2_bitsFor 32 = .ok (.iconst 0, 1) := by decide +kernel
theorem dX2_bitsFor_33 : decode cX2_bitsFor 33 = .ok (.ireturn, 1) := by decide +kernel
set_option maxRecDepth 20000 in
theorem ggX2_edge_X2_bitsFor : GoodIn wsX2_edge wsX2_bitsFor := goodIn_r _ [7, 8, 9, 6, 10, 11, 12, 13, 14, 15, 16, 17, 18, 19, 20, 21, 22, 23, 24, 25, 1, 26, 27, 28, 32, 33, 34, 35, 36, 37, 38, 39, 40, 41, 42] (by decide +kernel) (by decide +kernel)
set_option maxRecDepth 20000 in
theorem gX2_edge_X2_bitsFor : GoodIn wsX2_edge (wsV RX2 140 RX2 yX2_bitsFor wsX2_bitsFor) := goodIn_app (goodIn_of _ (by decide +kernel)) ggX2_edge_X2_bitsFor
set_option maxRecDepth 20000 in
theorem ggX2_edge_X2_lastOf : GoodIn wsX2_edge wsX2_lastOf := goodIn_r _ [31, 2] (by decide +kernel) (by decide +kernel)
set_option maxRecDepth 20000 in
theorem gX2_edge_X2_lastOf : GoodIn wsX2_edge (va_wsS RX2 144 yX2_lastOf wsX2_lastOf) := goodIn_app (goodIn_of _ (by decide +kernel)) ggX2_edge_X2_lastOf
set_option maxRecDepth 20000 in
theorem ggX2_edge_X2_firstOf : GoodIn wsX2_edge wsX2_firstOf := goodIn_r _ [10] (by decide +kernel) (by decide +kernel)
set_option maxRecDepth 20000 in
theorem gX2_edge_X2_firstOf : GoodIn wsX2_edge (va_wsS RX2 137 yX2_firstOf wsX2_firstOf) := goodIn_app (goodIn_of _ (by decide +kernel)) ggX2_edge_X2_firstOf
theorem dX2_edge_0 : decode cX2_edge 0 = .ok (.iload_n 1, 1) := by decide +kernel
theorem dX2_edge_1 : decode cX2_edge 1 = .ok (.ifCond .ne 6, 3) := by decide +kernel
theorem dX2_edge_4 : decode cX2_edge 4 = .ok (.iload_n 3, 1) := by decide +kernel
theorem dX2_edge_5 : decode cX2_edge 5 = .ok (.i2l, 1) := by decide +kernel
theorem dX2_edge_6 : decode cX2_edge 6 = .ok (.lreturn, 1) := by decide +kernel
theorem dX2_edge_7 : decode cX2_edge 7 = .ok (.iload_n 1, 1) := by decide +kernel
theorem dX2_edge_8 : decode cX2_edge 8 = .ok (.iconst 4, 1) := by decide +kernel
theorem dX2_edge_9 : decode cX2_edge 9 = .ok (.if_icmp .ge 39, 3) := by decide +kernel
theorem dX2_edge_12 : decode cX2_edge 12 = .ok (.aload_n 0, 1) := by decide +kernel
theorem dX2_edge_13 : decode cX2_edge 13 = .ok (.iload_n 1, 1) := by decide +kernel
theorem dX2_edge_14 : decode cX2_edge 14 = .ok (.iload_n 3, 1) := by decide +kernel
theorem dX2_edge_15 : decode cX2_edge 15 = .ok (.invokevirtual 140, 3) := by decide +kernel
theorem dX2_edge_18 : decode cX2_edge 18 = .ok (.istore 5, 2) := by decide +kernel
theorem dX2_edge_20 : decode cX2_edge 20 = .ok (.iload 5, 2) := by decide +kernel
theorem dX2_edge_22 : decode cX2_edge 22 = .ok (.ifCond .ne 7, 3) := by decide +kernel
theorem dX2_edge_25 : decode cX2_edge 25 = .ok (.lconst 0, 1) := by decide +kernel
theorem dX2_edge_26 : decode cX2_edge 26 = .ok (.goto 21, 3) := by decide +kernel
theorem dX2_edge_29 : decode cX2_edge 29 = .ok (.iload 4, 2) := by decide +kernel
theorem dX2_edge_31 : decode cX2_edge 31 = .ok (.ifCond .eq 11, 3) := by decide +kernel
theorem dX2_edge_34 : decode cX2_edge 34 = .ok (.iload 5, 2) := by decide +kernel
theorem dX2_edge_36 : decode cX2_edge 36 = .ok (.invokestatic 144, 3) := by decide +kernel
theorem dX2_edge_39 : decode cX2_edge 39 = .ok (.goto 8, 3) := by decide +kernel
theorem dX2_edge_42 : decode cX2_edge 42 = .ok (.iload 5, 2) := by decide +kernel
theorem dX2_edge_44 : decode cX2_edge 44 = .ok (.invokestatic 137, 3) := by decide +kernel
theorem dX2_edge_47 : decode cX2_edge 47 = .ok (.lreturn, 1) := by decide +kernel
theorem dX2_edge_48 : decode cX2_edge 48 = .ok (.iload_n 1, 1) := by decide +kernel
theorem dX2_edge_49 : decode cX2_edge 49 = .ok (.iconst 4, 1) := by decide +kernel
theorem dX2_edge_50 : decode cX2_edge 50 = .ok (.if_icmp .ne 69, 3) := by decide +kernel
theorem dX2_edge_53 : decode cX2_edge 53 = .ok (.iload_n 3, 1) := by decide +kernel
theorem dX2_edge_54 : decode cX2_edge 54 = .ok (.iconst 1, 1) := by decide +kernel
theorem dX2_edge_55 : decode cX2_edge 55 = .ok (.isub, 1) := by decide +kernel
theorem dX2_edge_56 : decode cX2_edge 56 = .ok (.istore 5, 2) := by decide +kernel
theorem dX2_edge_58 : decode cX2_edge 58 = .ok (.iload 5, 2) := by decide +kernel
theorem dX2_edge_60 : decode cX2_edge 60 = .ok (.iconst 1, 1) := by decide +kernel
theorem dX2_edge_61 : decode cX2_edge 61 = .ok (.if_icmp .lt 10, 3) := by decide +kernel
theorem dX2_edge_64 : decode cX2_edge 64 = .ok (.iload 5, 2) := by decide +kernel
theorem dX2_edge_66 : decode cX2_edge 66 = .ok (.bipush 89, 2) := by decide +kernel
theorem dX2_edge_68 : decode cX2_edge 68 = .ok (.if_icmp .le 5, 3) := by decide +kernel
theorem dX2_edge_71 : decode cX2_edge 71 = .ok (.lconst 0, 1) := by decide +kernel
theorem dX2_edge_72 : decode cX2_edge 72 = .ok (.lreturn, 1) := by decide +kernel
theorem dX2_edge_73 : decode cX2_edge 73 = .ok (.aload_n 0, 1) := by decide +kernel
theorem dX2_edge_74 : decode cX2_edge 74 = .ok (.getfield 20, 3) := by decide +kernel
theorem dX2_edge_77 : decode cX2_edge 77 = .ok (.iload 5, 2) := by decide +kernel
theorem dX2_edge_79 : decode cX2_edge 79 = .ok (.iconst 1, 1) := by decide +kernel
theorem dX2_edge_80 : decode cX2_edge 80 = .ok (.iadd, 1) := by decide +kernel
theorem dX2_edge_81 : decode cX2_edge 81 = .ok (.laload, 1) := by decide +kernel
theorem dX2_edge_82 : decode cX2_edge 82 = .ok (.lconst 1, 1) := by decide +kernel
theorem dX2_edge_83 : decode cX2_edge 83 = .ok (.lsub, 1) := by decide +kernel
theorem dX2_edge_84 : decode cX2_edge 84 = .ok (.lstore 6, 2) := by decide +kernel
theorem dX2_edge_86 : decode cX2_edge 86 = .ok (.iload 4, 2) := by decide +kernel
theorem dX2_edge_88 : decode cX2_edge 88 = .ok (.ifCond .ne 13, 3) := by decide +kernel
theorem dX2_edge_91 : decode cX2_edge 91 = .ok (.aload_n 0, 1) := by decide +kernel
theorem dX2_edge_92 : decode cX2_edge 92 = .ok (.getfield 20, 3) := by decide +kernel
theorem dX2_edge_95 : decode cX2_edge 95 = .ok (.iload 5, 2) := by decide +kernel
theorem dX2_edge_97 : decode cX2_edge 97 = .ok (.laload, 1) := by decide +kernel
theorem dX2_edge_98 : decode cX2_edge 98 = .ok (.goto 20, 3) := by decide +kernel
theorem dX2_edge_101 : decode cX2_edge 101 = .ok (.lload 6, 2) := by decide +kernel
theorem dX2_edge_103 : decode cX2_edge 103 = .ok (.ldc2_w 30, 3) := by decide +kernel
theorem dX2_edge_106 : decode cX2_edge 106 = .ok (.lcmp, 1) := by decide +kernel
theorem dX2_edge_107 : decode cX2_edge 107 = .ok (.ifCond .le 9, 3) := by decide +kernel
theorem dX2_edge_110 : decode cX2_edge 110 = .ok (.ldc2_w 30, 3) := by decide +kernel
theorem dX2_edge_113 : decode cX2_edge 113 = .ok (.goto 5, 3) := by decide +kernel
theorem dX2_edge_116 : decode cX2_edge 116 = .ok (.lload 6, 2) := by decide +kernel
theorem dX2_edge_118 : decode cX2_edge 118 = .ok (.lreturn, 1) := by decide +kernel
theorem dX2_edge_119 : decode cX2_edge 119 = .ok (.iload_n 1, 1) := by decide +kernel
theorem dX2_edge_120 : decode cX2_edge 120 = .ok (.bipush 6, 2) := by decide +kernel
theorem dX2_edge_122 : decode cX2_edge 122 = .ok (.if_icmp .ne 105, 3) := by decide +kernel
theorem dX2_edge_125 : decode cX2_edge 125 = .ok (.iload_n 3, 1) := by decide +kernel
theorem dX2_edge_126 : decode cX2_edge 126 = .ok (.iload_n 2, 1) := by decide +kernel
theorem dX2_edge_127 : decode cX2_edge 127 = .ok (.isub, 1) := by decide +kernel
theorem dX2_edge_128 : decode cX2_edge 128 = .ok (.iconst 1, 1) := by decide +kernel
theorem dX2_edge_129 : decode cX2_edge 129 = .ok (.iadd, 1) := by decide +kernel
theorem dX2_edge_130 : decode cX2_edge 130 = .ok (.iconst 2, 1) := by decide +kernel
theorem dX2_edge_131 : decode cX2_edge 131 = .ok (.idiv, 1) := by decide +kernel
theorem dX2_edge_132 : decode cX2_edge 132 = .ok (.istore 5, 2) := by decide +kernel
theorem dX2_edge_134 : decode cX2_edge 134 = .ok (.iload_n 3, 1) := by decide +kernel
theorem dX2_edge_135 : decode cX2_edge 135 = .ok (.iload_n 2, 1) := by decide +kernel
theorem dX2_edge_136 : decode cX2_edge 136 = .ok (.isub, 1) := by decide +kernel
theorem dX2_edge_137 : decode cX2_edge 137 = .ok (.iconst 1, 1) := by decide +kernel
theorem dX2_edge_138 : decode cX2_edge 138 = .ok (.if_icmp .lt 20, 3) := by decide +kernel
theorem dX2_edge_141 : decode cX2_edge 141 = .ok (.iload_n 3, 1) := by decide +kernel
theorem dX2_edge_142 : decode cX2_edge 142 = .ok (.iload_n 2, 1) := by decide +kernel
theorem dX2_edge_143 : decode cX2_edge 143 = .ok (.isub, 1) := by decide +kernel
theorem dX2_edge_144 : decode cX2_edge 144 = .ok (.iconst 2, 1) := by decide +kernel
theorem dX2_edge_145 : decode cX2_edge 145 = .ok (.irem, 1) := by decide +kernel
theorem dX2_edge_146 : decode cX2_edge 146 = .ok (.ifCond .eq 12, 3) := by decide +kernel
theorem dX2_edge_149 : decode cX2_edge 149 = .ok (.iload 5, 2) := by decide +kernel
theorem dX2_edge_151 : decode cX2_edge 151 = .ok (.bipush 63, 2) := by decide +kernel
theorem dX2_edge_153 : decode cX2_edge 153 = .ok (.iload_n 2, 1) := by decide +kernel
theorem dX2_edge_154 : decode cX2_edge 154 = .ok (.isub, 1) := by decide +kernel
theorem dX2_edge_155 : decode cX2_edge 155 = .ok (.if_icmp .le 5, 3) := by decide +kernel
theorem dX2_edge_158 : decode cX2_edge 158 = .ok (.lconst 0, 1) := by decide +kernel
theorem dX2_edge_159 : decode cX2_edge 159 = .ok (.lreturn, 1) := by decide +kernel
theorem dX2_edge_160 : decode cX2_edge 160 = .ok (.ldc2_w 30, 3) := by decide +kernel
theorem dX2_edge_163 : decode cX2_edge 163 = .ok (.iload_n 2, 1) := by decide +kernel
theorem dX2_edge_164 : decode cX2_edge 164 = .ok (.lshr, 1) := by decide +kernel
theorem dX2_edge_165 : decode cX2_edge 165 = .ok (.lstore 6, 2) := by decide +kernel
theorem dX2_edge_167 : decode cX2_edge 167 = .ok (.iload 5, 2) := by decide +kernel
theorem dX2_edge_169 : decode cX2_edge 169 = .ok (.bipush 62, 2) := by decide +kernel
theorem dX2_edge_171 : decode cX2_edge 171 = .ok (.if_icmp .gt 14, 3) := by decide +kernel
theorem dX2_edge_174 : decode cX2_edge 174 = .ok (.iload 5, 2) := by decide +kernel
theorem dX2_edge_176 : decode cX2_edge 176 = .ok (.invokestatic 144, 3) := by decide +kernel
theorem dX2_edge_179 : decode cX2_edge 179 = .ok (.lload 6, 2) := by decide +kernel
theorem dX2_edge_181 : decode cX2_edge 181 = .ok (.lcmp, 1) := by decide +kernel
theorem dX2_edge_182 : decode cX2_edge 182 = .ok (.ifCond .le 8, 3) := by decide +kernel
theorem dX2_edge_185 : decode cX2_edge 185 = .ok (.lload 6, 2) := by decide +kernel
theorem dX2_edge_187 : decode cX2_edge 187 = .ok (.goto 8, 3) := by decide +kernel
theorem dX2_edge_190 : decode cX2_edge 190 = .ok (.iload 5, 2) := by decide +kernel
theorem dX2_edge_192 : decode cX2_edge 192 = .ok (.invokestatic 144, 3) := by decide +kernel
theorem dX2_edge_195 : decode cX2_edge 195 = .ok (.lstore 8, 2) := by decide +kernel
theorem dX2_edge_197 : decode cX2_edge 197 = .ok (.iload 4, 2) := by decide +kernel
theorem dX2_edge_199 : decode cX2_edge 199 = .ok (.ifCond .eq 16, 3) := by decide +kernel
theorem dX2_edge_202 : decode cX2_edge 202 = .ok (.lload 8, 2) := by decide +kernel
theorem dX2_edge_204 : decode cX2_edge 204 = .ok (.lconst 1, 1) := by decide +kernel
theorem dX2_edge_205 : decode cX2_edge 205 = .ok (.lsub, 1) := by decide +kernel
theorem dX2_edge_206 : decode cX2_edge 206 = .ok (.iload_n 2, 1) := by decide +kernel
theorem dX2_edge_207 : decode cX2_edge 207 = .ok (.lshl, 1) := by decide +kernel
theorem dX2_edge_208 : decode cX2_edge 208 = .ok (.lconst 1, 1) := by decide +kernel
theorem dX2_edge_209 : decode cX2_edge 209 = .ok (.iload_n 2, 1) := by decide +kernel
theorem dX2_edge_210 : decode cX2_edge 210 = .ok (.lshl, 1) := by decide +kernel
theorem dX2_edge_211 : decode cX2_edge 211 = .ok (.ladd, 1) := by decide +kernel
theorem dX2_edge_212 : decode cX2_edge 212 = .ok (.goto 14, 3) := by decide +kernel
theorem dX2_edge_215 : decode cX2_edge 215 = .ok (.iload 5, 2) := by decide +kernel
theorem dX2_edge_217 : decode cX2_edge 217 = .ok (.invokestatic 137, 3) := by decide +kernel
theorem dX2_edge_220 : decode cX2_edge 220 = .ok (.lconst 1, 1) := by decide +kernel
theorem dX2_edge_221 : decode cX2_edge 221 = .ok (.lsub, 1) := by decide +kernel
theorem dX2_edge_222 : decode cX2_edge 222 = .ok (.iload_n 2, 1) := by decide +kernel
theorem dX2_edge_223 : decode cX2_edge 223 = .ok (.lshl, 1) := by decide +kernel
theorem dX2_edge_224 : decode cX2_edge 224 = .ok (.lconst 1, 1) := by decide +kernel
theorem dX2_edge_225 : decode cX2_edge 225 = .ok (.ladd, 1) := by decide +kernel
theorem dX2_edge_226 : decode cX2_edge 226 = .ok (.lreturn, 1) := by decide +kernel
theorem dX2_edge_227 : decode cX2_edge 227 = .ok (.iload_n 3, 1) := by decide +kernel
theorem dX2_edge_228 : decode cX2_edge 228 = .ok (.iload_n 2, 1) := by decide +kernel
theorem dX2_edge_229 : decode cX2_edge 229 = .ok (.iconst 1, 1) := by decide +kernel
theorem dX2_edge_230 : decode cX2_edge 230 = .ok (.iadd, 1) := by decide +kernel
theorem dX2_edge_231 : decode cX2_edge 231 = .ok (.idiv, 1) := by decide +kernel
theorem dX2_edge_232 : decode cX2_edge 232 = .ok (.istore 5, 2) := by decide +kernel
theorem dX2_edge_234 : decode cX2_edge 234 = .ok (.iload_n 3, 1) := by decide +kernel
theorem dX2_edge_235 : decode cX2_edge 235 = .ok (.iload_n 2, 1) := by decide +kernel
theorem dX2_edge_236 : decode cX2_edge 236 = .ok (.iconst 1, 1) := by decide +kernel
theorem dX2_edge_237 : decode cX2_edge 237 = .ok (.iadd, 1) := by decide +kernel
theorem dX2_edge_238 : decode cX2_edge 238 = .ok (.irem, 1) := by decide +kernel
theorem dX2_edge_239 : decode cX2_edge 239 = .ok (.ifCond .ne 20, 3) := by decide +kernel
theorem dX2_edge_242 : decode cX2_edge 242 = .ok (.iload 5, 2) := by decide +kernel
theorem dX2_edge_244 : decode cX2_edge 244 = .ok (.iconst 1, 1) := by decide +kernel
theorem dX2_edge_245 : decode cX2_edge 245 = .ok (.if_icmp .lt 14, 3) := by decide +kernel
theorem dX2_edge_248 : decode cX2_edge 248 = .ok (.iload_n 2, 1) := by decide +kernel
theorem dX2_edge_249 : decode cX2_edge 249 = .ok (.iload 5, 2) := by decide +kernel
theorem dX2_edge_251 : decode cX2_edge 251 = .ok (.iconst 1, 1) := by decide +kernel
theorem dX2_edge_252 : decode cX2_edge 252 = .ok (.isub, 1) := by decide +kernel
theorem dX2_edge_253 : decode cX2_edge 253 = .ok (.imul, 1) := by decide +kernel
theorem dX2_edge_254 : decode cX2_edge 254 = .ok (.bipush 61, 2) := by decide +kernel
theorem dX2_edge_256 : decode cX2_edge 256 = .ok (.if_icmp .le 5, 3) := by decide +kernel
theorem dX2_edge_259 : decode cX2_edge 259 = .ok (.lconst 0, 1) := by decide +kernel
theorem dX2_edge_260 : decode cX2_edge 260 = .ok (.lreturn, 1) := by decide +kernel
theorem dX2_edge_261 : decode cX2_edge 261 = .ok (.iload_n 2, 1) := by decide +kernel
theorem dX2_edge_262 : decode cX2_edge 262 = .ok (.iload 5, 2) := by decide +kernel
theorem dX2_edge_264 : decode cX2_edge 264 = .ok (.imul, 1) := by decide +kernel
theorem dX2_edge_265 : decode cX2_edge 265 = .ok (.bipush 61, 2) := by decide +kernel
theorem dX2_edge_267 : decode cX2_edge 267 = .ok (.if_icmp .le 9, 3) := by decide +kernel
theorem dX2_edge_270 : decode cX2_edge 270 = .ok (.ldc2_w 30, 3) := by decide +kernel
theorem dX2_edge_273 : decode cX2_edge 273 = .ok (.goto 9, 3) := by decide +kernel
theorem dX2_edge_276 : decode cX2_edge 276 = .ok (.lconst 1, 1) := by decide +kernel
theorem dX2_edge_277 : decode cX2_edge 277 = .ok (.iload_n 2, 1) := by decide +kernel
theorem dX2_edge_278 : decode cX2_edge 278 = .ok (.iload 5, 2) := by decide +kernel
theorem dX2_edge_280 : decode cX2_edge 280 = .ok (.imul, 1) := by decide +kernel
theorem dX2_edge_281 : decode cX2_edge 281 = .ok (.lshl, 1) := by decide +kernel
theorem dX2_edge_282 : decode cX2_edge 282 = .ok (.lstore 6, 2) := by decide +kernel
theorem dX2_edge_284 : decode cX2_edge 284 = .ok (.iload 4, 2) := by decide +kernel
theorem dX2_edge_286 : decode cX2_edge 286 = .ok (.ifCond .eq 8, 3) := by decide +kernel
theorem dX2_edge_289 : decode cX2_edge 289 = .ok (.lload 6, 2) := by decide +kernel
theorem dX2_edge_291 : decode cX2_edge 291 = .ok (.goto 23, 3) := by decide +kernel
theorem dX2_edge_294 : decode cX2_edge 294 = .ok (.iload 5, 2) := by decide +kernel
theorem dX2_edge_296 : decode cX2_edge 296 = .ok (.iconst 1, 1) := by decide +kernel
theorem dX2_edge_297 : decode cX2_edge 297 = .ok (.if_icmp .ne 7, 3) := by decide +kernel
theorem dX2_edge_300 : decode cX2_edge 300 = .ok (.lconst 1, 1) := by decide +kernel
theorem dX2_edge_301 : decode cX2_edge 301 = .ok (.goto 13, 3) := by decide +kernel
theorem dX2_edge_304 : decode cX2_edge 304 = .ok (.lconst 1, 1) := by decide +kernel
theorem dX2_edge_305 : decode cX2_edge 305 = .ok (.iload_n 2, 1) := by decide +kernel
theorem dX2_edge_306 : decode cX2_edge 306 = .ok (.iload 5, 2) := by decide +kernel
theorem dX2_edge_308 : decode cX2_edge 308 = .ok (.iconst 1, 1) := by decide +kernel
theorem dX2_edge_309 : decode cX2_edge 309 = .ok (.isub, 1) := by decide +kernel
theorem dX2_edge_310 : decode cX2_edge 310 = .ok (.imul, 1) := by decide +kernel
theorem dX2_edge_311 : decode cX2_edge 311 = .ok (.lshl, 1) := by decide +kernel
theorem dX2_edge_312 : decode cX2_edge 312 = .ok (.lconst 1, 1) := by decide +kernel
theorem dX2_edge_313 : decode cX2_edge 313 = .ok (.ladd, 1) := by decide +kernel
theorem dX2_edge_314 : decode cX2_edge 314 = .ok (.lreturn, 1) := by decide +kernel
set_option maxRecDepth 20000 in
theorem ggX2_countOf_X2_edge : GoodIn wsX2_countOf wsX2_edge := goodIn_r _ [5, 6, 7, 8, 9, 10, 4, 11, 12, 13, 14, 15, 16, 17, 18, 19, 20, 21, 22, 23, 24, 25, 26, 27, 28, 29, 30, 31, 32, 33, 34, 35, 36, 37, 38, 39, 40, 41, 42, 43, 44, 45, 46] (by decide +kernel) (by decide +kernel)
set_option maxRecDepth 20000 in
theorem gX2_countOf_X2_edge : GoodIn wsX2_countOf (wsV RX2 147 RX2 yX2_edge wsX2_edge) := goodIn_app (goodIn_of _ (by decide +kernel)) ggX2_countOf_X2_edge
set_option maxRecDepth 20000 in
theorem ggX2_countOf_X2_powerFor : GoodIn wsX2_countOf wsX2_powerFor := goodIn_r _ [32] (by decide +kernel) (by decide +kernel)
set_option maxRecDepth 20000 in
theorem gX2_countOf_X2_powerFor : GoodIn wsX2_countOf (va_wsS RX2 43 yX2_powerFor wsX2_powerFor) := goodIn_app (goodIn_of _ (by decide +kernel)) ggX2_countOf_X2_powerFor
theorem dX2_countOf_0 : decode cX2_countOf 0 = .ok (.iload_n 1, 1) := by decide +kernel
theorem dX2_countOf_1 : decode cX2_countOf 1 = .ok (.iconst 5, 1) := by decide +kernel
theorem dX2_countOf_2 : decode cX2_countOf 2 = .ok (.if_icmp .eq 38, 3) := by decide +kernel
theorem dX2_countOf_5 : decode cX2_countOf 5 = .ok (.aload_n 0, 1) := by decide +kernel
theorem dX2_countOf_6 : decode cX2_countOf 6 = .ok (.iload_n 1, 1) := by decide +kernel
theorem dX2_countOf_7 : decode cX2_countOf 7 = .ok (.iload_n 2, 1) := by decide +kernel
theorem dX2_countOf_8 : decode cX2_countOf 8 = .ok (.iload_n 3, 1) := by decide +kernel
theorem dX2_countOf_9 : decode cX2_countOf 9 = .ok (.iconst 0, 1) := by decide +kernel
theorem dX2_countOf_10 : decode cX2_countOf 10 = .ok (.invokevirtual 147, 3) := by decide +kernel
theorem dX2_countOf_13 : decode cX2_countOf 13 = .ok (.lstore 4, 2) := by decide +kernel
theorem dX2_countOf_15 : decode cX2_countOf 15 = .ok (.lload 4, 2) := by decide +kernel
theorem dX2_countOf_17 : decode cX2_countOf 17 = .ok (.lconst 0, 1) := by decide +kernel
theorem dX2_countOf_18 : decode cX2_countOf 18 = .ok (.lcmp, 1) := by decide +kernel
theorem dX2_countOf_19 : decode cX2_countOf 19 = .ok (.ifCond .ne 7, 3) := by decide +kernel
theorem dX2_countOf_22 : decode cX2_countOf 22 = .ok (.lconst 0, 1) := by decide +kernel
theorem dX2_countOf_23 : decode cX2_countOf 23 = .ok (.goto 16, 3) := by decide +kernel
theorem dX2_countOf_26 : decode cX2_countOf 26 = .ok (.aload_n 0, 1) := by decide +kernel
theorem dX2_countOf_27 : decode cX2_countOf 27 = .ok (.iload_n 1, 1) := by decide +kernel
theorem dX2_countOf_28 : decode cX2_countOf 28 = .ok (.iload_n 2, 1) := by decide +kernel
theorem dX2_countOf_29 : decode cX2_countOf 29 = .ok (.iload_n 3, 1) := by decide +kernel
theorem dX2_countOf_30 : decode cX2_countOf 30 = .ok (.iconst 1, 1) := by decide +kernel
theorem dX2_countOf_31 : decode cX2_countOf 31 = .ok (.invokevirtual 147, 3) := by decide +kernel
theorem dX2_countOf_34 : decode cX2_countOf 34 = .ok (.lload 4, 2) := by decide +kernel
theorem dX2_countOf_36 : decode cX2_countOf 36 = .ok (.lsub, 1) := by decide +kernel
theorem dX2_countOf_37 : decode cX2_countOf 37 = .ok (.lconst 1, 1) := by decide +kernel
theorem dX2_countOf_38 : decode cX2_countOf 38 = .ok (.ladd, 1) := by decide +kernel
theorem dX2_countOf_39 : decode cX2_countOf 39 = .ok (.lreturn, 1) := by decide +kernel
theorem dX2_countOf_40 : decode cX2_countOf 40 = .ok (.iload_n 2, 1) := by decide +kernel
theorem dX2_countOf_41 : decode cX2_countOf 41 = .ok (.invokestatic 43, 3) := by decide +kernel
theorem dX2_countOf_44 : decode cX2_countOf 44 = .ok (.istore 4, 2) := by decide +kernel
theorem dX2_countOf_46 : decode cX2_countOf 46 = .ok (.iload 4, 2) := by decide +kernel
theorem dX2_countOf_48 : decode cX2_countOf 48 = .ok (.ifCond .ne 7, 3) := by decide +kernel
theorem dX2_countOf_51 : decode cX2_countOf 51 = .ok (.lconst 0, 1) := by decide +kernel
theorem dX2_countOf_52 : decode cX2_countOf 52 = .ok (.goto 10, 3) := by decide +kernel
theorem dX2_countOf_55 : decode cX2_countOf 55 = .ok (.lconst 1, 1) := by decide +kernel
theorem dX2_countOf_56 : decode cX2_countOf 56 = .ok (.iload 4, 2) := by decide +kernel
theorem dX2_countOf_58 : decode cX2_countOf 58 = .ok (.lshl, 1) := by decide +kernel
theorem dX2_countOf_59 : decode cX2_countOf 59 = .ok (.iload_n 2, 1) := by decide +kernel
theorem dX2_countOf_60 : decode cX2_countOf 60 = .ok (.i2l, 1) := by decide +kernel
theorem dX2_countOf_61 : decode cX2_countOf 61 = .ok (.lsub, 1) := by decide +kernel
theorem dX2_countOf_62 : decode cX2_countOf 62 = .ok (.lstore 5, 2) := by decide +kernel
theorem dX2_countOf_64 : decode cX2_countOf 64 = .ok (.iload_n 3, 1) := by decide +kernel
theorem dX2_countOf_65 : decode cX2_countOf 65 = .ok (.iload 4, 2) := by decide +kernel
theorem dX2_countOf_67 : decode cX2_countOf 67 = .ok (.if_icmp .lt 8, 3) := by decide +kernel
theorem dX2_countOf_70 : decode cX2_countOf 70 = .ok (.lload 5, 2) := by decide +kernel
theorem dX2_countOf_72 : decode cX2_countOf 72 = .ok (.goto 4, 3) := by decide +kernel
theorem dX2_countOf_75 : decode cX2_countOf 75 = .ok (.lconst 0, 1) := by decide +kernel
theorem dX2_countOf_76 : decode cX2_countOf 76 = .ok (.iload_n 3, 1) := by decide +kernel
theorem dX2_countOf_77 : decode cX2_countOf 77 = .ok (.iload 4, 2) := by decide +kernel
theorem dX2_countOf_79 : decode cX2_countOf 79 = .ok (.iconst 1, 1) := by decide +kernel
theorem dX2_countOf_80 : decode cX2_countOf 80 = .ok (.iadd, 1) := by decide +kernel
theorem dX2_countOf_81 : decode cX2_countOf 81 = .ok (.if_icmp .lt 11, 3) := by decide +kernel
theorem dX2_countOf_84 : decode cX2_countOf 84 = .ok (.iload_n 2, 1) := by decide +kernel
theorem dX2_countOf_85 : decode cX2_countOf 85 = .ok (.i2l, 1) := by decide +kernel
theorem dX2_countOf_86 : decode cX2_countOf 86 = .ok (.lload 5, 2) := by decide +kernel
theorem dX2_countOf_88 : decode cX2_countOf 88 = .ok (.lsub, 1) := by decide +kernel
theorem dX2_countOf_89 : decode cX2_countOf 89 = .ok (.goto 4, 3) := by decide +kernel
theorem dX2_countOf_92 : decode cX2_countOf 92 = .ok (.lconst 0, 1) := by decide +kernel
theorem dX2_countOf_93 : decode cX2_countOf 93 = .ok (.ladd, 1) := by decide +kernel
theorem dX2_countOf_94 : decode cX2_countOf 94 = .ok (.lreturn, 1) := by decide +kernel
set_option maxRecDepth 20000 in
theorem ggX2_leastOf_X2_edge : GoodIn wsX2_leastOf wsX2_edge := goodIn_r _ [5, 6, 7, 8, 9, 10, 4, 11, 12, 13, 14, 15, 16, 17, 18, 19, 20, 21, 22, 23, 24, 25, 26, 27, 28, 29, 30, 31, 32, 33, 34, 35, 36, 37, 38, 39, 40, 41, 42, 43, 44, 45, 46] (by decide +kernel) (by decide +kernel)
set_option maxRecDepth 20000 in
theorem gX2_leastOf_X2_edge : GoodIn wsX2_leastOf (wsV RX2 147 RX2 yX2_edge wsX2_edge) := goodIn_app (goodIn_of _ (by decide +kernel)) ggX2_leastOf_X2_edge
set_option maxRecDepth 20000 in
theorem ggX2_leastOf_X2_powerFor : GoodIn wsX2_leastOf wsX2_powerFor := goodIn_r _ [32] (by decide +kernel) (by decide +kernel)
set_option maxRecDepth 20000 in
theorem gX2_leastOf_X2_powerFor : GoodIn wsX2_leastOf (va_wsS RX2 43 yX2_powerFor wsX2_powerFor) := goodIn_app (goodIn_of _ (by decide +kernel)) ggX2_leastOf_X2_powerFor
theorem dX2_leastOf_0 : decode cX2_leastOf 0 = .ok (.iload_n 1, 1) := by decide +kernel
theorem dX2_leastOf_1 : decode cX2_leastOf 1 = .ok (.iconst 5, 1) := by decide +kernel
theorem dX2_leastOf_2 : decode cX2_leastOf 2 = .ok (.if_icmp .eq 12, 3) := by decide +kernel
theorem dX2_leastOf_5 : decode cX2_leastOf 5 = .ok (.aload_n 0, 1) := by decide +kernel
theorem dX2_leastOf_6 : decode cX2_leastOf 6 = .ok (.iload_n 1, 1) := by decide +kernel
theorem dX2_leastOf_7 : decode cX2_leastOf 7 = .ok (.iload_n 2, 1) := by decide +kernel
theorem dX2_leastOf_8 : decode cX2_leastOf 8 = .ok (.iload_n 3, 1) := by decide +kernel
theorem dX2_leastOf_9 : decode cX2_leastOf 9 = .ok (.iconst 0, 1) := by decide +kernel
theorem dX2_leastOf_10 : decode cX2_leastOf 10 = .ok (.invokevirtual 147, 3) := by decide +kernel
theorem dX2_leastOf_13 : decode cX2_leastOf 13 = .ok (.lreturn, 1) := by decide +kernel
theorem dX2_leastOf_14 : decode cX2_leastOf 14 = .ok (.iload_n 2, 1) := by decide +kernel
theorem dX2_leastOf_15 : decode cX2_leastOf 15 = .ok (.invokestatic 43, 3) := by decide +kernel
theorem dX2_leastOf_18 : decode cX2_leastOf 18 = .ok (.istore 4, 2) := by decide +kernel
theorem dX2_leastOf_20 : decode cX2_leastOf 20 = .ok (.iload 4, 2) := by decide +kernel
theorem dX2_leastOf_22 : decode cX2_leastOf 22 = .ok (.ifCond .ne 7, 3) := by decide +kernel
theorem dX2_leastOf_25 : decode cX2_leastOf 25 = .ok (.lconst 0, 1) := by decide +kernel
theorem dX2_leastOf_26 : decode cX2_leastOf 26 = .ok (.goto 10, 3) := by decide +kernel
theorem dX2_leastOf_29 : decode cX2_leastOf 29 = .ok (.lconst 1, 1) := by decide +kernel
theorem dX2_leastOf_30 : decode cX2_leastOf 30 = .ok (.iload 4, 2) := by decide +kernel
theorem dX2_leastOf_32 : decode cX2_leastOf 32 = .ok (.lshl, 1) := by decide +kernel
theorem dX2_leastOf_33 : decode cX2_leastOf 33 = .ok (.iload_n 2, 1) := by decide +kernel
theorem dX2_leastOf_34 : decode cX2_leastOf 34 = .ok (.i2l, 1) := by decide +kernel
theorem dX2_leastOf_35 : decode cX2_leastOf 35 = .ok (.lsub, 1) := by decide +kernel
theorem dX2_leastOf_36 : decode cX2_leastOf 36 = .ok (.lstore 5, 2) := by decide +kernel
theorem dX2_leastOf_38 : decode cX2_leastOf 38 = .ok (.iload_n 3, 1) := by decide +kernel
theorem dX2_leastOf_39 : decode cX2_leastOf 39 = .ok (.iload 4, 2) := by decide +kernel
theorem dX2_leastOf_41 : decode cX2_leastOf 41 = .ok (.iconst 1, 1) := by decide +kernel
theorem dX2_leastOf_42 : decode cX2_leastOf 42 = .ok (.iadd, 1) := by decide +kernel
theorem dX2_leastOf_43 : decode cX2_leastOf 43 = .ok (.if_icmp .lt 20, 3) := by decide +kernel
theorem dX2_leastOf_46 : decode cX2_leastOf 46 = .ok (.iload_n 3, 1) := by decide +kernel
theorem dX2_leastOf_47 : decode cX2_leastOf 47 = .ok (.i2l, 1) := by decide +kernel
theorem dX2_leastOf_48 : decode cX2_leastOf 48 = .ok (.lconst 1, 1) := by decide +kernel
theorem dX2_leastOf_49 : decode cX2_leastOf 49 = .ok (.lsub, 1) := by decide +kernel
theorem dX2_leastOf_50 : decode cX2_leastOf 50 = .ok (.iload 4, 2) := by decide +kernel
theorem dX2_leastOf_52 : decode cX2_leastOf 52 = .ok (.i2l, 1) := by decide +kernel
theorem dX2_leastOf_53 : decode cX2_leastOf 53 = .ok (.lsub, 1) := by decide +kernel
theorem dX2_leastOf_54 : decode cX2_leastOf 54 = .ok (.iload_n 2, 1) := by decide +kernel
theorem dX2_leastOf_55 : decode cX2_leastOf 55 = .ok (.i2l, 1) := by decide +kernel
theorem dX2_leastOf_56 : decode cX2_leastOf 56 = .ok (.lmul, 1) := by decide +kernel
theorem dX2_leastOf_57 : decode cX2_leastOf 57 = .ok (.lload 5, 2) := by decide +kernel
theorem dX2_leastOf_59 : decode cX2_leastOf 59 = .ok (.ladd, 1) := by decide +kernel
theorem dX2_leastOf_60 : decode cX2_leastOf 60 = .ok (.lconst 1, 1) := by decide +kernel
theorem dX2_leastOf_61 : decode cX2_leastOf 61 = .ok (.ladd, 1) := by decide +kernel
theorem dX2_leastOf_62 : decode cX2_leastOf 62 = .ok (.lreturn, 1) := by decide +kernel
theorem dX2_leastOf_63 : decode cX2_leastOf 63 = .ok (.iload_n 3, 1) := by decide +kernel
theorem dX2_leastOf_64 : decode cX2_leastOf 64 = .ok (.iload 4, 2) := by decide +kernel
theorem dX2_leastOf_66 : decode cX2_leastOf 66 = .ok (.if_icmp .ne 14, 3) := by decide +kernel
theorem dX2_leastOf_69 : decode cX2_leastOf 69 = .ok (.lload 5, 2) := by decide +kernel
theorem dX2_leastOf_71 : decode cX2_leastOf 71 = .ok (.lconst 0, 1) := by decide +kernel
theorem dX2_leastOf_72 : decode cX2_leastOf 72 = .ok (.lcmp, 1) := by decide +kernel
theorem dX2_leastOf_73 : decode cX2_leastOf 73 = .ok (.ifCond .le 7, 3) := by decide +kernel
theorem dX2_leastOf_76 : decode cX2_leastOf 76 = .ok (.lconst 1, 1) := by decide +kernel
theorem dX2_leastOf_77 : decode cX2_leastOf 77 = .ok (.goto 4, 3) := by decide +kernel
theorem dX2_leastOf_80 : decode cX2_leastOf 80 = .ok (.lconst 0, 1) := by decide +kernel
theorem dX2_leastOf_81 : decode cX2_leastOf 81 = .ok (.lreturn, 1) := by decide +kernel
set_option maxRecDepth 20000 in
theorem ggX2_length_X2_noKind : GoodIn wsX2_length wsX2_noKind := goodIn_r _ [5, 6] (by decide +kernel) (by decide +kernel)
set_option maxRecDepth 20000 in
theorem gX2_length_X2_noKind : GoodIn wsX2_length (va_wsS RX2 151 yX2_noKind wsX2_noKind) := goodIn_app (goodIn_of _ (by decide +kernel)) ggX2_length_X2_noKind
set_option maxRecDepth 20000 in
theorem ggX2_length_X2_noNumber : GoodIn wsX2_length wsX2_noNumber := goodIn_r _ [9, 10] (by decide +kernel) (by decide +kernel)
set_option maxRecDepth 20000 in
theorem gX2_length_X2_noNumber : GoodIn wsX2_length (va_wsS RX2 155 yX2_noNumber wsX2_noNumber) := goodIn_app (goodIn_of _ (by decide +kernel)) ggX2_length_X2_noNumber
set_option maxRecDepth 20000 in
theorem ggX2_length_X2_lengthOf : GoodIn wsX2_length wsX2_lengthOf := goodIn_r _ [14, 15, 16, 17, 4, 18, 19, 20, 21, 22, 23, 24, 25, 26, 27, 28, 29, 30, 31, 32, 33, 34, 35, 36, 37, 38, 39, 40] (by decide +kernel) (by decide +kernel)
set_option maxRecDepth 20000 in
theorem gX2_length_X2_lengthOf : GoodIn wsX2_length (wsV RX2 78 RX2 yX2_lengthOf wsX2_lengthOf) := goodIn_app (goodIn_of _ (by decide +kernel)) ggX2_length_X2_lengthOf
theorem dX2_length_0 : decode cX2_length 0 = .ok (.aload_n 0, 1) := by decide +kernel
theorem dX2_length_1 : decode cX2_length 1 = .ok (.iload_n 1, 1) := by decide +kernel
theorem dX2_length_2 : decode cX2_length 2 = .ok (.iload_n 2, 1) := by decide +kernel
theorem dX2_length_3 : decode cX2_length 3 = .ok (.invokestatic 151, 3) := by decide +kernel
theorem dX2_length_6 : decode cX2_length 6 = .ok (.ifCond .ne 10, 3) := by decide +kernel
theorem dX2_length_9 : decode cX2_length 9 = .ok (.lload_n 3, 1) := by decide +kernel
theorem dX2_length_10 : decode cX2_length 10 = .ok (.invokestatic 155, 3) := by decide +kernel
theorem dX2_length_13 : decode cX2_length 13 = .ok (.ifCond .eq 7, 3) := by decide +kernel
theorem dX2_length_16 : decode cX2_length 16 = .ok (.iconst 1, 1) := by decide +kernel
theorem dX2_length_17 : decode cX2_length 17 = .ok (.goto 4, 3) := by decide +kernel
theorem dX2_length_20 : decode cX2_length 20 = .ok (.iconst 0, 1) := by decide +kernel
theorem dX2_length_21 : decode cX2_length 21 = .ok (.putfield 25, 3) := by decide +kernel
theorem dX2_length_24 : decode cX2_length 24 = .ok (.aload_n 0, 1) := by decide +kernel
theorem dX2_length_25 : decode cX2_length 25 = .ok (.getfield 25, 3) := by decide +kernel
theorem dX2_length_28 : decode cX2_length 28 = .ok (.ifCond .le 7, 3) := by decide +kernel
theorem dX2_length_31 : decode cX2_length 31 = .ok (.lconst 0, 1) := by decide +kernel
theorem dX2_length_32 : decode cX2_length 32 = .ok (.goto 10, 3) := by decide +kernel
theorem dX2_length_35 : decode cX2_length 35 = .ok (.aload_n 0, 1) := by decide +kernel
theorem dX2_length_36 : decode cX2_length 36 = .ok (.iload_n 1, 1) := by decide +kernel
theorem dX2_length_37 : decode cX2_length 37 = .ok (.iload_n 2, 1) := by decide +kernel
theorem dX2_length_38 : decode cX2_length 38 = .ok (.lload_n 3, 1) := by decide +kernel
theorem dX2_length_39 : decode cX2_length 39 = .ok (.invokevirtual 78, 3) := by decide +kernel
theorem dX2_length_42 : decode cX2_length 42 = .ok (.lreturn, 1) := by decide +kernel
set_option maxRecDepth 20000 in
theorem ggX2_put_X2_noKind : GoodIn wsX2_put wsX2_noKind := goodIn_r _ [6, 7] (by decide +kernel) (by decide +kernel)
set_option maxRecDepth 20000 in
theorem gX2_put_X2_noKind : GoodIn wsX2_put (va_wsS RX2 151 yX2_noKind wsX2_noKind) := goodIn_app (goodIn_of _ (by decide +kernel)) ggX2_put_X2_noKind
set_option maxRecDepth 20000 in
theorem ggX2_put_X2_noNumber : GoodIn wsX2_put wsX2_noNumber := goodIn_r _ [10, 11] (by decide +kernel) (by decide +kernel)
set_option maxRecDepth 20000 in
theorem gX2_put_X2_noNumber : GoodIn wsX2_put (va_wsS RX2 155 yX2_noNumber wsX2_noNumber) := goodIn_app (goodIn_of _ (by decide +kernel)) ggX2_put_X2_noNumber
set_option maxRecDepth 20000 in
theorem ggX2_put_X2_puts : GoodIn wsX2_put wsX2_puts := goodIn_r _ [15, 2, 16, 17, 18, 19, 20, 21, 5, 22, 23, 24, 25, 26, 27, 28, 29, 30, 31, 32, 33, 34, 35, 36, 37, 38, 39, 40, 41, 42, 43, 44, 45, 46, 47, 48, 49, 50, 51, 52, 53, 54, 55, 56, 57, 58, 59, 60, 61, 62, 63, 64, 65, 66, 67, 68, 69, 70, 71, 72, 73, 74, 75, 76, 77, 78, 79, 80, 81, 82, 83, 84] (by decide +kernel) (by decide +kernel)
set_option maxRecDepth 20000 in
theorem gX2_put_X2_puts : GoodIn wsX2_put (wsV RX2 159 RX2 yX2_puts wsX2_puts) := goodIn_app (goodIn_of _ (by decide +kernel)) ggX2_put_X2_puts
theorem dX2_put_0 : decode cX2_put 0 = .ok (.aload_n 0, 1) := by decide +kernel
theorem dX2_put_1 : decode cX2_put 1 = .ok (.iload_n 1, 1) := by decide +kernel
theorem dX2_put_2 : decode cX2_put 2 = .ok (.iload_n 2, 1) := by decide +kernel
theorem dX2_put_3 : decode cX2_put 3 = .ok (.invokestatic 151, 3) := by decide +kernel
theorem dX2_put_6 : decode cX2_put 6 = .ok (.ifCond .ne 10, 3) := by decide +kernel
theorem dX2_put_9 : decode cX2_put 9 = .ok (.lload_n 3, 1) := by decide +kernel
theorem dX2_put_10 : decode cX2_put 10 = .ok (.invokestatic 155, 3) := by decide +kernel
theorem dX2_put_13 : decode cX2_put 13 = .ok (.ifCond .eq 7, 3) := by decide +kernel
theorem dX2_put_16 : decode cX2_put 16 = .ok (.iconst 1, 1) := by decide +kernel
theorem dX2_put_17 : decode cX2_put 17 = .ok (.goto 4, 3) := by decide +kernel
theorem dX2_put_20 : decode cX2_put 20 = .ok (.iconst 0, 1) := by decide +kernel
theorem dX2_put_21 : decode cX2_put 21 = .ok (.putfield 25, 3) := by decide +kernel
theorem dX2_put_24 : decode cX2_put 24 = .ok (.aload_n 0, 1) := by decide +kernel
theorem dX2_put_25 : decode cX2_put 25 = .ok (.getfield 25, 3) := by decide +kernel
theorem dX2_put_28 : decode cX2_put 28 = .ok (.ifCond .le 5, 3) := by decide +kernel
theorem dX2_put_31 : decode cX2_put 31 = .ok (.iconst 0, 1) := by decide +kernel
theorem dX2_put_32 : decode cX2_put 32 = .ok (.ireturn, 1) := by decide +kernel
theorem dX2_put_33 : decode cX2_put 33 = .ok (.aload_n 0, 1) := by decide +kernel
theorem dX2_put_34 : decode cX2_put 34 = .ok (.iload_n 1, 1) := by decide +kernel
theorem dX2_put_35 : decode cX2_put 35 = .ok (.iload_n 2, 1) := by decide +kernel
theorem dX2_put_36 : decode cX2_put 36 = .ok (.lload_n 3, 1) := by decide +kernel
theorem dX2_put_37 : decode cX2_put 37 = .ok (.invokevirtual 159, 3) := by decide +kernel
theorem dX2_put_40 : decode cX2_put 40 = .ok (.ifCond .eq 10, 3) := by decide +kernel
theorem dX2_put_43 : decode cX2_put 43 = .ok (.aload_n 0, 1) := by decide +kernel
theorem dX2_put_44 : decode cX2_put 44 = .ok (.getfield 82, 3) := by decide +kernel
theorem dX2_put_47 : decode cX2_put 47 = .ok (.goto 4, 3) := by decide +kernel
theorem dX2_put_50 : decode cX2_put 50 = .ok (.iconst (-1), 1) := by decide +kernel
theorem dX2_put_51 : decode cX2_put 51 = .ok (.ireturn, 1) := by decide +kernel
set_option maxRecDepth 20000 in
theorem ggX2_take_X2_noKind : GoodIn wsX2_take wsX2_noKind := goodIn_r _ [5, 6] (by decide +kernel) (by decide +kernel)
set_option maxRecDepth 20000 in
theorem gX2_take_X2_noKind : GoodIn wsX2_take (va_wsS RX2 151 yX2_noKind wsX2_noKind) := goodIn_app (goodIn_of _ (by decide +kernel)) ggX2_take_X2_noKind
set_option maxRecDepth 20000 in
theorem ggX2_take_X2_reads : GoodIn wsX2_take wsX2_reads := goodIn_r _ [10, 11, 12, 13, 14, 15, 16, 17, 18, 19, 4, 20, 21, 22, 23, 24, 25, 26, 27, 28, 29, 30, 31, 32, 33, 34, 35, 36, 37, 38, 39, 40, 41, 42, 43, 44, 45, 46, 47, 48, 49, 50, 51, 52, 53, 54, 55, 56, 57, 58, 59, 60, 61, 62, 63, 64, 65, 66, 67, 68, 69, 70, 71, 72] (by decide +kernel) (by decide +kernel)
set_option maxRecDepth 20000 in
theorem gX2_take_X2_reads : GoodIn wsX2_take (wsV RX2 163 RX2 yX2_reads wsX2_reads) := goodIn_app (goodIn_of _ (by decide +kernel)) ggX2_take_X2_reads
theorem dX2_take_0 : decode cX2_take 0 = .ok (.aload_n 0, 1) := by decide +kernel
theorem dX2_take_1 : decode cX2_take 1 = .ok (.iload_n 1, 1) := by decide +kernel
theorem dX2_take_2 : decode cX2_take 2 = .ok (.iload_n 2, 1) := by decide +kernel
theorem dX2_take_3 : decode cX2_take 3 = .ok (.invokestatic 151, 3) := by decide +kernel
theorem dX2_take_6 : decode cX2_take 6 = .ok (.ifCond .eq 7, 3) := by decide +kernel
theorem dX2_take_9 : decode cX2_take 9 = .ok (.iconst 1, 1) := by decide +kernel
theorem dX2_take_10 : decode cX2_take 10 = .ok (.goto 4, 3) := by decide +kernel
theorem dX2_take_13 : decode cX2_take 13 = .ok (.iconst 0, 1) := by decide +kernel
theorem dX2_take_14 : decode cX2_take 14 = .ok (.putfield 25, 3) := by decide +kernel
theorem dX2_take_17 : decode cX2_take 17 = .ok (.aload_n 0, 1) := by decide +kernel
theorem dX2_take_18 : decode cX2_take 18 = .ok (.getfield 25, 3) := by decide +kernel
theorem dX2_take_21 : decode cX2_take 21 = .ok (.ifCond .le 7, 3) := by decide +kernel
theorem dX2_take_24 : decode cX2_take 24 = .ok (.lconst 0, 1) := by decide +kernel
theorem dX2_take_25 : decode cX2_take 25 = .ok (.goto 9, 3) := by decide +kernel
theorem dX2_take_28 : decode cX2_take 28 = .ok (.aload_n 0, 1) := by decide +kernel
theorem dX2_take_29 : decode cX2_take 29 = .ok (.iload_n 1, 1) := by decide +kernel
theorem dX2_take_30 : decode cX2_take 30 = .ok (.iload_n 2, 1) := by decide +kernel
theorem dX2_take_31 : decode cX2_take 31 = .ok (.invokevirtual 163, 3) := by decide +kernel
theorem dX2_take_34 : decode cX2_take 34 = .ok (.lreturn, 1) := by decide +kernel
theorem dX2_push_0 : decode cX2_push 0 = .ok (.aload_n 0, 1) := by decide +kernel
theorem dX2_push_1 : decode cX2_push 1 = .ok (.iload_n 3, 1) := by decide +kernel
theorem dX2_push_2 : decode cX2_push 2 = .ok (.iconst 1, 1) := by decide +kernel
theorem dX2_push_3 : decode cX2_push 3 = .ok (.if_icmp .lt 9, 3) := by decide +kernel
theorem dX2_push_6 : decode cX2_push 6 = .ok (.iload_n 3, 1) := by decide +kernel
theorem dX2_push_7 : decode cX2_push 7 = .ok (.bipush 64, 2) := by decide +kernel
theorem dX2_push_9 : decode cX2_push 9 = .ok (.if_icmp .le 7, 3) := by decide +kernel
theorem dX2_push_12 : decode cX2_push 12 = .ok (.iconst 1, 1) := by decide +kernel
theorem dX2_push_13 : decode cX2_push 13 = .ok (.goto 4, 3) := by decide +kernel
theorem dX2_push_16 : decode cX2_push 16 = .ok (.iconst 0, 1) := by decide +kernel
theorem dX2_push_17 : decode cX2_push 17 = .ok (.putfield 25, 3) := by decide +kernel
theorem dX2_push_20 : decode cX2_push 20 = .ok (.aload_n 0, 1) := by decide +kernel
theorem dX2_push_21 : decode cX2_push 21 = .ok (.getfield 25, 3) := by decide +kernel
theorem dX2_push_24 : decode cX2_push 24 = .ok (.ifCond .le 5, 3) := by decide +kernel
theorem dX2_push_27 : decode cX2_push 27 = .ok (.iconst 0, 1) := by decide +kernel
theorem dX2_push_28 : decode cX2_push 28 = .ok (.ireturn, 1) := by decide +kernel
theorem dX2_push_29 : decode cX2_push 29 = .ok (.aload_n 0, 1) := by decide +kernel
theorem dX2_push_30 : decode cX2_push 30 = .ok (.getfield 82, 3) := by decide +kernel
theorem dX2_push_33 : decode cX2_push 33 = .ok (.iload_n 3, 1) := by decide +kernel
theorem dX2_push_34 : decode cX2_push 34 = .ok (.iadd, 1) := by decide +kernel
theorem dX2_push_35 : decode cX2_push 35 = .ok (.sipush 4096, 3) := by decide +kernel
theorem dX2_push_38 : decode cX2_push 38 = .ok (.if_icmp .le 5, 3) := by decide +kernel
theorem dX2_push_41 : decode cX2_push 41 = .ok (.iconst (-1), 1) := by decide +kernel
theorem dX2_push_42 : decode cX2_push 42 = .ok (.ireturn, 1) := by decide +kernel
theorem dX2_push_43 : decode cX2_push 43 = .ok (.iconst 0, 1) := by decide +kernel
theorem dX2_push_44 : decode cX2_push 44 = .ok (.istore 4, 2) := by decide +kernel
theorem dX2_push_46 : decode cX2_push 46 = .ok (.iload 4, 2) := by decide +kernel
theorem dX2_push_48 : decode cX2_push 48 = .ok (.iload_n 3, 1) := by decide +kernel
theorem dX2_push_49 : decode cX2_push 49 = .ok (.if_icmp .ge 38, 3) := by decide +kernel
theorem dX2_push_52 : decode cX2_push 52 = .ok (.aload_n 0, 1) := by decide +kernel
theorem dX2_push_53 : decode cX2_push 53 = .ok (.getfield 7, 3) := by decide +kernel
theorem dX2_push_56 : decode cX2_push 56 = .ok (.aload_n 0, 1) := by decide +kernel
theorem dX2_push_57 : decode cX2_push 57 = .ok (.getfield 82, 3) := by decide +kernel
theorem dX2_push_60 : decode cX2_push 60 = .ok (.lload_n 1, 1) := by decide +kernel
theorem dX2_push_61 : decode cX2_push 61 = .ok (.bipush 63, 2) := by decide +kernel
theorem dX2_push_63 : decode cX2_push 63 = .ok (.iload 4, 2) := by decide +kernel
theorem dX2_push_65 : decode cX2_push 65 = .ok (.isub, 1) := by decide +kernel
theorem dX2_push_66 : decode cX2_push 66 = .ok (.lshr, 1) := by decide +kernel
theorem dX2_push_67 : decode cX2_push 67 = .ok (.lconst 1, 1) := by decide +kernel
theorem dX2_push_68 : decode cX2_push 68 = .ok (.land, 1) := by decide +kernel
theorem dX2_push_69 : decode cX2_push 69 = .ok (.l2i, 1) := by decide +kernel
theorem dX2_push_70 : decode cX2_push 70 = .ok (.iastore, 1) := by decide +kernel
theorem dX2_push_71 : decode cX2_push 71 = .ok (.aload_n 0, 1) := by decide +kernel
theorem dX2_push_72 : decode cX2_push 72 = .ok (.dup, 1) := by decide +kernel
theorem dX2_push_73 : decode cX2_push 73 = .ok (.getfield 82, 3) := by decide +kernel
theorem dX2_push_76 : decode cX2_push 76 = .ok (.iconst 1, 1) := by decide +kernel
theorem dX2_push_77 : decode cX2_push 77 = .ok (.iadd, 1) := by decide +kernel
theorem dX2_push_78 : decode cX2_push 78 = .ok (.putfield 82, 3) := by decide +kernel
theorem dX2_push_81 : decode cX2_push 81 = .ok (.iinc 4 1, 3) := by decide +kernel
theorem dX2_push_84 : decode cX2_push 84 = .ok (.goto (-38), 3) := by decide +kernel
theorem dX2_push_87 : decode cX2_push 87 = .ok (.aload_n 0, 1) := by decide +kernel
theorem dX2_push_88 : decode cX2_push 88 = .ok (.getfield 82, 3) := by decide +kernel
theorem dX2_push_91 : decode cX2_push 91 = .ok (.ireturn, 1) := by decide +kernel
theorem dX2_bits_0 : decode cX2_bits 0 = .ok (.aload_n 0, 1) := by decide +kernel
theorem dX2_bits_1 : decode cX2_bits 1 = .ok (.iconst 0, 1) := by decide +kernel
theorem dX2_bits_2 : decode cX2_bits 2 = .ok (.putfield 25, 3) := by decide +kernel
theorem dX2_bits_5 : decode cX2_bits 5 = .ok (.lconst 0, 1) := by decide +kernel
theorem dX2_bits_6 : decode cX2_bits 6 = .ok (.lstore_n 2, 1) := by decide +kernel
theorem dX2_bits_7 : decode cX2_bits 7 = .ok (.iconst 0, 1) := by decide +kernel
theorem dX2_bits_8 : decode cX2_bits 8 = .ok (.istore 4, 2) := by decide +kernel
theorem dX2_bits_10 : decode cX2_bits 10 = .ok (.iload 4, 2) := by decide +kernel
theorem dX2_bits_12 : decode cX2_bits 12 = .ok (.bipush 64, 2) := by decide +kernel
theorem dX2_bits_14 : decode cX2_bits 14 = .ok (.if_icmp .ge 55, 3) := by decide +kernel
theorem dX2_bits_17 : decode cX2_bits 17 = .ok (.iload_n 1, 1) := by decide +kernel
theorem dX2_bits_18 : decode cX2_bits 18 = .ok (.i2l, 1) := by decide +kernel
theorem dX2_bits_19 : decode cX2_bits 19 = .ok (.iload 4, 2) := by decide +kernel
theorem dX2_bits_21 : decode cX2_bits 21 = .ok (.i2l, 1) := by decide +kernel
theorem dX2_bits_22 : decode cX2_bits 22 = .ok (.ladd, 1) := by decide +kernel
theorem dX2_bits_23 : decode cX2_bits 23 = .ok (.lstore 5, 2) := by decide +kernel
theorem dX2_bits_25 : decode cX2_bits 25 = .ok (.ldc2_w 23, 3) := by decide +kernel
theorem dX2_bits_28 : decode cX2_bits 28 = .ok (.lload_n 2, 1) := by decide +kernel
theorem dX2_bits_29 : decode cX2_bits 29 = .ok (.lmul, 1) := by decide +kernel
theorem dX2_bits_30 : decode cX2_bits 30 = .ok (.lload 5, 2) := by decide +kernel
theorem dX2_bits_32 : decode cX2_bits 32 = .ok (.lconst 0, 1) := by decide +kernel
theorem dX2_bits_33 : decode cX2_bits 33 = .ok (.lcmp, 1) := by decide +kernel
theorem dX2_bits_34 : decode cX2_bits 34 = .ok (.ifCond .lt 25, 3) := by decide +kernel
theorem dX2_bits_37 : decode cX2_bits 37 = .ok (.lload 5, 2) := by decide +kernel
theorem dX2_bits_39 : decode cX2_bits 39 = .ok (.aload_n 0, 1) := by decide +kernel
theorem dX2_bits_40 : decode cX2_bits 40 = .ok (.getfield 82, 3) := by decide +kernel
theorem dX2_bits_43 : decode cX2_bits 43 = .ok (.i2l, 1) := by decide +kernel
theorem dX2_bits_44 : decode cX2_bits 44 = .ok (.lcmp, 1) := by decide +kernel
theorem dX2_bits_45 : decode cX2_bits 45 = .ok (.ifCond .ge 14, 3) := by decide +kernel
theorem dX2_bits_48 : decode cX2_bits 48 = .ok (.aload_n 0, 1) := by decide +kernel
theorem dX2_bits_49 : decode cX2_bits 49 = .ok (.getfield 7, 3) := by decide +kernel
theorem dX2_bits_52 : decode cX2_bits 52 = .ok (.lload 5, 2) := by decide +kernel
theorem dX2_bits_54 : decode cX2_bits 54 = .ok (.l2i, 1) := by decide +kernel
theorem dX2_bits_55 : decode cX2_bits 55 = .ok (.iaload, 1) := by decide +kernel
theorem dX2_bits_56 : decode cX2_bits 56 = .ok (.goto 4, 3) := by decide +kernel
theorem dX2_bits_59 : decode cX2_bits 59 = .ok (.iconst 0, 1) := by decide +kernel
theorem dX2_bits_60 : decode cX2_bits 60 = .ok (.i2l, 1) := by decide +kernel
theorem dX2_bits_61 : decode cX2_bits 61 = .ok (.ladd, 1) := by decide +kernel
theorem dX2_bits_62 : decode cX2_bits 62 = .ok (.lstore_n 2, 1) := by decide +kernel
theorem dX2_bits_63 : decode cX2_bits 63 = .ok (.iinc 4 1, 3) := by decide +kernel
theorem dX2_bits_66 : decode cX2_bits 66 = .ok (.goto (-56), 3) := by decide +kernel
theorem dX2_bits_69 : decode cX2_bits 69 = .ok (.lload_n 2, 1) := by decide +kernel
theorem dX2_bits_70 : decode cX2_bits 70 = .ok (.lreturn, 1) := by decide +kernel
theorem dX2_size_0 : decode cX2_size 0 = .ok (.aload_n 0, 1) := by decide +kernel
theorem dX2_size_1 : decode cX2_size 1 = .ok (.iconst 0, 1) := by decide +kernel
theorem dX2_size_2 : decode cX2_size 2 = .ok (.putfield 25, 3) := by decide +kernel
theorem dX2_size_5 : decode cX2_size 5 = .ok (.aload_n 0, 1) := by decide +kernel
theorem dX2_size_6 : decode cX2_size 6 = .ok (.getfield 82, 3) := by decide +kernel
theorem dX2_size_9 : decode cX2_size 9 = .ok (.ireturn, 1) := by decide +kernel
theorem dX2_place_0 : decode cX2_place 0 = .ok (.aload_n 0, 1) := by decide +kernel
theorem dX2_place_1 : decode cX2_place 1 = .ok (.iconst 0, 1) := by decide +kernel
theorem dX2_place_2 : decode cX2_place 2 = .ok (.putfield 25, 3) := by decide +kernel
theorem dX2_place_5 : decode cX2_place 5 = .ok (.aload_n 0, 1) := by decide +kernel
theorem dX2_place_6 : decode cX2_place 6 = .ok (.getfield 115, 3) := by decide +kernel
theorem dX2_place_9 : decode cX2_place 9 = .ok (.ireturn, 1) := by decide +kernel
theorem dX2_seek_0 : decode cX2_seek 0 = .ok (.aload_n 0, 1) := by decide +kernel
theorem dX2_seek_1 : decode cX2_seek 1 = .ok (.iload_n 1, 1) := by decide +kernel
theorem dX2_seek_2 : decode cX2_seek 2 = .ok (.ifCond .lt 11, 3) := by decide +kernel
theorem dX2_seek_5 : decode cX2_seek 5 = .ok (.iload_n 1, 1) := by decide +kernel
theorem dX2_seek_6 : decode cX2_seek 6 = .ok (.aload_n 0, 1) := by decide +kernel
theorem dX2_seek_7 : decode cX2_seek 7 = .ok (.getfield 82, 3) := by decide +kernel
theorem dX2_seek_10 : decode cX2_seek 10 = .ok (.if_icmp .le 7, 3) := by decide +kernel
theorem dX2_seek_13 : decode cX2_seek 13 = .ok (.iconst 1, 1) := by decide +kernel
theorem dX2_seek_14 : decode cX2_seek 14 = .ok (.goto 4, 3) := by decide +kernel
theorem dX2_seek_17 : decode cX2_seek 17 = .ok (.iconst 0, 1) := by decide +kernel
theorem dX2_seek_18 : decode cX2_seek 18 = .ok (.putfield 25, 3) := by decide +kernel
theorem dX2_seek_21 : decode cX2_seek 21 = .ok (.aload_n 0, 1) := by decide +kernel
theorem dX2_seek_22 : decode cX2_seek 22 = .ok (.getfield 25, 3) := by decide +kernel
theorem dX2_seek_25 : decode cX2_seek 25 = .ok (.ifCond .ne 8, 3) := by decide +kernel
theorem dX2_seek_28 : decode cX2_seek 28 = .ok (.aload_n 0, 1) := by decide +kernel
theorem dX2_seek_29 : decode cX2_seek 29 = .ok (.iload_n 1, 1) := by decide +kernel
theorem dX2_seek_30 : decode cX2_seek 30 = .ok (.putfield 115, 3) := by decide +kernel
theorem dX2_seek_33 : decode cX2_seek 33 = .ok (.return_, 1) := by decide +kernel
theorem dX2_wipe_0 : decode cX2_wipe 0 = .ok (.aload_n 0, 1) := by decide +kernel
theorem dX2_wipe_1 : decode cX2_wipe 1 = .ok (.iconst 0, 1) := by decide +kernel
theorem dX2_wipe_2 : decode cX2_wipe 2 = .ok (.putfield 25, 3) := by decide +kernel
theorem dX2_wipe_5 : decode cX2_wipe 5 = .ok (.aload_n 0, 1) := by decide +kernel
theorem dX2_wipe_6 : decode cX2_wipe 6 = .ok (.getfield 82, 3) := by decide +kernel
theorem dX2_wipe_9 : decode cX2_wipe 9 = .ok (.istore_n 1, 1) := by decide +kernel
theorem dX2_wipe_10 : decode cX2_wipe 10 = .ok (.aload_n 0, 1) := by decide +kernel
theorem dX2_wipe_11 : decode cX2_wipe 11 = .ok (.iconst 0, 1) := by decide +kernel
theorem dX2_wipe_12 : decode cX2_wipe 12 = .ok (.putfield 82, 3) := by decide +kernel
theorem dX2_wipe_15 : decode cX2_wipe 15 = .ok (.aload_n 0, 1) := by decide +kernel
theorem dX2_wipe_16 : decode cX2_wipe 16 = .ok (.iconst 0, 1) := by decide +kernel
theorem dX2_wipe_17 : decode cX2_wipe 17 = .ok (.putfield 115, 3) := by decide +kernel
theorem dX2_wipe_20 : decode cX2_wipe 20 = .ok (.iload_n 1, 1) := by decide +kernel
theorem dX2_wipe_21 : decode cX2_wipe 21 = .ok (.ireturn, 1) := by decide +kernel
set_option maxRecDepth 20000 in
theorem ggX2_add_X2_noNumber : GoodIn wsX2_add wsX2_noNumber := goodIn_r _ [7, 8] (by decide +kernel) (by decide +kernel)
set_option maxRecDepth 20000 in
theorem gX2_add_X2_noNumber : GoodIn wsX2_add (va_wsS RX2 155 yX2_noNumber wsX2_noNumber) := goodIn_app (goodIn_of _ (by decide +kernel)) ggX2_add_X2_noNumber
theorem dX2_add_0 : decode cX2_add 0 = .ok (.aload_n 0, 1) := by decide +kernel
theorem dX2_add_1 : decode cX2_add 1 = .ok (.lload_n 1, 1) := by decide +kernel
theorem dX2_add_2 : decode cX2_add 2 = .ok (.invokestatic 155, 3) := by decide +kernel
theorem dX2_add_5 : decode cX2_add 5 = .ok (.ifCond .eq 7, 3) := by decide +kernel
theorem dX2_add_8 : decode cX2_add 8 = .ok (.iconst 1, 1) := by decide +kernel
theorem dX2_add_9 : decode cX2_add 9 = .ok (.goto 4, 3) := by decide +kernel
theorem dX2_add_12 : decode cX2_add 12 = .ok (.iconst 0, 1) := by decide +kernel
theorem dX2_add_13 : decode cX2_add 13 = .ok (.putfield 25, 3) := by decide +kernel
theorem dX2_add_16 : decode cX2_add 16 = .ok (.aload_n 0, 1) := by decide +kernel
theorem dX2_add_17 : decode cX2_add 17 = .ok (.getfield 25, 3) := by decide +kernel
theorem dX2_add_20 : decode cX2_add 20 = .ok (.ifCond .le 5, 3) := by decide +kernel
theorem dX2_add_23 : decode cX2_add 23 = .ok (.iconst 0, 1) := by decide +kernel
theorem dX2_add_24 : decode cX2_add 24 = .ok (.ireturn, 1) := by decide +kernel
theorem dX2_add_25 : decode cX2_add 25 = .ok (.aload_n 0, 1) := by decide +kernel
theorem dX2_add_26 : decode cX2_add 26 = .ok (.getfield 167, 3) := by decide +kernel
theorem dX2_add_29 : decode cX2_add 29 = .ok (.bipush 100, 2) := by decide +kernel
theorem dX2_add_31 : decode cX2_add 31 = .ok (.if_icmp .ne 5, 3) := by decide +kernel
theorem dX2_add_34 : decode cX2_add 34 = .ok (.iconst (-1), 1) := by decide +kernel
theorem dX2_add_35 : decode cX2_add 35 = .ok (.ireturn, 1) := by decide +kernel
theorem dX2_add_36 : decode cX2_add 36 = .ok (.aload_n 0, 1) := by decide +kernel
theorem dX2_add_37 : decode cX2_add 37 = .ok (.getfield 13, 3) := by decide +kernel
theorem dX2_add_40 : decode cX2_add 40 = .ok (.aload_n 0, 1) := by decide +kernel
theorem dX2_add_41 : decode cX2_add 41 = .ok (.getfield 167, 3) := by decide +kernel
theorem dX2_add_44 : decode cX2_add 44 = .ok (.lload_n 1, 1) := by decide +kernel
theorem dX2_add_45 : decode cX2_add 45 = .ok (.lastore, 1) := by decide +kernel
theorem dX2_add_46 : decode cX2_add 46 = .ok (.aload_n 0, 1) := by decide +kernel
theorem dX2_add_47 : decode cX2_add 47 = .ok (.dup, 1) := by decide +kernel
theorem dX2_add_48 : decode cX2_add 48 = .ok (.getfield 167, 3) := by decide +kernel
theorem dX2_add_51 : decode cX2_add 51 = .ok (.iconst 1, 1) := by decide +kernel
theorem dX2_add_52 : decode cX2_add 52 = .ok (.iadd, 1) := by decide +kernel
theorem dX2_add_53 : decode cX2_add 53 = .ok (.putfield 167, 3) := by decide +kernel
theorem dX2_add_56 : decode cX2_add 56 = .ok (.aload_n 0, 1) := by decide +kernel
theorem dX2_add_57 : decode cX2_add 57 = .ok (.getfield 167, 3) := by decide +kernel
theorem dX2_add_60 : decode cX2_add 60 = .ok (.ireturn, 1) := by decide +kernel
theorem dX2_get_0 : decode cX2_get 0 = .ok (.aload_n 0, 1) := by decide +kernel
theorem dX2_get_1 : decode cX2_get 1 = .ok (.iload_n 1, 1) := by decide +kernel
theorem dX2_get_2 : decode cX2_get 2 = .ok (.ifCond .lt 11, 3) := by decide +kernel
theorem dX2_get_5 : decode cX2_get 5 = .ok (.iload_n 1, 1) := by decide +kernel
theorem dX2_get_6 : decode cX2_get 6 = .ok (.aload_n 0, 1) := by decide +kernel
theorem dX2_get_7 : decode cX2_get 7 = .ok (.getfield 167, 3) := by decide +kernel
theorem dX2_get_10 : decode cX2_get 10 = .ok (.if_icmp .lt 7, 3) := by decide +kernel
theorem dX2_get_13 : decode cX2_get 13 = .ok (.iconst 1, 1) := by decide +kernel
theorem dX2_get_14 : decode cX2_get 14 = .ok (.goto 4, 3) := by decide +kernel
theorem dX2_get_17 : decode cX2_get 17 = .ok (.iconst 0, 1) := by decide +kernel
theorem dX2_get_18 : decode cX2_get 18 = .ok (.putfield 25, 3) := by decide +kernel
theorem dX2_get_21 : decode cX2_get 21 = .ok (.aload_n 0, 1) := by decide +kernel
theorem dX2_get_22 : decode cX2_get 22 = .ok (.getfield 25, 3) := by decide +kernel
theorem dX2_get_25 : decode cX2_get 25 = .ok (.ifCond .le 7, 3) := by decide +kernel
theorem dX2_get_28 : decode cX2_get 28 = .ok (.lconst 0, 1) := by decide +kernel
theorem dX2_get_29 : decode cX2_get 29 = .ok (.goto 9, 3) := by decide +kernel
theorem dX2_get_32 : decode cX2_get 32 = .ok (.aload_n 0, 1) := by decide +kernel
theorem dX2_get_33 : decode cX2_get 33 = .ok (.getfield 13, 3) := by decide +kernel
theorem dX2_get_36 : decode cX2_get 36 = .ok (.iload_n 1, 1) := by decide +kernel
theorem dX2_get_37 : decode cX2_get 37 = .ok (.laload, 1) := by decide +kernel
theorem dX2_get_38 : decode cX2_get 38 = .ok (.lreturn, 1) := by decide +kernel
theorem dX2_clear_0 : decode cX2_clear 0 = .ok (.aload_n 0, 1) := by decide +kernel
theorem dX2_clear_1 : decode cX2_clear 1 = .ok (.iconst 0, 1) := by decide +kernel
theorem dX2_clear_2 : decode cX2_clear 2 = .ok (.putfield 25, 3) := by decide +kernel
theorem dX2_clear_5 : decode cX2_clear 5 = .ok (.aload_n 0, 1) := by decide +kernel
theorem dX2_clear_6 : decode cX2_clear 6 = .ok (.getfield 167, 3) := by decide +kernel
theorem dX2_clear_9 : decode cX2_clear 9 = .ok (.istore_n 1, 1) := by decide +kernel
theorem dX2_clear_10 : decode cX2_clear 10 = .ok (.aload_n 0, 1) := by decide +kernel
theorem dX2_clear_11 : decode cX2_clear 11 = .ok (.iconst 0, 1) := by decide +kernel
theorem dX2_clear_12 : decode cX2_clear 12 = .ok (.putfield 167, 3) := by decide +kernel
theorem dX2_clear_15 : decode cX2_clear 15 = .ok (.iload_n 1, 1) := by decide +kernel
theorem dX2_clear_16 : decode cX2_clear 16 = .ok (.ireturn, 1) := by decide +kernel
set_option maxRecDepth 20000 in
theorem ggX2_totalOf_X2_lengthOf : GoodIn wsX2_totalOf wsX2_lengthOf := goodIn_r _ [8, 9, 10, 11, 7, 12, 13, 14, 15, 16, 17, 18, 19, 20, 21, 22, 23, 24, 25, 26, 27, 28, 29, 30, 31, 32, 33, 34] (by decide +kernel) (by decide +kernel)
set_option maxRecDepth 20000 in
theorem gX2_totalOf_X2_lengthOf : GoodIn wsX2_totalOf (wsV RX2 78 RX2 yX2_lengthOf wsX2_lengthOf) := goodIn_app (goodIn_of _ (by decide +kernel)) ggX2_totalOf_X2_lengthOf
theorem dX2_totalOf_0 : decode cX2_totalOf 0 = .ok (.lconst 0, 1) := by decide +kernel
theorem dX2_totalOf_1 : decode cX2_totalOf 1 = .ok (.lstore_n 3, 1) := by decide +kernel
theorem dX2_totalOf_2 : decode cX2_totalOf 2 = .ok (.iconst 0, 1) := by decide +kernel
theorem dX2_totalOf_3 : decode cX2_totalOf 3 = .ok (.istore 5, 2) := by decide +kernel
theorem dX2_totalOf_5 : decode cX2_totalOf 5 = .ok (.iload 5, 2) := by decide +kernel
theorem dX2_totalOf_7 : decode cX2_totalOf 7 = .ok (.aload_n 0, 1) := by decide +kernel
theorem dX2_totalOf_8 : decode cX2_totalOf 8 = .ok (.getfield 167, 3) := by decide +kernel
theorem dX2_totalOf_11 : decode cX2_totalOf 11 = .ok (.if_icmp .ge 46, 3) := by decide +kernel
theorem dX2_totalOf_14 : decode cX2_totalOf 14 = .ok (.aload_n 0, 1) := by decide +kernel
theorem dX2_totalOf_15 : decode cX2_totalOf 15 = .ok (.iload_n 1, 1) := by decide +kernel
theorem dX2_totalOf_16 : decode cX2_totalOf 16 = .ok (.iload_n 2, 1) := by decide +kernel
theorem dX2_totalOf_17 : decode cX2_totalOf 17 = .ok (.aload_n 0, 1) := by decide +kernel
theorem dX2_totalOf_18 : decode cX2_totalOf 18 = .ok (.getfield 13, 3) := by decide +kernel
theorem dX2_totalOf_21 : decode cX2_totalOf 21 = .ok (.iload 5, 2) := by decide +kernel
theorem dX2_totalOf_23 : decode cX2_totalOf 23 = .ok (.laload, 1) := by decide +kernel
theorem dX2_totalOf_24 : decode cX2_totalOf 24 = .ok (.invokevirtual 78, 3) := by decide +kernel
theorem dX2_totalOf_27 : decode cX2_totalOf 27 = .ok (.lstore 6, 2) := by decide +kernel
theorem dX2_totalOf_29 : decode cX2_totalOf 29 = .ok (.lload 6, 2) := by decide +kernel
theorem dX2_totalOf_31 : decode cX2_totalOf 31 = .ok (.ldc2_w 30, 3) := by decide +kernel
theorem dX2_totalOf_34 : decode cX2_totalOf 34 = .ok (.lload_n 3, 1) := by decide +kernel
theorem dX2_totalOf_35 : decode cX2_totalOf 35 = .ok (.lsub, 1) := by decide +kernel
theorem dX2_totalOf_36 : decode cX2_totalOf 36 = .ok (.lcmp, 1) := by decide +kernel
theorem dX2_totalOf_37 : decode cX2_totalOf 37 = .ok (.ifCond .le 9, 3) := by decide +kernel
theorem dX2_totalOf_40 : decode cX2_totalOf 40 = .ok (.ldc2_w 30, 3) := by decide +kernel
theorem dX2_totalOf_43 : decode cX2_totalOf 43 = .ok (.goto 7, 3) := by decide +kernel
theorem dX2_totalOf_46 : decode cX2_totalOf 46 = .ok (.lload_n 3, 1) := by decide +kernel
theorem dX2_totalOf_47 : decode cX2_totalOf 47 = .ok (.lload 6, 2) := by decide +kernel
theorem dX2_totalOf_49 : decode cX2_totalOf 49 = .ok (.ladd, 1) := by decide +kernel
theorem dX2_totalOf_50 : decode cX2_totalOf 50 = .ok (.lstore_n 3, 1) := by decide +kernel
theorem dX2_totalOf_51 : decode cX2_totalOf 51 = .ok (.iinc 5 1, 3) := by decide +kernel
theorem dX2_totalOf_54 : decode cX2_totalOf 54 = .ok (.goto (-49), 3) := by decide +kernel
theorem dX2_totalOf_57 : decode cX2_totalOf 57 = .ok (.lload_n 3, 1) := by decide +kernel
theorem dX2_totalOf_58 : decode cX2_totalOf 58 = .ok (.lreturn, 1) := by decide +kernel
set_option maxRecDepth 20000 in
theorem ggX2_total_X2_noKind : GoodIn wsX2_total wsX2_noKind := goodIn_r _ [5, 6] (by decide +kernel) (by decide +kernel)
set_option maxRecDepth 20000 in
theorem gX2_total_X2_noKind : GoodIn wsX2_total (va_wsS RX2 151 yX2_noKind wsX2_noKind) := goodIn_app (goodIn_of _ (by decide +kernel)) ggX2_total_X2_noKind
set_option maxRecDepth 20000 in
theorem ggX2_total_X2_totalOf : GoodIn wsX2_total wsX2_totalOf := goodIn_r _ [10, 11, 12, 13, 14, 15, 16, 4, 17, 18, 19, 20, 21, 22, 23, 24, 25, 26, 27, 28, 29, 30, 31, 32, 33, 34, 35, 36, 37, 38, 39, 40, 41, 42, 43] (by decide +kernel) (by decide +kernel)
set_option maxRecDepth 20000 in
theorem gX2_total_X2_totalOf : GoodIn wsX2_total (wsV RX2 170 RX2 yX2_totalOf wsX2_totalOf) := goodIn_app (goodIn_of _ (by decide +kernel)) ggX2_total_X2_totalOf
theorem dX2_total_0 : decode cX2_total 0 = .ok (.aload_n 0, 1) := by decide +kernel
theorem dX2_total_1 : decode cX2_total 1 = .ok (.iload_n 1, 1) := by decide +kernel
theorem dX2_total_2 : decode cX2_total 2 = .ok (.iload_n 2, 1) := by decide +kernel
theorem dX2_total_3 : decode cX2_total 3 = .ok (.invokestatic 151, 3) := by decide +kernel
theorem dX2_total_6 : decode cX2_total 6 = .ok (.ifCond .eq 7, 3) := by decide +kernel
theorem dX2_total_9 : decode cX2_total 9 = .ok (.iconst 1, 1) := by decide +kernel
theorem dX2_total_10 : decode cX2_total 10 = .ok (.goto 4, 3) := by decide +kernel
theorem dX2_total_13 : decode cX2_total 13 = .ok (.iconst 0, 1) := by decide +kernel
theorem dX2_total_14 : decode cX2_total 14 = .ok (.putfield 25, 3) := by decide +kernel
theorem dX2_total_17 : decode cX2_total 17 = .ok (.aload_n 0, 1) := by decide +kernel
theorem dX2_total_18 : decode cX2_total 18 = .ok (.getfield 25, 3) := by decide +kernel
theorem dX2_total_21 : decode cX2_total 21 = .ok (.ifCond .le 7, 3) := by decide +kernel
theorem dX2_total_24 : decode cX2_total 24 = .ok (.lconst 0, 1) := by decide +kernel
theorem dX2_total_25 : decode cX2_total 25 = .ok (.goto 9, 3) := by decide +kernel
theorem dX2_total_28 : decode cX2_total 28 = .ok (.aload_n 0, 1) := by decide +kernel
theorem dX2_total_29 : decode cX2_total 29 = .ok (.iload_n 1, 1) := by decide +kernel
theorem dX2_total_30 : decode cX2_total 30 = .ok (.iload_n 2, 1) := by decide +kernel
theorem dX2_total_31 : decode cX2_total 31 = .ok (.invokevirtual 170, 3) := by decide +kernel
theorem dX2_total_34 : decode cX2_total 34 = .ok (.lreturn, 1) := by decide +kernel
set_option maxRecDepth 20000 in
theorem ggX2_best_X2_noKind : GoodIn wsX2_best wsX2_noKind := goodIn_r _ [5, 6] (by decide +kernel) (by decide +kernel)
set_option maxRecDepth 20000 in
theorem gX2_best_X2_noKind : GoodIn wsX2_best (va_wsS RX2 151 yX2_noKind wsX2_noKind) := goodIn_app (goodIn_of _ (by decide +kernel)) ggX2_best_X2_noKind
set_option maxRecDepth 20000 in
theorem ggX2_best_X2_totalOf : GoodIn wsX2_best wsX2_totalOf := goodIn_r _ [10, 11, 12, 13, 14, 15, 16, 4, 17, 18, 19, 20, 21, 22, 23, 24, 25, 26, 27, 28, 29, 30, 31, 32, 33, 34, 35, 36, 37, 38, 39, 40, 41, 42, 43] (by decide +kernel) (by decide +kernel)
set_option maxRecDepth 20000 in
theorem gX2_best_X2_totalOf : GoodIn wsX2_best (wsV RX2 170 RX2 yX2_totalOf wsX2_totalOf) := goodIn_app (goodIn_of _ (by decide +kernel)) ggX2_best_X2_totalOf
theorem dX2_best_0 : decode cX2_best 0 = .ok (.aload_n 0, 1) := by decide +kernel
theorem dX2_best_1 : decode cX2_best 1 = .ok (.iload_n 1, 1) := by decide +kernel
theorem dX2_best_2 : decode cX2_best 2 = .ok (.iconst 5, 1) := by decide +kernel
theorem dX2_best_3 : decode cX2_best 3 = .ok (.if_icmp .lt 18, 3) := by decide +kernel
theorem dX2_best_6 : decode cX2_best 6 = .ok (.iload_n 1, 1) := by decide +kernel
theorem dX2_best_7 : decode cX2_best 7 = .ok (.iload_n 2, 1) := by decide +kernel
theorem dX2_best_8 : decode cX2_best 8 = .ok (.invokestatic 151, 3) := by decide +kernel
theorem dX2_best_11 : decode cX2_best 11 = .ok (.ifCond .ne 10, 3) := by decide +kernel
theorem dX2_best_14 : decode cX2_best 14 = .ok (.iload_n 2, 1) := by decide +kernel
theorem dX2_best_15 : decode cX2_best 15 = .ok (.sipush 500, 3) := by decide +kernel
theorem dX2_best_18 : decode cX2_best 18 = .ok (.if_icmp .le 7, 3) := by decide +kernel
theorem dX2_best_21 : decode cX2_best 21 = .ok (.iconst 1, 1) := by decide +kernel
theorem dX2_best_22 : decode cX2_best 22 = .ok (.goto 4, 3) := by decide +kernel
theorem dX2_best_25 : decode cX2_best 25 = .ok (.iconst 0, 1) := by decide +kernel
theorem dX2_best_26 : decode cX2_best 26 = .ok (.putfield 25, 3) := by decide +kernel
theorem dX2_best_29 : decode cX2_best 29 = .ok (.aload_n 0, 1) := by decide +kernel
theorem dX2_best_30 : decode cX2_best 30 = .ok (.getfield 25, 3) := by decide +kernel
theorem dX2_best_33 : decode cX2_best 33 = .ok (.ifCond .le 5, 3) := by decide +kernel
theorem dX2_best_36 : decode cX2_best 36 = .ok (.iconst 0, 1) := by decide +kernel
theorem dX2_best_37 : decode cX2_best 37 = .ok (.ireturn, 1) := by decide +kernel
theorem dX2_best_38 : decode cX2_best 38 = .ok (.iload_n 1, 1) := by decide +kernel
theorem dX2_best_39 : decode cX2_best 39 = .ok (.bipush 6, 2) := by decide +kernel
theorem dX2_best_41 : decode cX2_best 41 = .ok (.if_icmp .ne 7, 3) := by decide +kernel
theorem dX2_best_44 : decode cX2_best 44 = .ok (.iconst 0, 1) := by decide +kernel
theorem dX2_best_45 : decode cX2_best 45 = .ok (.goto 4, 3) := by decide +kernel
theorem dX2_best_48 : decode cX2_best 48 = .ok (.iconst 1, 1) := by decide +kernel
theorem dX2_best_49 : decode cX2_best 49 = .ok (.istore_n 3, 1) := by decide +kernel
theorem dX2_best_50 : decode cX2_best 50 = .ok (.iload_n 3, 1) := by decide +kernel
theorem dX2_best_51 : decode cX2_best 51 = .ok (.istore 4, 2) := by decide +kernel
theorem dX2_best_53 : decode cX2_best 53 = .ok (.iload 4, 2) := by decide +kernel
theorem dX2_best_55 : decode cX2_best 55 = .ok (.iload_n 2, 1) := by decide +kernel
theorem dX2_best_56 : decode cX2_best 56 = .ok (.if_icmp .gt 33, 3) := by decide +kernel
theorem dX2_best_59 : decode cX2_best 59 = .ok (.aload_n 0, 1) := by decide +kernel
theorem dX2_best_60 : decode cX2_best 60 = .ok (.iload_n 1, 1) := by decide +kernel
theorem dX2_best_61 : decode cX2_best 61 = .ok (.iload 4, 2) := by decide +kernel
theorem dX2_best_63 : decode cX2_best 63 = .ok (.invokevirtual 170, 3) := by decide +kernel
theorem dX2_best_66 : decode cX2_best 66 = .ok (.aload_n 0, 1) := by decide +kernel
theorem dX2_best_67 : decode cX2_best 67 = .ok (.iload_n 1, 1) := by decide +kernel
theorem dX2_best_68 : decode cX2_best 68 = .ok (.iload_n 3, 1) := by decide +kernel
theorem dX2_best_69 : decode cX2_best 69 = .ok (.invokevirtual 170, 3) := by decide +kernel
theorem dX2_best_72 : decode cX2_best 72 = .ok (.lcmp, 1) := by decide +kernel
theorem dX2_best_73 : decode cX2_best 73 = .ok (.ifCond .ge 8, 3) := by decide +kernel
theorem dX2_best_76 : decode cX2_best 76 = .ok (.iload 4, 2) := by decide +kernel
theorem dX2_best_78 : decode cX2_best 78 = .ok (.goto 4, 3) := by decide +kernel
theorem dX2_best_81 : decode cX2_best 81 = .ok (.iload_n 3, 1) := by decide +kernel
theorem dX2_best_82 : decode cX2_best 82 = .ok (.istore_n 3, 1) := by decide +kernel
theorem dX2_best_83 : decode cX2_best 83 = .ok (.iinc 4 1, 3) := by decide +kernel
theorem dX2_best_86 : decode cX2_best 86 = .ok (.goto (-33), 3) := by decide +kernel
theorem dX2_best_89 : decode cX2_best 89 = .ok (.iload_n 3, 1) := by decide +kernel
theorem dX2_best_90 : decode cX2_best 90 = .ok (.ireturn, 1) := by decide +kernel
set_option maxRecDepth 20000 in
theorem ggX2_putAll_X2_noKind : GoodIn wsX2_putAll wsX2_noKind := goodIn_r _ [7, 8] (by decide +kernel) (by decide +kernel)
set_option maxRecDepth 20000 in
theorem gX2_putAll_X2_noKind : GoodIn wsX2_putAll (va_wsS RX2 151 yX2_noKind wsX2_noKind) := goodIn_app (goodIn_of _ (by decide +kernel)) ggX2_putAll_X2_noKind
set_option maxRecDepth 20000 in
theorem ggX2_putAll_X2_puts : GoodIn wsX2_putAll wsX2_puts := goodIn_r _ [12, 13, 14, 15, 16, 17, 18, 19, 6, 20, 21, 22, 23, 24, 25, 26, 27, 28, 29, 30, 31, 32, 33, 34, 35, 36, 37, 38, 39, 40, 41, 42, 43, 44, 45, 46, 47, 48, 49, 50, 51, 52, 53, 54, 55, 56, 57, 58, 59, 60, 61, 62, 63, 64, 65, 66, 67, 68, 69, 70, 71, 72, 73, 74, 75, 76, 77, 78, 79, 80, 81, 82] (by decide +kernel) (by decide +kernel)
set_option maxRecDepth 20000 in
theorem gX2_putAll_X2_puts : GoodIn wsX2_putAll (wsV RX2 159 RX2 yX2_puts wsX2_puts) := goodIn_app (goodIn_of _ (by decide +kernel)) ggX2_putAll_X2_puts
theorem dX2_putAll_0 : decode cX2_putAll 0 = .ok (.aload_n 0, 1) := by decide +kernel
theorem dX2_putAll_1 : decode cX2_putAll 1 = .ok (.iload_n 1, 1) := by decide +kernel
theorem dX2_putAll_2 : decode cX2_putAll 2 = .ok (.iload_n 2, 1) := by decide +kernel
theorem dX2_putAll_3 : decode cX2_putAll 3 = .ok (.invokestatic 151, 3) := by decide +kernel
theorem dX2_putAll_6 : decode cX2_putAll 6 = .ok (.ifCond .eq 7, 3) := by decide +kernel
theorem dX2_putAll_9 : decode cX2_putAll 9 = .ok (.iconst 1, 1) := by decide +kernel
theorem dX2_putAll_10 : decode cX2_putAll 10 = .ok (.goto 4, 3) := by decide +kernel
theorem dX2_putAll_13 : decode cX2_putAll 13 = .ok (.iconst 0, 1) := by decide +kernel
theorem dX2_putAll_14 : decode cX2_putAll 14 = .ok (.putfield 25, 3) := by decide +kernel
theorem dX2_putAll_17 : decode cX2_putAll 17 = .ok (.iconst 0, 1) := by decide +kernel
theorem dX2_putAll_18 : decode cX2_putAll 18 = .ok (.istore_n 3, 1) := by decide +kernel
theorem dX2_putAll_19 : decode cX2_putAll 19 = .ok (.aload_n 0, 1) := by decide +kernel
theorem dX2_putAll_20 : decode cX2_putAll 20 = .ok (.getfield 25, 3) := by decide +kernel
theorem dX2_putAll_23 : decode cX2_putAll 23 = .ok (.ifCond .ne 32, 3) := by decide +kernel
theorem dX2_putAll_26 : decode cX2_putAll 26 = .ok (.iload_n 3, 1) := by decide +kernel
theorem dX2_putAll_27 : decode cX2_putAll 27 = .ok (.aload_n 0, 1) := by decide +kernel
theorem dX2_putAll_28 : decode cX2_putAll 28 = .ok (.getfield 167, 3) := by decide +kernel
theorem dX2_putAll_31 : decode cX2_putAll 31 = .ok (.if_icmp .ge 24, 3) := by decide +kernel
theorem dX2_putAll_34 : decode cX2_putAll 34 = .ok (.aload_n 0, 1) := by decide +kernel
theorem dX2_putAll_35 : decode cX2_putAll 35 = .ok (.iload_n 1, 1) := by decide +kernel
theorem dX2_putAll_36 : decode cX2_putAll 36 = .ok (.iload_n 2, 1) := by decide +kernel
theorem dX2_putAll_37 : decode cX2_putAll 37 = .ok (.aload_n 0, 1) := by decide +kernel
theorem dX2_putAll_38 : decode cX2_putAll 38 = .ok (.getfield 13, 3) := by decide +kernel
theorem dX2_putAll_41 : decode cX2_putAll 41 = .ok (.iload_n 3, 1) := by decide +kernel
theorem dX2_putAll_42 : decode cX2_putAll 42 = .ok (.laload, 1) := by decide +kernel
theorem dX2_putAll_43 : decode cX2_putAll 43 = .ok (.invokevirtual 159, 3) := by decide +kernel
theorem dX2_putAll_46 : decode cX2_putAll 46 = .ok (.ifCond .eq 9, 3) := by decide +kernel
theorem dX2_putAll_49 : decode cX2_putAll 49 = .ok (.iinc 3 1, 3) := by decide +kernel
theorem dX2_putAll_52 : decode cX2_putAll 52 = .ok (.goto (-33), 3) := by decide +kernel
theorem dX2_putAll_55 : decode cX2_putAll 55 = .ok (.iload_n 3, 1) := by decide +kernel
theorem dX2_putAll_56 : decode cX2_putAll 56 = .ok (.ireturn, 1) := by decide +kernel
set_option maxRecDepth 20000 in
theorem ggX2_takeAll_X2_noKind : GoodIn wsX2_takeAll wsX2_noKind := goodIn_r _ [8, 9] (by decide +kernel) (by decide +kernel)
set_option maxRecDepth 20000 in
theorem gX2_takeAll_X2_noKind : GoodIn wsX2_takeAll (va_wsS RX2 151 yX2_noKind wsX2_noKind) := goodIn_app (goodIn_of _ (by decide +kernel)) ggX2_takeAll_X2_noKind
set_option maxRecDepth 20000 in
theorem ggX2_takeAll_X2_reads : GoodIn wsX2_takeAll wsX2_reads := goodIn_r _ [13, 14, 15, 16, 17, 18, 3, 19, 20, 21, 7, 22, 23, 24, 25, 26, 27, 28, 29, 30, 31, 32, 33, 34, 35, 36, 37, 38, 39, 40, 41, 42, 43, 44, 45, 46, 47, 48, 49, 50, 51, 52, 53, 54, 55, 56, 57, 58, 59, 60, 61, 62, 63, 64, 65, 66, 67, 68, 69, 70, 71, 72, 73, 74] (by decide +kernel) (by decide +kernel)
set_option maxRecDepth 20000 in
theorem gX2_takeAll_X2_reads : GoodIn wsX2_takeAll (wsV RX2 163 RX2 yX2_reads wsX2_reads) := goodIn_app (goodIn_of _ (by decide +kernel)) ggX2_takeAll_X2_reads
theorem dX2_takeAll_0 : decode cX2_takeAll 0 = .ok (.aload_n 0, 1) := by decide +kernel
theorem dX2_takeAll_1 : decode cX2_takeAll 1 = .ok (.iload_n 1, 1) := by decide +kernel
theorem dX2_takeAll_2 : decode cX2_takeAll 2 = .ok (.iload_n 2, 1) := by decide +kernel
theorem dX2_takeAll_3 : decode cX2_takeAll 3 = .ok (.invokestatic 151, 3) := by decide +kernel
theorem dX2_takeAll_6 : decode cX2_takeAll 6 = .ok (.ifCond .eq 7, 3) := by decide +kernel
theorem dX2_takeAll_9 : decode cX2_takeAll 9 = .ok (.iconst 1, 1) := by decide +kernel
theorem dX2_takeAll_10 : decode cX2_takeAll 10 = .ok (.goto 4, 3) := by decide +kernel
theorem dX2_takeAll_13 : decode cX2_takeAll 13 = .ok (.iconst 0, 1) := by decide +kernel
theorem dX2_takeAll_14 : decode cX2_takeAll 14 = .ok (.putfield 25, 3) := by decide +kernel
theorem dX2_takeAll_17 : decode cX2_takeAll 17 = .ok (.aload_n 0, 1) := by decide +kernel
theorem dX2_takeAll_18 : decode cX2_takeAll 18 = .ok (.getfield 25, 3) := by decide +kernel
theorem dX2_takeAll_21 : decode cX2_takeAll 21 = .ok (.ifCond .le 5, 3) := by decide +kernel
theorem dX2_takeAll_24 : decode cX2_takeAll 24 = .ok (.iconst 0, 1) := by decide +kernel
theorem dX2_takeAll_25 : decode cX2_takeAll 25 = .ok (.ireturn, 1) := by decide +kernel
theorem dX2_takeAll_26 : decode cX2_takeAll 26 = .ok (.aload_n 0, 1) := by decide +kernel
theorem dX2_takeAll_27 : decode cX2_takeAll 27 = .ok (.iconst 0, 1) := by decide +kernel
theorem dX2_takeAll_28 : decode cX2_takeAll 28 = .ok (.putfield 167, 3) := by decide +kernel
theorem dX2_takeAll_31 : decode cX2_takeAll 31 = .ok (.iconst 1, 1) := by decide +kernel
theorem dX2_takeAll_32 : decode cX2_takeAll 32 = .ok (.istore_n 3, 1) := by decide +kernel
theorem dX2_takeAll_33 : decode cX2_takeAll 33 = .ok (.iload_n 3, 1) := by decide +kernel
theorem dX2_takeAll_34 : decode cX2_takeAll 34 = .ok (.ifCond .eq 63, 3) := by decide +kernel
theorem dX2_takeAll_37 : decode cX2_takeAll 37 = .ok (.aload_n 0, 1) := by decide +kernel
theorem dX2_takeAll_38 : decode cX2_takeAll 38 = .ok (.getfield 167, 3) := by decide +kernel
theorem dX2_takeAll_41 : decode cX2_takeAll 41 = .ok (.bipush 100, 2) := by decide +kernel
theorem dX2_takeAll_43 : decode cX2_takeAll 43 = .ok (.if_icmp .ge 54, 3) := by decide +kernel
theorem dX2_takeAll_46 : decode cX2_takeAll 46 = .ok (.aload_n 0, 1) := by decide +kernel
theorem dX2_takeAll_47 : decode cX2_takeAll 47 = .ok (.iload_n 1, 1) := by decide +kernel
theorem dX2_takeAll_48 : decode cX2_takeAll 48 = .ok (.iload_n 2, 1) := by decide +kernel
theorem dX2_takeAll_49 : decode cX2_takeAll 49 = .ok (.invokevirtual 163, 3) := by decide +kernel
theorem dX2_takeAll_52 : decode cX2_takeAll 52 = .ok (.lstore 4, 2) := by decide +kernel
theorem dX2_takeAll_54 : decode cX2_takeAll 54 = .ok (.lload 4, 2) := by decide +kernel
theorem dX2_takeAll_56 : decode cX2_takeAll 56 = .ok (.ldc2_w 135, 3) := by decide +kernel
theorem dX2_takeAll_59 : decode cX2_takeAll 59 = .ok (.lcmp, 1) := by decide +kernel
theorem dX2_takeAll_60 : decode cX2_takeAll 60 = .ok (.ifCond .eq 7, 3) := by decide +kernel
theorem dX2_takeAll_63 : decode cX2_takeAll 63 = .ok (.iconst 1, 1) := by decide +kernel
theorem dX2_takeAll_64 : decode cX2_takeAll 64 = .ok (.goto 4, 3) := by decide +kernel
theorem dX2_takeAll_67 : decode cX2_takeAll 67 = .ok (.iconst 0, 1) := by decide +kernel
theorem dX2_takeAll_68 : decode cX2_takeAll 68 = .ok (.istore_n 3, 1) := by decide +kernel
theorem dX2_takeAll_69 : decode cX2_takeAll 69 = .ok (.iload_n 3, 1) := by decide +kernel
theorem dX2_takeAll_70 : decode cX2_takeAll 70 = .ok (.ifCond .eq 24, 3) := by decide +kernel
theorem dX2_takeAll_73 : decode cX2_takeAll 73 = .ok (.aload_n 0, 1) := by decide +kernel
theorem dX2_takeAll_74 : decode cX2_takeAll 74 = .ok (.getfield 13, 3) := by decide +kernel
theorem dX2_takeAll_77 : decode cX2_takeAll 77 = .ok (.aload_n 0, 1) := by decide +kernel
theorem dX2_takeAll_78 : decode cX2_takeAll 78 = .ok (.getfield 167, 3) := by decide +kernel
theorem dX2_takeAll_81 : decode cX2_takeAll 81 = .ok (.lload 4, 2) := by decide +kernel
theorem dX2_takeAll_83 : decode cX2_takeAll 83 = .ok (.lastore, 1) := by decide +kernel
theorem dX2_takeAll_84 : decode cX2_takeAll 84 = .ok (.aload_n 0, 1) := by decide +kernel
theorem dX2_takeAll_85 : decode cX2_takeAll 85 = .ok (.dup, 1) := by decide +kernel
theorem dX2_takeAll_86 : decode cX2_takeAll 86 = .ok (.getfield 167, 3) := by decide +kernel
theorem dX2_takeAll_89 : decode cX2_takeAll 89 = .ok (.iconst 1, 1) := by decide +kernel
theorem dX2_takeAll_90 : decode cX2_takeAll 90 = .ok (.iadd, 1) := by decide +kernel
theorem dX2_takeAll_91 : decode cX2_takeAll 91 = .ok (.putfield 167, 3) := by decide +kernel
theorem dX2_takeAll_94 : decode cX2_takeAll 94 = .ok (.goto (-61), 3) := by decide +kernel
theorem dX2_takeAll_97 : decode cX2_takeAll 97 = .ok (.aload_n 0, 1) := by decide +kernel
theorem dX2_takeAll_98 : decode cX2_takeAll 98 = .ok (.getfield 167, 3) := by decide +kernel
theorem dX2_takeAll_101 : decode cX2_takeAll 101 = .ok (.ireturn, 1) := by decide +kernel
set_option maxRecDepth 20000 in
theorem ggX2_count_X2_noKind : GoodIn wsX2_count wsX2_noKind := goodIn_r _ [5, 6] (by decide +kernel) (by decide +kernel)
set_option maxRecDepth 20000 in
theorem gX2_count_X2_noKind : GoodIn wsX2_count (va_wsS RX2 151 yX2_noKind wsX2_noKind) := goodIn_app (goodIn_of _ (by decide +kernel)) ggX2_count_X2_noKind
set_option maxRecDepth 20000 in
theorem ggX2_count_X2_countOf : GoodIn wsX2_count wsX2_countOf := goodIn_r _ [10, 11, 12, 13, 4, 14, 15, 16, 17, 18, 19, 20, 21, 22, 23, 24, 25, 26, 27, 28, 29, 30, 31, 32, 33, 34, 35, 36, 37, 38, 39, 40, 41, 42, 43, 44, 45, 46, 47, 48, 49, 50, 51, 52, 53, 54, 55] (by decide +kernel) (by decide +kernel)
set_option maxRecDepth 20000 in
theorem gX2_count_X2_countOf : GoodIn wsX2_count (wsV RX2 173 RX2 yX2_countOf wsX2_countOf) := goodIn_app (goodIn_of _ (by decide +kernel)) ggX2_count_X2_countOf
theorem dX2_count_0 : decode cX2_count 0 = .ok (.aload_n 0, 1) := by decide +kernel
theorem dX2_count_1 : decode cX2_count 1 = .ok (.iload_n 1, 1) := by decide +kernel
theorem dX2_count_2 : decode cX2_count 2 = .ok (.iload_n 2, 1) := by decide +kernel
theorem dX2_count_3 : decode cX2_count 3 = .ok (.invokestatic 151, 3) := by decide +kernel
theorem dX2_count_6 : decode cX2_count 6 = .ok (.ifCond .ne 14, 3) := by decide +kernel
theorem dX2_count_9 : decode cX2_count 9 = .ok (.iload_n 3, 1) := by decide +kernel
theorem dX2_count_10 : decode cX2_count 10 = .ok (.ifCond .lt 10, 3) := by decide +kernel
theorem dX2_count_13 : decode cX2_count 13 = .ok (.iload_n 3, 1) := by decide +kernel
theorem dX2_count_14 : decode cX2_count 14 = .ok (.sipush 200, 3) := by decide +kernel
theorem dX2_count_17 : decode cX2_count 17 = .ok (.if_icmp .le 7, 3) := by decide +kernel
theorem dX2_count_20 : decode cX2_count 20 = .ok (.iconst 1, 1) := by decide +kernel
theorem dX2_count_21 : decode cX2_count 21 = .ok (.goto 4, 3) := by decide +kernel
theorem dX2_count_24 : decode cX2_count 24 = .ok (.iconst 0, 1) := by decide +kernel
theorem dX2_count_25 : decode cX2_count 25 = .ok (.putfield 25, 3) := by decide +kernel
theorem dX2_count_28 : decode cX2_count 28 = .ok (.aload_n 0, 1) := by decide +kernel
theorem dX2_count_29 : decode cX2_count 29 = .ok (.getfield 25, 3) := by decide +kernel
theorem dX2_count_32 : decode cX2_count 32 = .ok (.ifCond .le 7, 3) := by decide +kernel
theorem dX2_count_35 : decode cX2_count 35 = .ok (.lconst 0, 1) := by decide +kernel
theorem dX2_count_36 : decode cX2_count 36 = .ok (.goto 10, 3) := by decide +kernel
theorem dX2_count_39 : decode cX2_count 39 = .ok (.aload_n 0, 1) := by decide +kernel
theorem dX2_count_40 : decode cX2_count 40 = .ok (.iload_n 1, 1) := by decide +kernel
theorem dX2_count_41 : decode cX2_count 41 = .ok (.iload_n 2, 1) := by decide +kernel
theorem dX2_count_42 : decode cX2_count 42 = .ok (.iload_n 3, 1) := by decide +kernel
theorem dX2_count_43 : decode cX2_count 43 = .ok (.invokevirtual 173, 3) := by decide +kernel
theorem dX2_count_46 : decode cX2_count 46 = .ok (.lreturn, 1) := by decide +kernel
set_option maxRecDepth 20000 in
theorem ggX2_first_X2_noKind : GoodIn wsX2_first wsX2_noKind := goodIn_r _ [6, 7] (by decide +kernel) (by decide +kernel)
set_option maxRecDepth 20000 in
theorem gX2_first_X2_noKind : GoodIn wsX2_first (va_wsS RX2 151 yX2_noKind wsX2_noKind) := goodIn_app (goodIn_of _ (by decide +kernel)) ggX2_first_X2_noKind
set_option maxRecDepth 20000 in
theorem ggX2_first_X2_leastOf : GoodIn wsX2_first wsX2_leastOf := goodIn_r _ [11, 12, 13, 14, 5, 15, 16, 17, 18, 19, 20, 21, 22, 23, 24, 25, 26, 27, 28, 29, 30, 31, 32, 33, 34, 35, 36, 37, 38, 39, 40, 41, 42, 43, 44, 45, 46, 47, 48, 49, 50, 51, 52, 53, 54, 55, 56] (by decide +kernel) (by decide +kernel)
set_option maxRecDepth 20000 in
theorem gX2_first_X2_leastOf : GoodIn wsX2_first (wsV RX2 177 RX2 yX2_leastOf wsX2_leastOf) := goodIn_app (goodIn_of _ (by decide +kernel)) ggX2_first_X2_leastOf
theorem dX2_first_0 : decode cX2_first 0 = .ok (.aload_n 0, 1) := by decide +kernel
theorem dX2_first_1 : decode cX2_first 1 = .ok (.iload_n 1, 1) := by decide +kernel
theorem dX2_first_2 : decode cX2_first 2 = .ok (.iload_n 2, 1) := by decide +kernel
theorem dX2_first_3 : decode cX2_first 3 = .ok (.invokestatic 151, 3) := by decide +kernel
theorem dX2_first_6 : decode cX2_first 6 = .ok (.ifCond .ne 14, 3) := by decide +kernel
theorem dX2_first_9 : decode cX2_first 9 = .ok (.iload_n 3, 1) := by decide +kernel
theorem dX2_first_10 : decode cX2_first 10 = .ok (.ifCond .lt 10, 3) := by decide +kernel
theorem dX2_first_13 : decode cX2_first 13 = .ok (.iload_n 3, 1) := by decide +kernel
theorem dX2_first_14 : decode cX2_first 14 = .ok (.sipush 200, 3) := by decide +kernel
theorem dX2_first_17 : decode cX2_first 17 = .ok (.if_icmp .le 7, 3) := by decide +kernel
theorem dX2_first_20 : decode cX2_first 20 = .ok (.iconst 1, 1) := by decide +kernel
theorem dX2_first_21 : decode cX2_first 21 = .ok (.goto 4, 3) := by decide +kernel
theorem dX2_first_24 : decode cX2_first 24 = .ok (.iconst 0, 1) := by decide +kernel
theorem dX2_first_25 : decode cX2_first 25 = .ok (.putfield 25, 3) := by decide +kernel
theorem dX2_first_28 : decode cX2_first 28 = .ok (.aload_n 0, 1) := by decide +kernel
theorem dX2_first_29 : decode cX2_first 29 = .ok (.getfield 25, 3) := by decide +kernel
theorem dX2_first_32 : decode cX2_first 32 = .ok (.ifCond .le 5, 3) := by decide +kernel
theorem dX2_first_35 : decode cX2_first 35 = .ok (.lconst 0, 1) := by decide +kernel
theorem dX2_first_36 : decode cX2_first 36 = .ok (.lreturn, 1) := by decide +kernel
theorem dX2_first_37 : decode cX2_first 37 = .ok (.aload_n 0, 1) := by decide +kernel
theorem dX2_first_38 : decode cX2_first 38 = .ok (.iload_n 1, 1) := by decide +kernel
theorem dX2_first_39 : decode cX2_first 39 = .ok (.iload_n 2, 1) := by decide +kernel
theorem dX2_first_40 : decode cX2_first 40 = .ok (.iload_n 3, 1) := by decide +kernel
theorem dX2_first_41 : decode cX2_first 41 = .ok (.invokevirtual 177, 3) := by decide +kernel
theorem dX2_first_44 : decode cX2_first 44 = .ok (.lstore 4, 2) := by decide +kernel
theorem dX2_first_46 : decode cX2_first 46 = .ok (.lload 4, 2) := by decide +kernel
theorem dX2_first_48 : decode cX2_first 48 = .ok (.lconst 0, 1) := by decide +kernel
theorem dX2_first_49 : decode cX2_first 49 = .ok (.lcmp, 1) := by decide +kernel
theorem dX2_first_50 : decode cX2_first 50 = .ok (.ifCond .ne 9, 3) := by decide +kernel
theorem dX2_first_53 : decode cX2_first 53 = .ok (.ldc2_w 135, 3) := by decide +kernel
theorem dX2_first_56 : decode cX2_first 56 = .ok (.goto 5, 3) := by decide +kernel
theorem dX2_first_59 : decode cX2_first 59 = .ok (.lload 4, 2) := by decide +kernel
theorem dX2_first_61 : decode cX2_first 61 = .ok (.lreturn, 1) := by decide +kernel
set_option maxRecDepth 20000 in
theorem ggX2_begun_X2_noKind : GoodIn wsX2_begun wsX2_noKind := goodIn_r _ [5, 6] (by decide +kernel) (by decide +kernel)
set_option maxRecDepth 20000 in
theorem gX2_begun_X2_noKind : GoodIn wsX2_begun (va_wsS RX2 151 yX2_noKind wsX2_noKind) := goodIn_app (goodIn_of _ (by decide +kernel)) ggX2_begun_X2_noKind
set_option maxRecDepth 20000 in
theorem ggX2_begun_X2_countOf : GoodIn wsX2_begun wsX2_countOf := goodIn_r _ [10, 11, 12, 13, 4, 14, 15, 16, 17, 18, 19, 20, 21, 22, 23, 24, 25, 26, 27, 28, 29, 30, 31, 32, 33, 34, 35, 36, 37, 38, 39, 40, 41, 42, 43, 44, 45, 46, 47, 48, 49, 50, 51, 52, 53, 54, 55] (by decide +kernel) (by decide +kernel)
set_option maxRecDepth 20000 in
theorem gX2_begun_X2_countOf : GoodIn wsX2_begun (wsV RX2 173 RX2 yX2_countOf wsX2_countOf) := goodIn_app (goodIn_of _ (by decide +kernel)) ggX2_begun_X2_countOf
theorem dX2_begun_0 : decode cX2_begun 0 = .ok (.aload_n 0, 1) := by decide +kernel
theorem dX2_begun_1 : decode cX2_begun 1 = .ok (.iload_n 1, 1) := by decide +kernel
theorem dX2_begun_2 : decode cX2_begun 2 = .ok (.iload_n 2, 1) := by decide +kernel
theorem dX2_begun_3 : decode cX2_begun 3 = .ok (.invokestatic 151, 3) := by decide +kernel
theorem dX2_begun_6 : decode cX2_begun 6 = .ok (.ifCond .ne 13, 3) := by decide +kernel
theorem dX2_begun_9 : decode cX2_begun 9 = .ok (.iload_n 3, 1) := by decide +kernel
theorem dX2_begun_10 : decode cX2_begun 10 = .ok (.ifCond .lt 9, 3) := by decide +kernel
theorem dX2_begun_13 : decode cX2_begun 13 = .ok (.iload_n 3, 1) := by decide +kernel
theorem dX2_begun_14 : decode cX2_begun 14 = .ok (.bipush 62, 2) := by decide +kernel
theorem dX2_begun_16 : decode cX2_begun 16 = .ok (.if_icmp .le 7, 3) := by decide +kernel
theorem dX2_begun_19 : decode cX2_begun 19 = .ok (.iconst 1, 1) := by decide +kernel
theorem dX2_begun_20 : decode cX2_begun 20 = .ok (.goto 4, 3) := by decide +kernel
theorem dX2_begun_23 : decode cX2_begun 23 = .ok (.iconst 0, 1) := by decide +kernel
theorem dX2_begun_24 : decode cX2_begun 24 = .ok (.putfield 25, 3) := by decide +kernel
theorem dX2_begun_27 : decode cX2_begun 27 = .ok (.lconst 0, 1) := by decide +kernel
theorem dX2_begun_28 : decode cX2_begun 28 = .ok (.lstore 4, 2) := by decide +kernel
theorem dX2_begun_30 : decode cX2_begun 30 = .ok (.iconst 1, 1) := by decide +kernel
theorem dX2_begun_31 : decode cX2_begun 31 = .ok (.istore 6, 2) := by decide +kernel
theorem dX2_begun_33 : decode cX2_begun 33 = .ok (.iload 6, 2) := by decide +kernel
theorem dX2_begun_35 : decode cX2_begun 35 = .ok (.iload_n 3, 1) := by decide +kernel
theorem dX2_begun_36 : decode cX2_begun 36 = .ok (.if_icmp .gt 34, 3) := by decide +kernel
theorem dX2_begun_39 : decode cX2_begun 39 = .ok (.aload_n 0, 1) := by decide +kernel
theorem dX2_begun_40 : decode cX2_begun 40 = .ok (.getfield 25, 3) := by decide +kernel
theorem dX2_begun_43 : decode cX2_begun 43 = .ok (.ifCond .ne 27, 3) := by decide +kernel
theorem dX2_begun_46 : decode cX2_begun 46 = .ok (.lload 4, 2) := by decide +kernel
theorem dX2_begun_48 : decode cX2_begun 48 = .ok (.aload_n 0, 1) := by decide +kernel
theorem dX2_begun_49 : decode cX2_begun 49 = .ok (.iload_n 1, 1) := by decide +kernel
theorem dX2_begun_50 : decode cX2_begun 50 = .ok (.iload_n 2, 1) := by decide +kernel
theorem dX2_begun_51 : decode cX2_begun 51 = .ok (.iload 6, 2) := by decide +kernel
theorem dX2_begun_53 : decode cX2_begun 53 = .ok (.invokevirtual 173, 3) := by decide +kernel
theorem dX2_begun_56 : decode cX2_begun 56 = .ok (.iload_n 3, 1) := by decide +kernel
theorem dX2_begun_57 : decode cX2_begun 57 = .ok (.iload 6, 2) := by decide +kernel
theorem dX2_begun_59 : decode cX2_begun 59 = .ok (.isub, 1) := by decide +kernel
theorem dX2_begun_60 : decode cX2_begun 60 = .ok (.lshl, 1) := by decide +kernel
theorem dX2_begun_61 : decode cX2_begun 61 = .ok (.ladd, 1) := by decide +kernel
theorem dX2_begun_62 : decode cX2_begun 62 = .ok (.lstore 4, 2) := by decide +kernel
theorem dX2_begun_64 : decode cX2_begun 64 = .ok (.iinc 6 1, 3) := by decide +kernel
theorem dX2_begun_67 : decode cX2_begun 67 = .ok (.goto (-34), 3) := by decide +kernel
theorem dX2_begun_70 : decode cX2_begun 70 = .ok (.lload 4, 2) := by decide +kernel
theorem dX2_begun_72 : decode cX2_begun 72 = .ok (.lreturn, 1) := by decide +kernel
theorem dX2_fold_0 : decode cX2_fold 0 = .ok (.aload_n 0, 1) := by decide +kernel
theorem dX2_fold_1 : decode cX2_fold 1 = .ok (.lload_n 1, 1) := by decide +kernel
theorem dX2_fold_2 : decode cX2_fold 2 = .ok (.ldc2_w 180, 3) := by decide +kernel
theorem dX2_fold_5 : decode cX2_fold 5 = .ok (.lcmp, 1) := by decide +kernel
theorem dX2_fold_6 : decode cX2_fold 6 = .ok (.ifCond .gt 11, 3) := by decide +kernel
theorem dX2_fold_9 : decode cX2_fold 9 = .ok (.lload_n 1, 1) := by decide +kernel
theorem dX2_fold_10 : decode cX2_fold 10 = .ok (.ldc2_w 182, 3) := by decide +kernel
theorem dX2_fold_13 : decode cX2_fold 13 = .ok (.lcmp, 1) := by decide +kernel
theorem dX2_fold_14 : decode cX2_fold 14 = .ok (.ifCond .gt 7, 3) := by decide +kernel
theorem dX2_fold_17 : decode cX2_fold 17 = .ok (.iconst 1, 1) := by decide +kernel
theorem dX2_fold_18 : decode cX2_fold 18 = .ok (.goto 4, 3) := by decide +kernel
theorem dX2_fold_21 : decode cX2_fold 21 = .ok (.iconst 0, 1) := by decide +kernel
theorem dX2_fold_22 : decode cX2_fold 22 = .ok (.putfield 25, 3) := by decide +kernel
theorem dX2_fold_25 : decode cX2_fold 25 = .ok (.aload_n 0, 1) := by decide +kernel
theorem dX2_fold_26 : decode cX2_fold 26 = .ok (.getfield 25, 3) := by decide +kernel
theorem dX2_fold_29 : decode cX2_fold 29 = .ok (.ifCond .le 5, 3) := by decide +kernel
theorem dX2_fold_32 : decode cX2_fold 32 = .ok (.lconst 0, 1) := by decide +kernel
theorem dX2_fold_33 : decode cX2_fold 33 = .ok (.lreturn, 1) := by decide +kernel
theorem dX2_fold_34 : decode cX2_fold 34 = .ok (.lload_n 1, 1) := by decide +kernel
