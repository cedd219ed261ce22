theorem dX0_init_0 : decode cX0_init 0 = .ok (.aload_n 0, 1) := by decide +kernel
theorem dX0_init_1 : decode cX0_init 1 = .ok (.invokespecial 3, 3) := by decide +kernel
theorem dX0_init_4 : decode cX0_init 4 = .ok (.aload_n 0, 1) := by decide +kernel
theorem dX0_init_5 : decode cX0_init 5 = .ok (.ldc2_w 9, 3) := by decide +kernel
theorem dX0_init_8 : decode cX0_init 8 = .ok (.putfield 11, 3) := by decide +kernel
theorem dX0_init_11 : decode cX0_init 11 = .ok (.aload_n 0, 1) := by decide +kernel
theorem dX0_init_12 : decode cX0_init 12 = .ok (.ldc2_w 17, 3) := by decide +kernel
theorem dX0_init_15 : decode cX0_init 15 = .ok (.putfield 19, 3) := by decide +kernel
theorem dX0_init_18 : decode cX0_init 18 = .ok (.aload_n 0, 1) := by decide +kernel
theorem dX0_init_19 : decode cX0_init 19 = .ok (.ldc2_w 23, 3) := by decide +kernel
theorem dX0_init_22 : decode cX0_init 22 = .ok (.putfield 25, 3) := by decide +kernel
theorem dX0_init_25 : decode cX0_init 25 = .ok (.aload_n 0, 1) := by decide +kernel
theorem dX0_init_26 : decode cX0_init 26 = .ok (.ldc2_w 28, 3) := by decide +kernel
theorem dX0_init_29 : decode cX0_init 29 = .ok (.putfield 30, 3) := by decide +kernel
theorem dX0_init_32 : decode cX0_init 32 = .ok (.return_, 1) := by decide +kernel
set_option maxRecDepth 20000 in
theorem ggX0_take_X0_withinShare : GoodIn wsX0_take wsX0_withinShare := goodIn_r _ [13] (by decide +kernel) (by decide +kernel)
set_option maxRecDepth 20000 in
theorem gX0_take_X0_withinShare : GoodIn wsX0_take (va_wsS RX0 39 yX0_withinShare wsX0_withinShare) := goodIn_app (goodIn_of _ (by decide +kernel)) ggX0_take_X0_withinShare
theorem dX0_take_0 : decode cX0_take 0 = .ok (.aload_n 0, 1) := by decide +kernel
theorem dX0_take_1 : decode cX0_take 1 = .ok (.lload_n 3, 1) := by decide +kernel
theorem dX0_take_2 : decode cX0_take 2 = .ok (.putfield 25, 3) := by decide +kernel
theorem dX0_take_5 : decode cX0_take 5 = .ok (.aload_n 0, 1) := by decide +kernel
theorem dX0_take_6 : decode cX0_take 6 = .ok (.lload 5, 2) := by decide +kernel
theorem dX0_take_8 : decode cX0_take 8 = .ok (.putfield 30, 3) := by decide +kernel
theorem dX0_take_11 : decode cX0_take 11 = .ok (.aload_n 0, 1) := by decide +kernel
theorem dX0_take_12 : decode cX0_take 12 = .ok (.dup, 1) := by decide +kernel
theorem dX0_take_13 : decode cX0_take 13 = .ok (.getfield 11, 3) := by decide +kernel
theorem dX0_take_16 : decode cX0_take 16 = .ok (.aload_n 0, 1) := by decide +kernel
theorem dX0_take_17 : decode cX0_take 17 = .ok (.getfield 33, 3) := by decide +kernel
theorem dX0_take_20 : decode cX0_take 20 = .ok (.ifCond .eq 11, 3) := by decide +kernel
theorem dX0_take_23 : decode cX0_take 23 = .ok (.lload_n 1, 1) := by decide +kernel
theorem dX0_take_24 : decode cX0_take 24 = .ok (.ldc2_w 37, 3) := by decide +kernel
theorem dX0_take_27 : decode cX0_take 27 = .ok (.lsub, 1) := by decide +kernel
theorem dX0_take_28 : decode cX0_take 28 = .ok (.goto 4, 3) := by decide +kernel
theorem dX0_take_31 : decode cX0_take 31 = .ok (.lload_n 1, 1) := by decide +kernel
theorem dX0_take_32 : decode cX0_take 32 = .ok (.ladd, 1) := by decide +kernel
theorem dX0_take_33 : decode cX0_take 33 = .ok (.putfield 11, 3) := by decide +kernel
theorem dX0_take_36 : decode cX0_take 36 = .ok (.lload 7, 2) := by decide +kernel
theorem dX0_take_38 : decode cX0_take 38 = .ok (.lconst 0, 1) := by decide +kernel
theorem dX0_take_39 : decode cX0_take 39 = .ok (.lcmp, 1) := by decide +kernel
theorem dX0_take_40 : decode cX0_take 40 = .ok (.ifCond .ne 10, 3) := by decide +kernel
theorem dX0_take_43 : decode cX0_take 43 = .ok (.aload_n 0, 1) := by decide +kernel
theorem dX0_take_44 : decode cX0_take 44 = .ok (.getfield 19, 3) := by decide +kernel
theorem dX0_take_47 : decode cX0_take 47 = .ok (.goto 14, 3) := by decide +kernel
theorem dX0_take_50 : decode cX0_take 50 = .ok (.aload_n 0, 1) := by decide +kernel
theorem dX0_take_51 : decode cX0_take 51 = .ok (.getfield 19, 3) := by decide +kernel
theorem dX0_take_54 : decode cX0_take 54 = .ok (.lload_n 1, 1) := by decide +kernel
theorem dX0_take_55 : decode cX0_take 55 = .ok (.l2d, 1) := by decide +kernel
theorem dX0_take_56 : decode cX0_take 56 = .ok (.lload 7, 2) := by decide +kernel
theorem dX0_take_58 : decode cX0_take 58 = .ok (.l2d, 1) := by decide +kernel
theorem dX0_take_59 : decode cX0_take 59 = .ok (.ddiv, 1) := by decide +kernel
theorem dX0_take_60 : decode cX0_take 60 = .ok (.dadd, 1) := by decide +kernel
theorem dX0_take_61 : decode cX0_take 61 = .ok (.dstore 9, 2) := by decide +kernel
theorem dX0_take_63 : decode cX0_take 63 = .ok (.dload 9, 2) := by decide +kernel
theorem dX0_take_65 : decode cX0_take 65 = .ok (.invokestatic 39, 3) := by decide +kernel
theorem dX0_take_68 : decode cX0_take 68 = .ok (.dstore 11, 2) := by decide +kernel
theorem dX0_take_70 : decode cX0_take 70 = .ok (.lload_n 3, 1) := by decide +kernel
theorem dX0_take_71 : decode cX0_take 71 = .ok (.ldc2_w 43, 3) := by decide +kernel
theorem dX0_take_74 : decode cX0_take 74 = .ok (.lsub, 1) := by decide +kernel
theorem dX0_take_75 : decode cX0_take 75 = .ok (.l2d, 1) := by decide +kernel
theorem dX0_take_76 : decode cX0_take 76 = .ok (.ldc2_w 45, 3) := by decide +kernel
theorem dX0_take_79 : decode cX0_take 79 = .ok (.ddiv, 1) := by decide +kernel
theorem dX0_take_80 : decode cX0_take 80 = .ok (.invokestatic 39, 3) := by decide +kernel
theorem dX0_take_83 : decode cX0_take 83 = .ok (.dstore 13, 2) := by decide +kernel
theorem dX0_take_85 : decode cX0_take 85 = .ok (.aload_n 0, 1) := by decide +kernel
theorem dX0_take_86 : decode cX0_take 86 = .ok (.dload 11, 2) := by decide +kernel
theorem dX0_take_88 : decode cX0_take 88 = .ok (.ldc2_w 47, 3) := by decide +kernel
theorem dX0_take_91 : decode cX0_take 91 = .ok (.dload 13, 2) := by decide +kernel
theorem dX0_take_93 : decode cX0_take 93 = .ok (.dload 11, 2) := by decide +kernel
theorem dX0_take_95 : decode cX0_take 95 = .ok (.dsub, 1) := by decide +kernel
theorem dX0_take_96 : decode cX0_take 96 = .ok (.dmul, 1) := by decide +kernel
theorem dX0_take_97 : decode cX0_take 97 = .ok (.dadd, 1) := by decide +kernel
theorem dX0_take_98 : decode cX0_take 98 = .ok (.putfield 19, 3) := by decide +kernel
theorem dX0_take_101 : decode cX0_take 101 = .ok (.return_, 1) := by decide +kernel
theorem dX0_withinShare_0 : decode cX0_withinShare 0 = .ok (.dload_n 0, 1) := by decide +kernel
theorem dX0_withinShare_1 : decode cX0_withinShare 1 = .ok (.dconst 0, 1) := by decide +kernel
theorem dX0_withinShare_2 : decode cX0_withinShare 2 = .ok (.dcmp .g, 1) := by decide +kernel
theorem dX0_withinShare_3 : decode cX0_withinShare 3 = .ok (.ifCond .ge 5, 3) := by decide +kernel
theorem dX0_withinShare_6 : decode cX0_withinShare 6 = .ok (.dconst 0, 1) := by decide +kernel
theorem dX0_withinShare_7 : decode cX0_withinShare 7 = .ok (.dreturn, 1) := by decide +kernel
theorem dX0_withinShare_8 : decode cX0_withinShare 8 = .ok (.dload_n 0, 1) := by decide +kernel
theorem dX0_withinShare_9 : decode cX0_withinShare 9 = .ok (.dconst 1, 1) := by decide +kernel
theorem dX0_withinShare_10 : decode cX0_withinShare 10 = .ok (.dcmp .l, 1) := by decide +kernel
theorem dX0_withinShare_11 : decode cX0_withinShare 11 = .ok (.ifCond .le 7, 3) := by decide +kernel
theorem dX0_withinShare_14 : decode cX0_withinShare 14 = .ok (.dconst 1, 1) := by decide +kernel
theorem dX0_withinShare_15 : decode cX0_withinShare 15 = .ok (.goto 4, 3) := by decide +kernel
theorem dX0_withinShare_18 : decode cX0_withinShare 18 = .ok (.dload_n 0, 1) := by decide +kernel
theorem dX0_withinShare_19 : decode cX0_withinShare 19 = .ok (.dreturn, 1) := by decide +kernel
theorem dX1_init_0 : decode cX1_init 0 = .ok (.aload_n 0, 1) := by decide +kernel
theorem dX1_init_1 : decode cX1_init 1 = .ok (.invokespecial 3, 3) := by decide +kernel
theorem dX1_init_4 : decode cX1_init 4 = .ok (.aload_n 0, 1) := by decide +kernel
theorem dX1_init_5 : decode cX1_init 5 = .ok (.sipush 500, 3) := by decide +kernel
theorem dX1_init_8 : decode cX1_init 8 = .ok (.newarray .long, 2) := by decide +kernel
theorem dX1_init_10 : decode cX1_init 10 = .ok (.putfield 9, 3) := by decide +kernel
theorem dX1_init_13 : decode cX1_init 13 = .ok (.aload_n 0, 1) := by decide +kernel
theorem dX1_init_14 : decode cX1_init 14 = .ok (.sipush 256, 3) := by decide +kernel
theorem dX1_init_17 : decode cX1_init 17 = .ok (.newarray .long, 2) := by decide +kernel
theorem dX1_init_19 : decode cX1_init 19 = .ok (.putfield 15, 3) := by decide +kernel
theorem dX1_init_22 : decode cX1_init 22 = .ok (.aload_n 0, 1) := by decide +kernel
theorem dX1_init_23 : decode cX1_init 23 = .ok (.sipush 256, 3) := by decide +kernel
theorem dX1_init_26 : decode cX1_init 26 = .ok (.newarray .long, 2) := by decide +kernel
theorem dX1_init_28 : decode cX1_init 28 = .ok (.putfield 18, 3) := by decide +kernel
theorem dX1_init_31 : decode cX1_init 31 = .ok (.return_, 1) := by decide +kernel
set_option maxRecDepth 20000 in
theorem ggX1_follow_X1_goesOn : GoodIn wsX1_follow wsX1_goesOn := goodIn_r _ [7, 2, 1, 26, 27, 28, 29, 30] (by decide +kernel) (by decide +kernel)
set_option maxRecDepth 20000 in
theorem gX1_follow_X1_goesOn : GoodIn wsX1_follow (wsV RX1 21 RX1 yX1_goesOn wsX1_goesOn) := goodIn_app (goodIn_of _ (by decide +kernel)) ggX1_follow_X1_goesOn
set_option maxRecDepth 20000 in
theorem ggX1_follow_X1_takeCyclesOut : GoodIn wsX1_follow wsX1_takeCyclesOut := goodIn_r _ [11, 2, 1, 12, 13, 14, 15, 16, 17, 18, 19, 20, 21, 6, 22, 23, 24, 25, 26, 27, 28, 29, 30] (by decide +kernel) (by decide +kernel)
set_option maxRecDepth 20000 in
theorem gX1_follow_X1_takeCyclesOut : GoodIn wsX1_follow (wsV RX1 29 RX1 yX1_takeCyclesOut wsX1_takeCyclesOut) := goodIn_app (goodIn_of _ (by decide +kernel)) ggX1_follow_X1_takeCyclesOut
theorem dX1_follow_0 : decode cX1_follow 0 = .ok (.aload_n 0, 1) := by decide +kernel
theorem dX1_follow_1 : decode cX1_follow 1 = .ok (.lload_n 1, 1) := by decide +kernel
theorem dX1_follow_2 : decode cX1_follow 2 = .ok (.invokevirtual 21, 3) := by decide +kernel
theorem dX1_follow_5 : decode cX1_follow 5 = .ok (.ifCond .eq 18, 3) := by decide +kernel
theorem dX1_follow_8 : decode cX1_follow 8 = .ok (.aload_n 0, 1) := by decide +kernel
theorem dX1_follow_9 : decode cX1_follow 9 = .ok (.getfield 9, 3) := by decide +kernel
theorem dX1_follow_12 : decode cX1_follow 12 = .ok (.aload_n 0, 1) := by decide +kernel
theorem dX1_follow_13 : decode cX1_follow 13 = .ok (.getfield 25, 3) := by decide +kernel
theorem dX1_follow_16 : decode cX1_follow 16 = .ok (.iconst 1, 1) := by decide +kernel
theorem dX1_follow_17 : decode cX1_follow 17 = .ok (.isub, 1) := by decide +kernel
theorem dX1_follow_18 : decode cX1_follow 18 = .ok (.lload_n 1, 1) := by decide +kernel
theorem dX1_follow_19 : decode cX1_follow 19 = .ok (.lastore, 1) := by decide +kernel
theorem dX1_follow_20 : decode cX1_follow 20 = .ok (.goto 35, 3) := by decide +kernel
theorem dX1_follow_23 : decode cX1_follow 23 = .ok (.aload_n 0, 1) := by decide +kernel
theorem dX1_follow_24 : decode cX1_follow 24 = .ok (.getfield 25, 3) := by decide +kernel
theorem dX1_follow_27 : decode cX1_follow 27 = .ok (.aload_n 0, 1) := by decide +kernel
theorem dX1_follow_28 : decode cX1_follow 28 = .ok (.getfield 9, 3) := by decide +kernel
theorem dX1_follow_31 : decode cX1_follow 31 = .ok (.arraylength, 1) := by decide +kernel
theorem dX1_follow_32 : decode cX1_follow 32 = .ok (.if_icmp .ge 23, 3) := by decide +kernel
theorem dX1_follow_35 : decode cX1_follow 35 = .ok (.aload_n 0, 1) := by decide +kernel
theorem dX1_follow_36 : decode cX1_follow 36 = .ok (.getfield 9, 3) := by decide +kernel
theorem dX1_follow_39 : decode cX1_follow 39 = .ok (.aload_n 0, 1) := by decide +kernel
theorem dX1_follow_40 : decode cX1_follow 40 = .ok (.getfield 25, 3) := by decide +kernel
theorem dX1_follow_43 : decode cX1_follow 43 = .ok (.lload_n 1, 1) := by decide +kernel
theorem dX1_follow_44 : decode cX1_follow 44 = .ok (.lastore, 1) := by decide +kernel
theorem dX1_follow_45 : decode cX1_follow 45 = .ok (.aload_n 0, 1) := by decide +kernel
theorem dX1_follow_46 : decode cX1_follow 46 = .ok (.dup, 1) := by decide +kernel
theorem dX1_follow_47 : decode cX1_follow 47 = .ok (.getfield 25, 3) := by decide +kernel
theorem dX1_follow_50 : decode cX1_follow 50 = .ok (.iconst 1, 1) := by decide +kernel
theorem dX1_follow_51 : decode cX1_follow 51 = .ok (.iadd, 1) := by decide +kernel
theorem dX1_follow_52 : decode cX1_follow 52 = .ok (.putfield 25, 3) := by decide +kernel
theorem dX1_follow_55 : decode cX1_follow 55 = .ok (.aload_n 0, 1) := by decide +kernel
theorem dX1_follow_56 : decode cX1_follow 56 = .ok (.invokevirtual 29, 3) := by decide +kernel
theorem dX1_follow_59 : decode cX1_follow 59 = .ok (.return_, 1) := by decide +kernel
theorem dX1_goesOn_0 : decode cX1_goesOn 0 = .ok (.aload_n 0, 1) := by decide +kernel
theorem dX1_goesOn_1 : decode cX1_goesOn 1 = .ok (.getfield 25, 3) := by decide +kernel
theorem dX1_goesOn_4 : decode cX1_goesOn 4 = .ok (.iconst 1, 1) := by decide +kernel
theorem dX1_goesOn_5 : decode cX1_goesOn 5 = .ok (.if_icmp .ge 5, 3) := by decide +kernel
theorem dX1_goesOn_8 : decode cX1_goesOn 8 = .ok (.iconst 0, 1) := by decide +kernel
theorem dX1_goesOn_9 : decode cX1_goesOn 9 = .ok (.ireturn, 1) := by decide +kernel
theorem dX1_goesOn_10 : decode cX1_goesOn 10 = .ok (.aload_n 0, 1) := by decide +kernel
theorem dX1_goesOn_11 : decode cX1_goesOn 11 = .ok (.getfield 9, 3) := by decide +kernel
theorem dX1_goesOn_14 : decode cX1_goesOn 14 = .ok (.aload_n 0, 1) := by decide +kernel
theorem dX1_goesOn_15 : decode cX1_goesOn 15 = .ok (.getfield 25, 3) := by decide +kernel
theorem dX1_goesOn_18 : decode cX1_goesOn 18 = .ok (.iconst 1, 1) := by decide +kernel
theorem dX1_goesOn_19 : decode cX1_goesOn 19 = .ok (.isub, 1) := by decide +kernel
theorem dX1_goesOn_20 : decode cX1_goesOn 20 = .ok (.laload, 1) := by decide +kernel
theorem dX1_goesOn_21 : decode cX1_goesOn 21 = .ok (.lstore_n 3, 1) := by decide +kernel
theorem dX1_goesOn_22 : decode cX1_goesOn 22 = .ok (.lload_n 1, 1) := by decide +kernel
theorem dX1_goesOn_23 : decode cX1_goesOn 23 = .ok (.lload_n 3, 1) := by decide +kernel
theorem dX1_goesOn_24 : decode cX1_goesOn 24 = .ok (.lcmp, 1) := by decide +kernel
theorem dX1_goesOn_25 : decode cX1_goesOn 25 = .ok (.ifCond .ne 5, 3) := by decide +kernel
theorem dX1_goesOn_28 : decode cX1_goesOn 28 = .ok (.iconst 1, 1) := by decide +kernel
theorem dX1_goesOn_29 : decode cX1_goesOn 29 = .ok (.ireturn, 1) := by decide +kernel
theorem dX1_goesOn_30 : decode cX1_goesOn 30 = .ok (.aload_n 0, 1) := by decide +kernel
theorem dX1_goesOn_31 : decode cX1_goesOn 31 = .ok (.getfield 25, 3) := by decide +kernel
theorem dX1_goesOn_34 : decode cX1_goesOn 34 = .ok (.iconst 1, 1) := by decide +kernel
theorem dX1_goesOn_35 : decode cX1_goesOn 35 = .ok (.if_icmp .le 42, 3) := by decide +kernel
theorem dX1_goesOn_38 : decode cX1_goesOn 38 = .ok (.lload_n 1, 1) := by decide +kernel
theorem dX1_goesOn_39 : decode cX1_goesOn 39 = .ok (.lload_n 3, 1) := by decide +kernel
theorem dX1_goesOn_40 : decode cX1_goesOn 40 = .ok (.lcmp, 1) := by decide +kernel
theorem dX1_goesOn_41 : decode cX1_goesOn 41 = .ok (.ifCond .le 7, 3) := by decide +kernel
theorem dX1_goesOn_44 : decode cX1_goesOn 44 = .ok (.iconst 1, 1) := by decide +kernel
theorem dX1_goesOn_45 : decode cX1_goesOn 45 = .ok (.goto 4, 3) := by decide +kernel
theorem dX1_goesOn_48 : decode cX1_goesOn 48 = .ok (.iconst 0, 1) := by decide +kernel
theorem dX1_goesOn_49 : decode cX1_goesOn 49 = .ok (.lload_n 3, 1) := by decide +kernel
theorem dX1_goesOn_50 : decode cX1_goesOn 50 = .ok (.aload_n 0, 1) := by decide +kernel
theorem dX1_goesOn_51 : decode cX1_goesOn 51 = .ok (.getfield 9, 3) := by decide +kernel
theorem dX1_goesOn_54 : decode cX1_goesOn 54 = .ok (.aload_n 0, 1) := by decide +kernel
theorem dX1_goesOn_55 : decode cX1_goesOn 55 = .ok (.getfield 25, 3) := by decide +kernel
theorem dX1_goesOn_58 : decode cX1_goesOn 58 = .ok (.iconst 2, 1) := by decide +kernel
theorem dX1_goesOn_59 : decode cX1_goesOn 59 = .ok (.isub, 1) := by decide +kernel
theorem dX1_goesOn_60 : decode cX1_goesOn 60 = .ok (.laload, 1) := by decide +kernel
theorem dX1_goesOn_61 : decode cX1_goesOn 61 = .ok (.lcmp, 1) := by decide +kernel
theorem dX1_goesOn_62 : decode cX1_goesOn 62 = .ok (.ifCond .le 7, 3) := by decide +kernel
theorem dX1_goesOn_65 : decode cX1_goesOn 65 = .ok (.iconst 1, 1) := by decide +kernel
theorem dX1_goesOn_66 : decode cX1_goesOn 66 = .ok (.goto 4, 3) := by decide +kernel
theorem dX1_goesOn_69 : decode cX1_goesOn 69 = .ok (.iconst 0, 1) := by decide +kernel
theorem dX1_goesOn_70 : decode cX1_goesOn 70 = .ok (.if_icmp .ne 7, 3) := by decide +kernel
theorem dX1_goesOn_73 : decode cX1_goesOn 73 = .ok (.iconst 1, 1) := by decide +kernel
theorem dX1_goesOn_74 : decode cX1_goesOn 74 = .ok (.goto 4, 3) := by decide +kernel
theorem dX1_goesOn_77 : decode cX1_goesOn 77 = .ok (.iconst 0, 1) := by decide +kernel
theorem dX1_goesOn_78 : decode cX1_goesOn 78 = .ok (.ireturn, 1) := by decide +kernel
set_option maxRecDepth 20000 in
theorem ggX1_takeCyclesOut_X1_keepCycle : GoodIn wsX1_takeCyclesOut wsX1_keepCycle := goodIn_r _ [14, 15, 16, 17, 18, 19, 20, 21, 22] (by decide +kernel) (by decide +kernel)
set_option maxRecDepth 20000 in
theorem gX1_takeCyclesOut_X1_keepCycle : GoodIn wsX1_takeCyclesOut (wsV RX1 42 RX1 yX1_keepCycle wsX1_keepCycle) := goodIn_app (goodIn_of _ (by decide +kernel)) ggX1_takeCyclesOut_X1_keepCycle
theorem dX1_takeCyclesOut_0 : decode cX1_takeCyclesOut 0 = .ok (.aload_n 0, 1) := by decide +kernel
theorem dX1_takeCyclesOut_1 : decode cX1_takeCyclesOut 1 = .ok (.getfield 25, 3) := by decide +kernel
theorem dX1_takeCyclesOut_4 : decode cX1_takeCyclesOut 4 = .ok (.iconst 4, 1) := by decide +kernel
theorem dX1_takeCyclesOut_5 : decode cX1_takeCyclesOut 5 = .ok (.if_icmp .lt 127, 3) := by decide +kernel
theorem dX1_takeCyclesOut_8 : decode cX1_takeCyclesOut 8 = .ok (.aload_n 0, 1) := by decide +kernel
theorem dX1_takeCyclesOut_9 : decode cX1_takeCyclesOut 9 = .ok (.getfield 9, 3) := by decide +kernel
theorem dX1_takeCyclesOut_12 : decode cX1_takeCyclesOut 12 = .ok (.aload_n 0, 1) := by decide +kernel
theorem dX1_takeCyclesOut_13 : decode cX1_takeCyclesOut 13 = .ok (.getfield 25, 3) := by decide +kernel
theorem dX1_takeCyclesOut_16 : decode cX1_takeCyclesOut 16 = .ok (.iconst 4, 1) := by decide +kernel
theorem dX1_takeCyclesOut_17 : decode cX1_takeCyclesOut 17 = .ok (.isub, 1) := by decide +kernel
theorem dX1_takeCyclesOut_18 : decode cX1_takeCyclesOut 18 = .ok (.laload, 1) := by decide +kernel
theorem dX1_takeCyclesOut_19 : decode cX1_takeCyclesOut 19 = .ok (.lstore_n 1, 1) := by decide +kernel
theorem dX1_takeCyclesOut_20 : decode cX1_takeCyclesOut 20 = .ok (.aload_n 0, 1) := by decide +kernel
theorem dX1_takeCyclesOut_21 : decode cX1_takeCyclesOut 21 = .ok (.getfield 9, 3) := by decide +kernel
theorem dX1_takeCyclesOut_24 : decode cX1_takeCyclesOut 24 = .ok (.aload_n 0, 1) := by decide +kernel
theorem dX1_takeCyclesOut_25 : decode cX1_takeCyclesOut 25 = .ok (.getfield 25, 3) := by decide +kernel
theorem dX1_takeCyclesOut_28 : decode cX1_takeCyclesOut 28 = .ok (.iconst 3, 1) := by decide +kernel
theorem dX1_takeCyclesOut_29 : decode cX1_takeCyclesOut 29 = .ok (.isub, 1) := by decide +kernel
theorem dX1_takeCyclesOut_30 : decode cX1_takeCyclesOut 30 = .ok (.laload, 1) := by decide +kernel
theorem dX1_takeCyclesOut_31 : decode cX1_takeCyclesOut 31 = .ok (.lstore_n 3, 1) := by decide +kernel
theorem dX1_takeCyclesOut_32 : decode cX1_takeCyclesOut 32 = .ok (.aload_n 0, 1) := by decide +kernel
theorem dX1_takeCyclesOut_33 : decode cX1_takeCyclesOut 33 = .ok (.getfield 9, 3) := by decide +kernel
theorem dX1_takeCyclesOut_36 : decode cX1_takeCyclesOut 36 = .ok (.aload_n 0, 1) := by decide +kernel
theorem dX1_takeCyclesOut_37 : decode cX1_takeCyclesOut 37 = .ok (.getfield 25, 3) := by decide +kernel
theorem dX1_takeCyclesOut_40 : decode cX1_takeCyclesOut 40 = .ok (.iconst 2, 1) := by decide +kernel
theorem dX1_takeCyclesOut_41 : decode cX1_takeCyclesOut 41 = .ok (.isub, 1) := by decide +kernel
theorem dX1_takeCyclesOut_42 : decode cX1_takeCyclesOut 42 = .ok (.laload, 1) := by decide +kernel
theorem dX1_takeCyclesOut_43 : decode cX1_takeCyclesOut 43 = .ok (.lstore 5, 2) := by decide +kernel
theorem dX1_takeCyclesOut_45 : decode cX1_takeCyclesOut 45 = .ok (.aload_n 0, 1) := by decide +kernel
theorem dX1_takeCyclesOut_46 : decode cX1_takeCyclesOut 46 = .ok (.getfield 9, 3) := by decide +kernel
theorem dX1_takeCyclesOut_49 : decode cX1_takeCyclesOut 49 = .ok (.aload_n 0, 1) := by decide +kernel
theorem dX1_takeCyclesOut_50 : decode cX1_takeCyclesOut 50 = .ok (.getfield 25, 3) := by decide +kernel
theorem dX1_takeCyclesOut_53 : decode cX1_takeCyclesOut 53 = .ok (.iconst 1, 1) := by decide +kernel
theorem dX1_takeCyclesOut_54 : decode cX1_takeCyclesOut 54 = .ok (.isub, 1) := by decide +kernel
theorem dX1_takeCyclesOut_55 : decode cX1_takeCyclesOut 55 = .ok (.laload, 1) := by decide +kernel
theorem dX1_takeCyclesOut_56 : decode cX1_takeCyclesOut 56 = .ok (.lstore 7, 2) := by decide +kernel
theorem dX1_takeCyclesOut_58 : decode cX1_takeCyclesOut 58 = .ok (.lload_n 3, 1) := by decide +kernel
theorem dX1_takeCyclesOut_59 : decode cX1_takeCyclesOut 59 = .ok (.lload 5, 2) := by decide +kernel
theorem dX1_takeCyclesOut_61 : decode cX1_takeCyclesOut 61 = .ok (.lsub, 1) := by decide +kernel
theorem dX1_takeCyclesOut_62 : decode cX1_takeCyclesOut 62 = .ok (.invokestatic 32, 3) := by decide +kernel
theorem dX1_takeCyclesOut_65 : decode cX1_takeCyclesOut 65 = .ok (.lstore 9, 2) := by decide +kernel
theorem dX1_takeCyclesOut_67 : decode cX1_takeCyclesOut 67 = .ok (.lload 9, 2) := by decide +kernel
theorem dX1_takeCyclesOut_69 : decode cX1_takeCyclesOut 69 = .ok (.lload_n 1, 1) := by decide +kernel
theorem dX1_takeCyclesOut_70 : decode cX1_takeCyclesOut 70 = .ok (.lload_n 3, 1) := by decide +kernel
theorem dX1_takeCyclesOut_71 : decode cX1_takeCyclesOut 71 = .ok (.lsub, 1) := by decide +kernel
theorem dX1_takeCyclesOut_72 : decode cX1_takeCyclesOut 72 = .ok (.invokestatic 32, 3) := by decide +kernel
theorem dX1_takeCyclesOut_75 : decode cX1_takeCyclesOut 75 = .ok (.lcmp, 1) := by decide +kernel
theorem dX1_takeCyclesOut_76 : decode cX1_takeCyclesOut 76 = .ok (.ifCond .gt 17, 3) := by decide +kernel
theorem dX1_takeCyclesOut_79 : decode cX1_takeCyclesOut 79 = .ok (.lload 9, 2) := by decide +kernel
theorem dX1_takeCyclesOut_81 : decode cX1_takeCyclesOut 81 = .ok (.lload 5, 2) := by decide +kernel
theorem dX1_takeCyclesOut_83 : decode cX1_takeCyclesOut 83 = .ok (.lload 7, 2) := by decide +kernel
theorem dX1_takeCyclesOut_85 : decode cX1_takeCyclesOut 85 = .ok (.lsub, 1) := by decide +kernel
theorem dX1_takeCyclesOut_86 : decode cX1_takeCyclesOut 86 = .ok (.invokestatic 32, 3) := by decide +kernel
theorem dX1_takeCyclesOut_89 : decode cX1_takeCyclesOut 89 = .ok (.lcmp, 1) := by decide +kernel
theorem dX1_takeCyclesOut_90 : decode cX1_takeCyclesOut 90 = .ok (.ifCond .le 4, 3) := by decide +kernel
theorem dX1_takeCyclesOut_93 : decode cX1_takeCyclesOut 93 = .ok (.return_, 1) := by decide +kernel
theorem dX1_takeCyclesOut_94 : decode cX1_takeCyclesOut 94 = .ok (.aload_n 0, 1) := by decide +kernel
theorem dX1_takeCyclesOut_95 : decode cX1_takeCyclesOut 95 = .ok (.lload 9, 2) := by decide +kernel
theorem dX1_takeCyclesOut_97 : decode cX1_takeCyclesOut 97 = .ok (.lload_n 3, 1) := by decide +kernel
theorem dX1_takeCyclesOut_98 : decode cX1_takeCyclesOut 98 = .ok (.lload 5, 2) := by decide +kernel
theorem dX1_takeCyclesOut_100 : decode cX1_takeCyclesOut 100 = .ok (.invokestatic 38, 3) := by decide +kernel
theorem dX1_takeCyclesOut_103 : decode cX1_takeCyclesOut 103 = .ok (.invokevirtual 42, 3) := by decide +kernel
theorem dX1_takeCyclesOut_106 : decode cX1_takeCyclesOut 106 = .ok (.aload_n 0, 1) := by decide +kernel
theorem dX1_takeCyclesOut_107 : decode cX1_takeCyclesOut 107 = .ok (.getfield 9, 3) := by decide +kernel
theorem dX1_takeCyclesOut_110 : decode cX1_takeCyclesOut 110 = .ok (.aload_n 0, 1) := by decide +kernel
theorem dX1_takeCyclesOut_111 : decode cX1_takeCyclesOut 111 = .ok (.getfield 25, 3) := by decide +kernel
theorem dX1_takeCyclesOut_114 : decode cX1_takeCyclesOut 114 = .ok (.iconst 3, 1) := by decide +kernel
theorem dX1_takeCyclesOut_115 : decode cX1_takeCyclesOut 115 = .ok (.isub, 1) := by decide +kernel
theorem dX1_takeCyclesOut_116 : decode cX1_takeCyclesOut 116 = .ok (.lload 7, 2) := by decide +kernel
theorem dX1_takeCyclesOut_118 : decode cX1_takeCyclesOut 118 = .ok (.lastore, 1) := by decide +kernel
theorem dX1_takeCyclesOut_119 : decode cX1_takeCyclesOut 119 = .ok (.aload_n 0, 1) := by decide +kernel
theorem dX1_takeCyclesOut_120 : decode cX1_takeCyclesOut 120 = .ok (.dup, 1) := by decide +kernel
theorem dX1_takeCyclesOut_121 : decode cX1_takeCyclesOut 121 = .ok (.getfield 25, 3) := by decide +kernel
theorem dX1_takeCyclesOut_124 : decode cX1_takeCyclesOut 124 = .ok (.iconst 2, 1) := by decide +kernel
theorem dX1_takeCyclesOut_125 : decode cX1_takeCyclesOut 125 = .ok (.isub, 1) := by decide +kernel
theorem dX1_takeCyclesOut_126 : decode cX1_takeCyclesOut 126 = .ok (.putfield 25, 3) := by decide +kernel
theorem dX1_takeCyclesOut_129 : decode cX1_takeCyclesOut 129 = .ok (.goto (-129), 3) := by decide +kernel
theorem dX1_takeCyclesOut_132 : decode cX1_takeCyclesOut 132 = .ok (.return_, 1) := by decide +kernel
theorem dX1_keepCycle_0 : decode cX1_keepCycle 0 = .ok (.aload_n 0, 1) := by decide +kernel
theorem dX1_keepCycle_1 : decode cX1_keepCycle 1 = .ok (.getfield 46, 3) := by decide +kernel
theorem dX1_keepCycle_4 : decode cX1_keepCycle 4 = .ok (.aload_n 0, 1) := by decide +kernel
theorem dX1_keepCycle_5 : decode cX1_keepCycle 5 = .ok (.getfield 15, 3) := by decide +kernel
theorem dX1_keepCycle_8 : decode cX1_keepCycle 8 = .ok (.arraylength, 1) := by decide +kernel
theorem dX1_keepCycle_9 : decode cX1_keepCycle 9 = .ok (.if_icmp .ge 33, 3) := by decide +kernel
theorem dX1_keepCycle_12 : decode cX1_keepCycle 12 = .ok (.aload_n 0, 1) := by decide +kernel
theorem dX1_keepCycle_13 : decode cX1_keepCycle 13 = .ok (.getfield 15, 3) := by decide +kernel
theorem dX1_keepCycle_16 : decode cX1_keepCycle 16 = .ok (.aload_n 0, 1) := by decide +kernel
theorem dX1_keepCycle_17 : decode cX1_keepCycle 17 = .ok (.getfield 46, 3) := by decide +kernel
theorem dX1_keepCycle_20 : decode cX1_keepCycle 20 = .ok (.lload_n 1, 1) := by decide +kernel
theorem dX1_keepCycle_21 : decode cX1_keepCycle 21 = .ok (.lastore, 1) := by decide +kernel
theorem dX1_keepCycle_22 : decode cX1_keepCycle 22 = .ok (.aload_n 0, 1) := by decide +kernel
theorem dX1_keepCycle_23 : decode cX1_keepCycle 23 = .ok (.getfield 18, 3) := by decide +kernel
theorem dX1_keepCycle_26 : decode cX1_keepCycle 26 = .ok (.aload_n 0, 1) := by decide +kernel
theorem dX1_keepCycle_27 : decode cX1_keepCycle 27 = .ok (.getfield 46, 3) := by decide +kernel
theorem dX1_keepCycle_30 : decode cX1_keepCycle 30 = .ok (.lload_n 3, 1) := by decide +kernel
theorem dX1_keepCycle_31 : decode cX1_keepCycle 31 = .ok (.lastore, 1) := by decide +kernel
theorem dX1_keepCycle_32 : decode cX1_keepCycle 32 = .ok (.aload_n 0, 1) := by decide +kernel
theorem dX1_keepCycle_33 : decode cX1_keepCycle 33 = .ok (.dup, 1) := by decide +kernel
theorem dX1_keepCycle_34 : decode cX1_keepCycle 34 = .ok (.getfield 46, 3) := by decide +kernel
theorem dX1_keepCycle_37 : decode cX1_keepCycle 37 = .ok (.iconst 1, 1) := by decide +kernel
theorem dX1_keepCycle_38 : decode cX1_keepCycle 38 = .ok (.iadd, 1) := by decide +kernel
theorem dX1_keepCycle_39 : decode cX1_keepCycle 39 = .ok (.putfield 46, 3) := by decide +kernel
theorem dX1_keepCycle_42 : decode cX1_keepCycle 42 = .ok (.return_, 1) := by decide +kernel
set_option maxRecDepth 20000 in
theorem ggX2_init_X0_init : GoodIn wsX2_init wsX0_init := goodIn_r _ [26, 27, 2, 3, 28, 29, 30, 31, 32, 33, 34, 35, 75, 76, 77, 78, 79, 80] (by decide +kernel) (by decide +kernel)
set_option maxRecDepth 20000 in
theorem gX2_init_X0_init_n15 : GoodIn wsX2_init (wsX0_init) := ggX2_init_X0_init
set_option maxRecDepth 20000 in
theorem ggX2_init_X1_init : GoodIn wsX2_init wsX1_init := goodIn_r _ [37, 38, 2, 3, 39, 40, 41, 42, 81, 82, 83, 84, 85] (by decide +kernel) (by decide +kernel)
set_option maxRecDepth 20000 in
theorem gX2_init_X1_init_n38 : GoodIn wsX2_init (wsX1_init) := ggX2_init_X1_init
set_option maxRecDepth 20000 in
theorem ggX2_init_X1_follow : GoodIn wsX2_init wsX1_follow := goodIn_r _ [45, 40, 46, 47, 48, 49, 22, 50, 51, 52, 53, 54, 55, 56, 57, 58, 59, 60, 61, 62, 63, 64, 65, 66, 41, 42, 81, 82, 83, 84, 85] (by decide +kernel) (by decide +kernel)
set_option maxRecDepth 20000 in
theorem gX2_init_X1_follow_n45 : GoodIn wsX2_init (wsX1_follow) := ggX2_init_X1_follow
theorem dX2_init_0 : decode cX2_init 0 = .ok (.aload_n 0, 1) := by decide +kernel
theorem dX2_init_1 : decode cX2_init 1 = .ok (.invokespecial 1, 3) := by decide +kernel
theorem dX2_init_4 : decode cX2_init 4 = .ok (.iload_n 1, 1) := by decide +kernel
theorem dX2_init_5 : decode cX2_init 5 = .ok (.iconst 1, 1) := by decide +kernel
theorem dX2_init_6 : decode cX2_init 6 = .ok (.if_icmp .lt 9, 3) := by decide +kernel
theorem dX2_init_9 : decode cX2_init 9 = .ok (.iload_n 1, 1) := by decide +kernel
theorem dX2_init_10 : decode cX2_init 10 = .ok (.bipush 24, 2) := by decide +kernel
theorem dX2_init_12 : decode cX2_init 12 = .ok (.if_icmp .le 8, 3) := by decide +kernel
theorem dX2_init_15 : decode cX2_init 15 = .ok (.bipush 8, 2) := by decide +kernel
theorem dX2_init_17 : decode cX2_init 17 = .ok (.goto 4, 3) := by decide +kernel
theorem dX2_init_20 : decode cX2_init 20 = .ok (.iload_n 1, 1) := by decide +kernel
theorem dX2_init_21 : decode cX2_init 21 = .ok (.istore_n 2, 1) := by decide +kernel
theorem dX2_init_22 : decode cX2_init 22 = .ok (.aload_n 0, 1) := by decide +kernel
theorem dX2_init_23 : decode cX2_init 23 = .ok (.iload_n 2, 1) := by decide +kernel
theorem dX2_init_24 : decode cX2_init 24 = .ok (.anewarray 9, 3) := by decide +kernel
theorem dX2_init_27 : decode cX2_init 27 = .ok (.putfield 11, 3) := by decide +kernel
theorem dX2_init_30 : decode cX2_init 30 = .ok (.iconst 0, 1) := by decide +kernel
theorem dX2_init_31 : decode cX2_init 31 = .ok (.istore_n 3, 1) := by decide +kernel
theorem dX2_init_32 : decode cX2_init 32 = .ok (.iload_n 3, 1) := by decide +kernel
theorem dX2_init_33 : decode cX2_init 33 = .ok (.iload_n 2, 1) := by decide +kernel
theorem dX2_init_34 : decode cX2_init 34 = .ok (.if_icmp .ge 22, 3) := by decide +kernel
theorem dX2_init_37 : decode cX2_init 37 = .ok (.aload_n 0, 1) := by decide +kernel
theorem dX2_init_38 : decode cX2_init 38 = .ok (.getfield 11, 3) := by decide +kernel
theorem dX2_init_41 : decode cX2_init 41 = .ok (.iload_n 3, 1) := by decide +kernel
theorem dX2_init_42 : decode cX2_init 42 = .ok (.new 9, 3) := by decide +kernel
theorem dX2_init_45 : decode cX2_init 45 = .ok (.dup, 1) := by decide +kernel
theorem dX2_init_46 : decode cX2_init 46 = .ok (.invokespecial 15, 3) := by decide +kernel
theorem dX2_init_49 : decode cX2_init 49 = .ok (.aastore, 1) := by decide +kernel
theorem dX2_init_50 : decode cX2_init 50 = .ok (.iinc 3 1, 3) := by decide +kernel
theorem dX2_init_53 : decode cX2_init 53 = .ok (.goto (-21), 3) := by decide +kernel
theorem dX2_init_56 : decode cX2_init 56 = .ok (.aload_n 0, 1) := by decide +kernel
theorem dX2_init_57 : decode cX2_init 57 = .ok (.getstatic 16, 3) := by decide +kernel
theorem dX2_init_60 : decode cX2_init 60 = .ok (.invokevirtual 20, 3) := by decide +kernel
theorem dX2_init_63 : decode cX2_init 63 = .ok (.checkcast 21, 3) := by decide +kernel
theorem dX2_init_66 : decode cX2_init 66 = .ok (.putfield 25, 3) := by decide +kernel
theorem dX2_init_69 : decode cX2_init 69 = .ok (.aload_n 0, 1) := by decide +kernel
theorem dX2_init_70 : decode cX2_init 70 = .ok (.iconst 3, 1) := by decide +kernel
theorem dX2_init_71 : decode cX2_init 71 = .ok (.newarray .boolean, 2) := by decide +kernel
theorem dX2_init_73 : decode cX2_init 73 = .ok (.putfield 28, 3) := by decide +kernel
theorem dX2_init_76 : decode cX2_init 76 = .ok (.aload_n 0, 1) := by decide +kernel
theorem dX2_init_77 : decode cX2_init 77 = .ok (.sipush 1024, 3) := by decide +kernel
theorem dX2_init_80 : decode cX2_init 80 = .ok (.newarray .int, 2) := by decide +kernel
theorem dX2_init_82 : decode cX2_init 82 = .ok (.putfield 32, 3) := by decide +kernel
theorem dX2_init_85 : decode cX2_init 85 = .ok (.aload_n 0, 1) := by decide +kernel
theorem dX2_init_86 : decode cX2_init 86 = .ok (.new 36, 3) := by decide +kernel
theorem dX2_init_89 : decode cX2_init 89 = .ok (.dup, 1) := by decide +kernel
theorem dX2_init_90 : decode cX2_init 90 = .ok (.invokespecial 38, 3) := by decide +kernel
theorem dX2_init_93 : decode cX2_init 93 = .ok (.putfield 39, 3) := by decide +kernel
theorem dX2_init_96 : decode cX2_init 96 = .ok (.aload_n 0, 1) := by decide +kernel
theorem dX2_init_97 : decode cX2_init 97 = .ok (.getfield 39, 3) := by decide +kernel
theorem dX2_init_100 : decode cX2_init 100 = .ok (.ldc2_w 43, 3) := by decide +kernel
theorem dX2_init_103 : decode cX2_init 103 = .ok (.invokevirtual 45, 3) := by decide +kernel
theorem dX2_init_106 : decode cX2_init 106 = .ok (.return_, 1) := by decide +kernel
set_option maxRecDepth 20000 in
theorem ggX2_step_X2_isOutside : GoodIn wsX2_step wsX2_isOutside := goodIn_r _ [15] (by decide +kernel) (by decide +kernel)
set_option maxRecDepth 20000 in
theorem gX2_step_X2_isOutside : GoodIn wsX2_step (va_wsS RX2 53 yX2_isOutside wsX2_isOutside) := goodIn_app (goodIn_of _ (by decide +kernel)) ggX2_step_X2_isOutside
set_option maxRecDepth 20000 in
theorem ggX2_step_X2_cellOf : GoodIn wsX2_step wsX2_cellOf := goodIn_r _ [19, 20, 87, 88, 89, 90, 91, 92, 93, 94] (by decide +kernel) (by decide +kernel)
set_option maxRecDepth 20000 in
theorem gX2_step_X2_cellOf : GoodIn wsX2_step (wsV RX2 63 RX2 yX2_cellOf wsX2_cellOf) := goodIn_app (goodIn_of _ (by decide +kernel)) ggX2_step_X2_cellOf
set_option maxRecDepth 20000 in
theorem ggX2_step_X0_take : GoodIn wsX2_step wsX0_take := goodIn_r _ [24, 25, 26, 27, 28, 29, 30, 31, 32, 33, 34, 35, 22, 36, 95, 96, 97, 98, 99, 100] (by decide +kernel) (by decide +kernel)
set_option maxRecDepth 20000 in
theorem gX2_step_X0_take_n74 : GoodIn wsX2_step (wsX0_take) := ggX2_step_X0_take
set_option maxRecDepth 20000 in
theorem ggX2_step_X1_follow : GoodIn wsX2_step wsX1_follow := goodIn_r _ [40, 41, 42, 43, 44, 45, 38, 46, 47, 48, 49, 50, 51, 52, 53, 54, 55, 56, 57, 58, 59, 60, 61, 62, 63, 64, 101, 102, 103, 104, 105] (by decide +kernel) (by decide +kernel)
set_option maxRecDepth 20000 in
theorem gX2_step_X1_follow_n45 : GoodIn wsX2_step (wsX1_follow) := ggX2_step_X1_follow
set_option maxRecDepth 20000 in
theorem ggX2_step_X2_isBeyond : GoodIn wsX2_step wsX2_isBeyond := goodIn_r _ [68, 9, 69, 52, 53, 54, 12, 13, 14, 15, 95, 96, 97, 98, 99, 100, 87, 88, 89, 90, 91, 92, 93, 94] (by decide +kernel) (by decide +kernel)
set_option maxRecDepth 20000 in
theorem gX2_step_X2_isBeyond : GoodIn wsX2_step (wsV RX2 86 RX2 yX2_isBeyond wsX2_isBeyond) := goodIn_app (goodIn_of _ (by decide +kernel)) ggX2_step_X2_isBeyond
set_option maxRecDepth 20000 in
theorem ggX2_step_X2_noteFaultsOfStep : GoodIn wsX2_step wsX2_noteFaultsOfStep := goodIn_r _ [73, 9, 12, 13, 14, 15, 74, 75, 76, 77, 78, 79, 80, 95, 96, 97, 98, 99, 100, 87, 88, 89, 90, 91, 92, 93, 94] (by decide +kernel) (by decide +kernel)
set_option maxRecDepth 20000 in
theorem gX2_step_X2_noteFaultsOfStep : GoodIn wsX2_step (wsV RX2 93 RX2 yX2_noteFaultsOfStep wsX2_noteFaultsOfStep) := goodIn_app (goodIn_of _ (by decide +kernel)) ggX2_step_X2_noteFaultsOfStep
theorem dX2_step_0 : decode cX2_step 0 = .ok (.lload_n 2, 1) := by decide +kernel
theorem dX2_step_1 : decode cX2_step 1 = .ok (.ldc2_w 49, 3) := by decide +kernel
theorem dX2_step_4 : decode cX2_step 4 = .ok (.ldc2_w 51, 3) := by decide +kernel
theorem dX2_step_7 : decode cX2_step 7 = .ok (.invokestatic 53, 3) := by decide +kernel
theorem dX2_step_10 : decode cX2_step 10 = .ok (.ifCond .ne 29, 3) := by decide +kernel
theorem dX2_step_13 : decode cX2_step 13 = .ok (.lload 4, 2) := by decide +kernel
theorem dX2_step_15 : decode cX2_step 15 = .ok (.lconst 0, 1) := by decide +kernel
theorem dX2_step_16 : decode cX2_step 16 = .ok (.ldc2_w 57, 3) := by decide +kernel
theorem dX2_step_19 : decode cX2_step 19 = .ok (.invokestatic 53, 3) := by decide +kernel
theorem dX2_step_22 : decode cX2_step 22 = .ok (.ifCond .ne 17, 3) := by decide +kernel
theorem dX2_step_25 : decode cX2_step 25 = .ok (.lload 6, 2) := by decide +kernel
theorem dX2_step_27 : decode cX2_step 27 = .ok (.ldc2_w 59, 3) := by decide +kernel
theorem dX2_step_30 : decode cX2_step 30 = .ok (.ldc2_w 61, 3) := by decide +kernel
theorem dX2_step_33 : decode cX2_step 33 = .ok (.invokestatic 53, 3) := by decide +kernel
theorem dX2_step_36 : decode cX2_step 36 = .ok (.ifCond .eq 6, 3) := by decide +kernel
theorem dX2_step_39 : decode cX2_step 39 = .ok (.bipush (-2), 2) := by decide +kernel
theorem dX2_step_41 : decode cX2_step 41 = .ok (.ireturn, 1) := by decide +kernel
theorem dX2_step_42 : decode cX2_step 42 = .ok (.aload_n 0, 1) := by decide +kernel
theorem dX2_step_43 : decode cX2_step 43 = .ok (.iload_n 1, 1) := by decide +kernel
theorem dX2_step_44 : decode cX2_step 44 = .ok (.invokevirtual 63, 3) := by decide +kernel
theorem dX2_step_47 : decode cX2_step 47 = .ok (.astore 8, 2) := by decide +kernel
theorem dX2_step_49 : decode cX2_step 49 = .ok (.aload 8, 2) := by decide +kernel
theorem dX2_step_51 : decode cX2_step 51 = .ok (.ifnonnull 13, 3) := by decide +kernel
theorem dX2_step_54 : decode cX2_step 54 = .ok (.new 67, 3) := by decide +kernel
theorem dX2_step_57 : decode cX2_step 57 = .ok (.dup, 1) := by decide +kernel
theorem dX2_step_58 : decode cX2_step 58 = .ok (.ldc 69, 2) := by decide +kernel
theorem dX2_step_60 : decode cX2_step 60 = .ok (.invokespecial 71, 3) := by decide +kernel
theorem dX2_step_63 : decode cX2_step 63 = .ok (.athrow, 1) := by decide +kernel
theorem dX2_step_64 : decode cX2_step 64 = .ok (.aload 8, 2) := by decide +kernel
theorem dX2_step_66 : decode cX2_step 66 = .ok (.lload_n 2, 1) := by decide +kernel
theorem dX2_step_67 : decode cX2_step 67 = .ok (.lload 4, 2) := by decide +kernel
theorem dX2_step_69 : decode cX2_step 69 = .ok (.lload 6, 2) := by decide +kernel
theorem dX2_step_71 : decode cX2_step 71 = .ok (.aload_n 0, 1) := by decide +kernel
theorem dX2_step_72 : decode cX2_step 72 = .ok (.getfield 25, 3) := by decide +kernel
theorem dX2_step_75 : decode cX2_step 75 = .ok (.iconst 5, 1) := by decide +kernel
theorem dX2_step_76 : decode cX2_step 76 = .ok (.laload, 1) := by decide +kernel
theorem dX2_step_77 : decode cX2_step 77 = .ok (.invokevirtual 74, 3) := by decide +kernel
theorem dX2_step_80 : decode cX2_step 80 = .ok (.aload_n 0, 1) := by decide +kernel
theorem dX2_step_81 : decode cX2_step 81 = .ok (.dup, 1) := by decide +kernel
theorem dX2_step_82 : decode cX2_step 82 = .ok (.getfield 78, 3) := by decide +kernel
theorem dX2_step_85 : decode cX2_step 85 = .ok (.iconst 1, 1) := by decide +kernel
theorem dX2_step_86 : decode cX2_step 86 = .ok (.iadd, 1) := by decide +kernel
theorem dX2_step_87 : decode cX2_step 87 = .ok (.putfield 78, 3) := by decide +kernel
theorem dX2_step_90 : decode cX2_step 90 = .ok (.iload_n 1, 1) := by decide +kernel
theorem dX2_step_91 : decode cX2_step 91 = .ok (.ifCond .ne 15, 3) := by decide +kernel
theorem dX2_step_94 : decode cX2_step 94 = .ok (.aload_n 0, 1) := by decide +kernel
theorem dX2_step_95 : decode cX2_step 95 = .ok (.getfield 39, 3) := by decide +kernel
theorem dX2_step_98 : decode cX2_step 98 = .ok (.aload 8, 2) := by decide +kernel
theorem dX2_step_100 : decode cX2_step 100 = .ok (.getfield 82, 3) := by decide +kernel
theorem dX2_step_103 : decode cX2_step 103 = .ok (.invokevirtual 45, 3) := by decide +kernel
theorem dX2_step_106 : decode cX2_step 106 = .ok (.aload_n 0, 1) := by decide +kernel
theorem dX2_step_107 : decode cX2_step 107 = .ok (.aload 8, 2) := by decide +kernel
theorem dX2_step_109 : decode cX2_step 109 = .ok (.lload_n 2, 1) := by decide +kernel
theorem dX2_step_110 : decode cX2_step 110 = .ok (.invokevirtual 86, 3) := by decide +kernel
theorem dX2_step_113 : decode cX2_step 113 = .ok (.istore 9, 2) := by decide +kernel
theorem dX2_step_115 : decode cX2_step 115 = .ok (.aload 8, 2) := by decide +kernel
theorem dX2_step_117 : decode cX2_step 117 = .ok (.iload 9, 2) := by decide +kernel
theorem dX2_step_119 : decode cX2_step 119 = .ok (.ifCond .eq 13, 3) := by decide +kernel
theorem dX2_step_122 : decode cX2_step 122 = .ok (.aload 8, 2) := by decide +kernel
theorem dX2_step_124 : decode cX2_step 124 = .ok (.getfield 90, 3) := by decide +kernel
theorem dX2_step_127 : decode cX2_step 127 = .ok (.iconst 1, 1) := by decide +kernel
theorem dX2_step_128 : decode cX2_step 128 = .ok (.iadd, 1) := by decide +kernel
theorem dX2_step_129 : decode cX2_step 129 = .ok (.goto 4, 3) := by decide +kernel
theorem dX2_step_132 : decode cX2_step 132 = .ok (.iconst 0, 1) := by decide +kernel
theorem dX2_step_133 : decode cX2_step 133 = .ok (.putfield 90, 3) := by decide +kernel
theorem dX2_step_136 : decode cX2_step 136 = .ok (.aload_n 0, 1) := by decide +kernel
theorem dX2_step_137 : decode cX2_step 137 = .ok (.aload 8, 2) := by decide +kernel
theorem dX2_step_139 : decode cX2_step 139 = .ok (.invokevirtual 93, 3) := by decide +kernel
theorem dX2_step_142 : decode cX2_step 142 = .ok (.ifCond .eq 5, 3) := by decide +kernel
theorem dX2_step_145 : decode cX2_step 145 = .ok (.iconst 2, 1) := by decide +kernel
theorem dX2_step_146 : decode cX2_step 146 = .ok (.ireturn, 1) := by decide +kernel
theorem dX2_step_147 : decode cX2_step 147 = .ok (.iload 9, 2) := by decide +kernel
theorem dX2_step_149 : decode cX2_step 149 = .ok (.ifCond .eq 7, 3) := by decide +kernel
theorem dX2_step_152 : decode cX2_step 152 = .ok (.iconst 1, 1) := by decide +kernel
theorem dX2_step_153 : decode cX2_step 153 = .ok (.goto 4, 3) := by decide +kernel
theorem dX2_step_156 : decode cX2_step 156 = .ok (.iconst 0, 1) := by decide +kernel
theorem dX2_step_157 : decode cX2_step 157 = .ok (.ireturn, 1) := by decide +kernel
set_option maxRecDepth 20000 in
theorem ggX2_charge_X2_cellOf : GoodIn wsX2_charge wsX2_cellOf := goodIn_r _ [5, 6, 13, 14, 15, 16, 17, 18, 19, 20] (by decide +kernel) (by decide +kernel)
set_option maxRecDepth 20000 in
theorem gX2_charge_X2_cellOf : GoodIn wsX2_charge (wsV RX2 63 RX2 yX2_cellOf wsX2_cellOf) := goodIn_app (goodIn_of _ (by decide +kernel)) ggX2_charge_X2_cellOf
theorem dX2_charge_0 : decode cX2_charge 0 = .ok (.aload_n 0, 1) := by decide +kernel
theorem dX2_charge_1 : decode cX2_charge 1 = .ok (.iload_n 1, 1) := by decide +kernel
theorem dX2_charge_2 : decode cX2_charge 2 = .ok (.invokevirtual 63, 3) := by decide +kernel
theorem dX2_charge_5 : decode cX2_charge 5 = .ok (.astore_n 2, 1) := by decide +kernel
theorem dX2_charge_6 : decode cX2_charge 6 = .ok (.aload_n 2, 1) := by decide +kernel
theorem dX2_charge_7 : decode cX2_charge 7 = .ok (.ifnonnull 7, 3) := by decide +kernel
theorem dX2_charge_10 : decode cX2_charge 10 = .ok (.lconst 0, 1) := by decide +kernel
theorem dX2_charge_11 : decode cX2_charge 11 = .ok (.goto 7, 3) := by decide +kernel
theorem dX2_charge_14 : decode cX2_charge 14 = .ok (.aload_n 2, 1) := by decide +kernel
theorem dX2_charge_15 : decode cX2_charge 15 = .ok (.getfield 82, 3) := by decide +kernel
theorem dX2_charge_18 : decode cX2_charge 18 = .ok (.lreturn, 1) := by decide +kernel
set_option maxRecDepth 20000 in
theorem ggX2_share_X2_cellOf : GoodIn wsX2_share wsX2_cellOf := goodIn_r _ [5, 6, 13, 14, 15, 16, 17, 18, 19, 20] (by decide +kernel) (by decide +kernel)
set_option maxRecDepth 20000 in
theorem gX2_share_X2_cellOf : GoodIn wsX2_share (wsV RX2 63 RX2 yX2_cellOf wsX2_cellOf) := goodIn_app (goodIn_of _ (by decide +kernel)) ggX2_share_X2_cellOf
theorem dX2_share_0 : decode cX2_share 0 = .ok (.aload_n 0, 1) := by decide +kernel
theorem dX2_share_1 : decode cX2_share 1 = .ok (.iload_n 1, 1) := by decide +kernel
theorem dX2_share_2 : decode cX2_share 2 = .ok (.invokevirtual 63, 3) := by decide +kernel
theorem dX2_share_5 : decode cX2_share 5 = .ok (.astore_n 2, 1) := by decide +kernel
theorem dX2_share_6 : decode cX2_share 6 = .ok (.aload_n 2, 1) := by decide +kernel
theorem dX2_share_7 : decode cX2_share 7 = .ok (.ifnonnull 7, 3) := by decide +kernel
theorem dX2_share_10 : decode cX2_share 10 = .ok (.dconst 0, 1) := by decide +kernel
theorem dX2_share_11 : decode cX2_share 11 = .ok (.goto 7, 3) := by decide +kernel
theorem dX2_share_14 : decode cX2_share 14 = .ok (.aload_n 2, 1) := by decide +kernel
theorem dX2_share_15 : decode cX2_share 15 = .ok (.getfield 97, 3) := by decide +kernel
theorem dX2_share_18 : decode cX2_share 18 = .ok (.dreturn, 1) := by decide +kernel
set_option maxRecDepth 20000 in
theorem ggX2_whole_X2_cellOf : GoodIn wsX2_whole wsX2_cellOf := goodIn_r _ [8, 9, 17, 18, 19, 20, 21, 22, 23, 24] (by decide +kernel) (by decide +kernel)
set_option maxRecDepth 20000 in
theorem gX2_whole_X2_cellOf : GoodIn wsX2_whole (wsV RX2 63 RX2 yX2_cellOf wsX2_cellOf) := goodIn_app (goodIn_of _ (by decide +kernel)) ggX2_whole_X2_cellOf
set_option maxRecDepth 20000 in
theorem ggX2_whole_X2_greatestCommonDivisor : GoodIn wsX2_whole wsX2_greatestCommonDivisor := goodIn_r _ [12, 13, 14, 15, 16] (by decide +kernel) (by decide +kernel)
set_option maxRecDepth 20000 in
theorem gX2_whole_X2_greatestCommonDivisor : GoodIn wsX2_whole (va_wsS RX2 106 yX2_greatestCommonDivisor wsX2_greatestCommonDivisor) := goodIn_app (goodIn_of _ (by decide +kernel)) ggX2_whole_X2_greatestCommonDivisor
theorem dX2_whole_0 : decode cX2_whole 0 = .ok (.aload_n 0, 1) := by decide +kernel
theorem dX2_whole_1 : decode cX2_whole 1 = .ok (.iload_n 1, 1) := by decide +kernel
theorem dX2_whole_2 : decode cX2_whole 2 = .ok (.invokevirtual 63, 3) := by decide +kernel
theorem dX2_whole_5 : decode cX2_whole 5 = .ok (.astore_n 3, 1) := by decide +kernel
theorem dX2_whole_6 : decode cX2_whole 6 = .ok (.aload_n 3, 1) := by decide +kernel
theorem dX2_whole_7 : decode cX2_whole 7 = .ok (.ifnonnull 5, 3) := by decide +kernel
theorem dX2_whole_10 : decode cX2_whole 10 = .ok (.lconst 0, 1) := by decide +kernel
theorem dX2_whole_11 : decode cX2_whole 11 = .ok (.lreturn, 1) := by decide +kernel
theorem dX2_whole_12 : decode cX2_whole 12 = .ok (.aload_n 0, 1) := by decide +kernel
theorem dX2_whole_13 : decode cX2_whole 13 = .ok (.getfield 25, 3) := by decide +kernel
theorem dX2_whole_16 : decode cX2_whole 16 = .ok (.iconst 5, 1) := by decide +kernel
theorem dX2_whole_17 : decode cX2_whole 17 = .ok (.laload, 1) := by decide +kernel
theorem dX2_whole_18 : decode cX2_whole 18 = .ok (.lstore 4, 2) := by decide +kernel
theorem dX2_whole_20 : decode cX2_whole 20 = .ok (.lload 4, 2) := by decide +kernel
theorem dX2_whole_22 : decode cX2_whole 22 = .ok (.lconst 0, 1) := by decide +kernel
theorem dX2_whole_23 : decode cX2_whole 23 = .ok (.lcmp, 1) := by decide +kernel
theorem dX2_whole_24 : decode cX2_whole 24 = .ok (.ifCond .ne 13, 3) := by decide +kernel
theorem dX2_whole_27 : decode cX2_whole 27 = .ok (.new 101, 3) := by decide +kernel
theorem dX2_whole_30 : decode cX2_whole 30 = .ok (.dup, 1) := by decide +kernel
theorem dX2_whole_31 : decode cX2_whole 31 = .ok (.ldc 103, 2) := by decide +kernel
theorem dX2_whole_33 : decode cX2_whole 33 = .ok (.invokespecial 105, 3) := by decide +kernel
theorem dX2_whole_36 : decode cX2_whole 36 = .ok (.athrow, 1) := by decide +kernel
theorem dX2_whole_37 : decode cX2_whole 37 = .ok (.aload_n 3, 1) := by decide +kernel
theorem dX2_whole_38 : decode cX2_whole 38 = .ok (.getfield 82, 3) := by decide +kernel
theorem dX2_whole_41 : decode cX2_whole 41 = .ok (.lload 4, 2) := by decide +kernel
theorem dX2_whole_43 : decode cX2_whole 43 = .ok (.invokestatic 106, 3) := by decide +kernel
theorem dX2_whole_46 : decode cX2_whole 46 = .ok (.lstore 6, 2) := by decide +kernel
theorem dX2_whole_48 : decode cX2_whole 48 = .ok (.lload 6, 2) := by decide +kernel
theorem dX2_whole_50 : decode cX2_whole 50 = .ok (.lconst 0, 1) := by decide +kernel
theorem dX2_whole_51 : decode cX2_whole 51 = .ok (.lcmp, 1) := by decide +kernel
theorem dX2_whole_52 : decode cX2_whole 52 = .ok (.ifCond .ne 5, 3) := by decide +kernel
theorem dX2_whole_55 : decode cX2_whole 55 = .ok (.lconst 0, 1) := by decide +kernel
theorem dX2_whole_56 : decode cX2_whole 56 = .ok (.lreturn, 1) := by decide +kernel
theorem dX2_whole_57 : decode cX2_whole 57 = .ok (.iload_n 2, 1) := by decide +kernel
theorem dX2_whole_58 : decode cX2_whole 58 = .ok (.ifCond .ne 10, 3) := by decide +kernel
theorem dX2_whole_61 : decode cX2_whole 61 = .ok (.aload_n 3, 1) := by decide +kernel
theorem dX2_whole_62 : decode cX2_whole 62 = .ok (.getfield 82, 3) := by decide +kernel
theorem dX2_whole_65 : decode cX2_whole 65 = .ok (.goto 5, 3) := by decide +kernel
theorem dX2_whole_68 : decode cX2_whole 68 = .ok (.lload 4, 2) := by decide +kernel
theorem dX2_whole_70 : decode cX2_whole 70 = .ok (.lload 6, 2) := by decide +kernel
theorem dX2_whole_72 : decode cX2_whole 72 = .ok (.ldiv, 1) := by decide +kernel
theorem dX2_whole_73 : decode cX2_whole 73 = .ok (.lreturn, 1) := by decide +kernel
set_option maxRecDepth 20000 in
theorem ggX2_contactor_X2_closeNextContactor : GoodIn wsX2_contactor wsX2_closeNextContactor := goodIn_r _ [6, 1, 7, 8, 9, 10, 5, 11, 12, 13, 14, 15, 16, 17, 18, 19, 20, 21, 22, 23, 24, 25, 26] (by decide +kernel) (by decide +kernel)
set_option maxRecDepth 20000 in
theorem gX2_contactor_X2_closeNextContactor : GoodIn wsX2_contactor (wsV RX2 113 RX2 yX2_closeNextContactor wsX2_closeNextContactor) := goodIn_app (goodIn_of _ (by decide +kernel)) ggX2_contactor_X2_closeNextContactor
theorem dX2_contactor_0 : decode cX2_contactor 0 = .ok (.iload_n 1, 1) := by decide +kernel
theorem dX2_contactor_1 : decode cX2_contactor 1 = .ok (.ifCond .ne 13, 3) := by decide +kernel
theorem dX2_contactor_4 : decode cX2_contactor 4 = .ok (.aload_n 0, 1) := by decide +kernel
theorem dX2_contactor_5 : decode cX2_contactor 5 = .ok (.iconst 0, 1) := by decide +kernel
theorem dX2_contactor_6 : decode cX2_contactor 6 = .ok (.putfield 110, 3) := by decide +kernel
theorem dX2_contactor_9 : decode cX2_contactor 9 = .ok (.aload_n 0, 1) := by decide +kernel
theorem dX2_contactor_10 : decode cX2_contactor 10 = .ok (.getfield 110, 3) := by decide +kernel
theorem dX2_contactor_13 : decode cX2_contactor 13 = .ok (.ireturn, 1) := by decide +kernel
theorem dX2_contactor_14 : decode cX2_contactor 14 = .ok (.aload_n 0, 1) := by decide +kernel
theorem dX2_contactor_15 : decode cX2_contactor 15 = .ok (.invokevirtual 113, 3) := by decide +kernel
theorem dX2_contactor_18 : decode cX2_contactor 18 = .ok (.ireturn, 1) := by decide +kernel
set_option maxRecDepth 20000 in
theorem ggX2_bleed_X2_cellOf : GoodIn wsX2_bleed wsX2_cellOf := goodIn_r _ [5, 6, 32, 33, 34, 35, 36, 37, 38, 39] (by decide +kernel) (by decide +kernel)
set_option maxRecDepth 20000 in
theorem gX2_bleed_X2_cellOf : GoodIn wsX2_bleed (wsV RX2 63 RX2 yX2_cellOf wsX2_cellOf) := goodIn_app (goodIn_of _ (by decide +kernel)) ggX2_bleed_X2_cellOf
set_option maxRecDepth 20000 in
theorem ggX2_bleed_X2_mayBleed : GoodIn wsX2_bleed wsX2_mayBleed := goodIn_r _ [10, 11, 12, 13, 14, 15, 4, 16, 17, 6, 18, 19, 20, 21, 26, 27, 28, 29, 30, 31, 32, 33, 34, 35, 36, 37, 38, 39] (by decide +kernel) (by decide +kernel)
set_option maxRecDepth 20000 in
theorem gX2_bleed_X2_mayBleed : GoodIn wsX2_bleed (wsV RX2 121 RX2 yX2_mayBleed wsX2_mayBleed) := goodIn_app (goodIn_of _ (by decide +kernel)) ggX2_bleed_X2_mayBleed
set_option maxRecDepth 20000 in
theorem ggX2_bleed_X2_bleedingCells : GoodIn wsX2_bleed wsX2_bleedingCells := goodIn_r _ [25, 6, 32, 33, 34, 35, 36, 37, 38, 39, 26, 27, 28, 29, 30, 31] (by decide +kernel) (by decide +kernel)
set_option maxRecDepth 20000 in
theorem gX2_bleed_X2_bleedingCells : GoodIn wsX2_bleed (wsV RX2 124 RX2 yX2_bleedingCells wsX2_bleedingCells) := goodIn_app (goodIn_of _ (by decide +kernel)) ggX2_bleed_X2_bleedingCells
theorem dX2_bleed_0 : decode cX2_bleed 0 = .ok (.aload_n 0, 1) := by decide +kernel
theorem dX2_bleed_1 : decode cX2_bleed 1 = .ok (.iload_n 1, 1) := by decide +kernel
theorem dX2_bleed_2 : decode cX2_bleed 2 = .ok (.invokevirtual 63, 3) := by decide +kernel
theorem dX2_bleed_5 : decode cX2_bleed 5 = .ok (.astore_n 2, 1) := by decide +kernel
theorem dX2_bleed_6 : decode cX2_bleed 6 = .ok (.aload_n 2, 1) := by decide +kernel
theorem dX2_bleed_7 : decode cX2_bleed 7 = .ok (.ifnonnull 5, 3) := by decide +kernel
theorem dX2_bleed_10 : decode cX2_bleed 10 = .ok (.iconst (-1), 1) := by decide +kernel
theorem dX2_bleed_11 : decode cX2_bleed 11 = .ok (.ireturn, 1) := by decide +kernel
theorem dX2_bleed_12 : decode cX2_bleed 12 = .ok (.aload_n 2, 1) := by decide +kernel
theorem dX2_bleed_13 : decode cX2_bleed 13 = .ok (.getfield 117, 3) := by decide +kernel
theorem dX2_bleed_16 : decode cX2_bleed 16 = .ok (.ifCond .ne 14, 3) := by decide +kernel
theorem dX2_bleed_19 : decode cX2_bleed 19 = .ok (.aload_n 0, 1) := by decide +kernel
theorem dX2_bleed_20 : decode cX2_bleed 20 = .ok (.aload_n 2, 1) := by decide +kernel
theorem dX2_bleed_21 : decode cX2_bleed 21 = .ok (.invokevirtual 121, 3) := by decide +kernel
theorem dX2_bleed_24 : decode cX2_bleed 24 = .ok (.ifCond .ne 6, 3) := by decide +kernel
theorem dX2_bleed_27 : decode cX2_bleed 27 = .ok (.bipush (-3), 2) := by decide +kernel
theorem dX2_bleed_29 : decode cX2_bleed 29 = .ok (.ireturn, 1) := by decide +kernel
theorem dX2_bleed_30 : decode cX2_bleed 30 = .ok (.aload_n 2, 1) := by decide +kernel
theorem dX2_bleed_31 : decode cX2_bleed 31 = .ok (.aload_n 2, 1) := by decide +kernel
theorem dX2_bleed_32 : decode cX2_bleed 32 = .ok (.getfield 117, 3) := by decide +kernel
theorem dX2_bleed_35 : decode cX2_bleed 35 = .ok (.ifCond .ne 7, 3) := by decide +kernel
theorem dX2_bleed_38 : decode cX2_bleed 38 = .ok (.iconst 1, 1) := by decide +kernel
theorem dX2_bleed_39 : decode cX2_bleed 39 = .ok (.goto 4, 3) := by decide +kernel
theorem dX2_bleed_42 : decode cX2_bleed 42 = .ok (.iconst 0, 1) := by decide +kernel
theorem dX2_bleed_43 : decode cX2_bleed 43 = .ok (.putfield 117, 3) := by decide +kernel
theorem dX2_bleed_46 : decode cX2_bleed 46 = .ok (.aload_n 0, 1) := by decide +kernel
theorem dX2_bleed_47 : decode cX2_bleed 47 = .ok (.invokevirtual 124, 3) := by decide +kernel
theorem dX2_bleed_50 : decode cX2_bleed 50 = .ok (.ireturn, 1) := by decide +kernel
set_option maxRecDepth 20000 in
theorem ggX2_limit_X2_isOutside : GoodIn wsX2_limit wsX2_isOutside := goodIn_r _ [7] (by decide +kernel) (by decide +kernel)
set_option maxRecDepth 20000 in
theorem gX2_limit_X2_isOutside : GoodIn wsX2_limit (va_wsS RX2 53 yX2_isOutside wsX2_isOutside) := goodIn_app (goodIn_of _ (by decide +kernel)) ggX2_limit_X2_isOutside
theorem dX2_limit_0 : decode cX2_limit 0 = .ok (.iload_n 1, 1) := by decide +kernel
theorem dX2_limit_1 : decode cX2_limit 1 = .ok (.ifCond .lt 12, 3) := by decide +kernel
theorem dX2_limit_4 : decode cX2_limit 4 = .ok (.iload_n 1, 1) := by decide +kernel
theorem dX2_limit_5 : decode cX2_limit 5 = .ok (.aload_n 0, 1) := by decide +kernel
theorem dX2_limit_6 : decode cX2_limit 6 = .ok (.getfield 25, 3) := by decide +kernel
theorem dX2_limit_9 : decode cX2_limit 9 = .ok (.arraylength, 1) := by decide +kernel
theorem dX2_limit_10 : decode cX2_limit 10 = .ok (.if_icmp .lt 5, 3) := by decide +kernel
theorem dX2_limit_13 : decode cX2_limit 13 = .ok (.iconst (-1), 1) := by decide +kernel
theorem dX2_limit_14 : decode cX2_limit 14 = .ok (.ireturn, 1) := by decide +kernel
theorem dX2_limit_15 : decode cX2_limit 15 = .ok (.iload_n 1, 1) := by decide +kernel
theorem dX2_limit_16 : decode cX2_limit 16 = .ok (.iconst 5, 1) := by decide +kernel
theorem dX2_limit_17 : decode cX2_limit 17 = .ok (.if_icmp .ne 7, 3) := by decide +kernel
theorem dX2_limit_20 : decode cX2_limit 20 = .ok (.lconst 0, 1) := by decide +kernel
theorem dX2_limit_21 : decode cX2_limit 21 = .ok (.goto 6, 3) := by decide +kernel
theorem dX2_limit_24 : decode cX2_limit 24 = .ok (.ldc2_w 59, 3) := by decide +kernel
theorem dX2_limit_27 : decode cX2_limit 27 = .ok (.lstore 4, 2) := by decide +kernel
theorem dX2_limit_29 : decode cX2_limit 29 = .ok (.lload_n 2, 1) := by decide +kernel
theorem dX2_limit_30 : decode cX2_limit 30 = .ok (.lload 4, 2) := by decide +kernel
theorem dX2_limit_32 : decode cX2_limit 32 = .ok (.ldc2_w 127, 3) := by decide +kernel
theorem dX2_limit_35 : decode cX2_limit 35 = .ok (.invokestatic 53, 3) := by decide +kernel
theorem dX2_limit_38 : decode cX2_limit 38 = .ok (.ifCond .eq 6, 3) := by decide +kernel
theorem dX2_limit_41 : decode cX2_limit 41 = .ok (.bipush (-2), 2) := by decide +kernel
theorem dX2_limit_43 : decode cX2_limit 43 = .ok (.ireturn, 1) := by decide +kernel
theorem dX2_limit_44 : decode cX2_limit 44 = .ok (.aload_n 0, 1) := by decide +kernel
theorem dX2_limit_45 : decode cX2_limit 45 = .ok (.getfield 25, 3) := by decide +kernel
theorem dX2_limit_48 : decode cX2_limit 48 = .ok (.iload_n 1, 1) := by decide +kernel
theorem dX2_limit_49 : decode cX2_limit 49 = .ok (.lload_n 2, 1) := by decide +kernel
theorem dX2_limit_50 : decode cX2_limit 50 = .ok (.lastore, 1) := by decide +kernel
theorem dX2_limit_51 : decode cX2_limit 51 = .ok (.iconst 1, 1) := by decide +kernel
theorem dX2_limit_52 : decode cX2_limit 52 = .ok (.ireturn, 1) := by decide +kernel
theorem dX2_weakest_0 : decode cX2_weakest 0 = .ok (.iconst 0, 1) := by decide +kernel
theorem dX2_weakest_1 : decode cX2_weakest 1 = .ok (.istore_n 1, 1) := by decide +kernel
theorem dX2_weakest_2 : decode cX2_weakest 2 = .ok (.ldc2_w 131, 3) := by decide +kernel
theorem dX2_weakest_5 : decode cX2_weakest 5 = .ok (.lstore_n 2, 1) := by decide +kernel
theorem dX2_weakest_6 : decode cX2_weakest 6 = .ok (.iconst 0, 1) := by decide +kernel
theorem dX2_weakest_7 : decode cX2_weakest 7 = .ok (.istore 4, 2) := by decide +kernel
theorem dX2_weakest_9 : decode cX2_weakest 9 = .ok (.iload 4, 2) := by decide +kernel
theorem dX2_weakest_11 : decode cX2_weakest 11 = .ok (.aload_n 0, 1) := by decide +kernel
theorem dX2_weakest_12 : decode cX2_weakest 12 = .ok (.getfield 11, 3) := by decide +kernel
theorem dX2_weakest_15 : decode cX2_weakest 15 = .ok (.arraylength, 1) := by decide +kernel
theorem dX2_weakest_16 : decode cX2_weakest 16 = .ok (.if_icmp .ge 38, 3) := by decide +kernel
theorem dX2_weakest_19 : decode cX2_weakest 19 = .ok (.aload_n 0, 1) := by decide +kernel
theorem dX2_weakest_20 : decode cX2_weakest 20 = .ok (.getfield 11, 3) := by decide +kernel
theorem dX2_weakest_23 : decode cX2_weakest 23 = .ok (.iload 4, 2) := by decide +kernel
theorem dX2_weakest_25 : decode cX2_weakest 25 = .ok (.aaload, 1) := by decide +kernel
theorem dX2_weakest_26 : decode cX2_weakest 26 = .ok (.getfield 82, 3) := by decide +kernel
theorem dX2_weakest_29 : decode cX2_weakest 29 = .ok (.lload_n 2, 1) := by decide +kernel
theorem dX2_weakest_30 : decode cX2_weakest 30 = .ok (.lcmp, 1) := by decide +kernel
theorem dX2_weakest_31 : decode cX2_weakest 31 = .ok (.ifCond .ge 17, 3) := by decide +kernel
theorem dX2_weakest_34 : decode cX2_weakest 34 = .ok (.aload_n 0, 1) := by decide +kernel
theorem dX2_weakest_35 : decode cX2_weakest 35 = .ok (.getfield 11, 3) := by decide +kernel
theorem dX2_weakest_38 : decode cX2_weakest 38 = .ok (.iload 4, 2) := by decide +kernel
theorem dX2_weakest_40 : decode cX2_weakest 40 = .ok (.aaload, 1) := by decide +kernel
theorem dX2_weakest_41 : decode cX2_weakest 41 = .ok (.getfield 82, 3) := by decide +kernel
theorem dX2_weakest_44 : decode cX2_weakest 44 = .ok (.lstore_n 2, 1) := by decide +kernel
theorem dX2_weakest_45 : decode cX2_weakest 45 = .ok (.iload 4, 2) := by decide +kernel
theorem dX2_weakest_47 : decode cX2_weakest 47 = .ok (.istore_n 1, 1) := by decide +kernel
theorem dX2_weakest_48 : decode cX2_weakest 48 = .ok (.iinc 4 1, 3) := by decide +kernel
theorem dX2_weakest_51 : decode cX2_weakest 51 = .ok (.goto (-42), 3) := by decide +kernel
theorem dX2_weakest_54 : decode cX2_weakest 54 = .ok (.iload_n 1, 1) := by decide +kernel
theorem dX2_weakest_55 : decode cX2_weakest 55 = .ok (.ireturn, 1) := by decide +kernel
set_option maxRecDepth 20000 in
theorem ggX2_insulate_X2_noteFault : GoodIn wsX2_insulate wsX2_noteFault := goodIn_r _ [6, 7, 8, 9, 10, 11, 12, 13, 14, 15, 16, 17] (by decide +kernel) (by decide +kernel)
set_option maxRecDepth 20000 in
theorem gX2_insulate_X2_noteFault : GoodIn wsX2_insulate (wsV RX2 135 RX2 yX2_noteFault wsX2_noteFault) := goodIn_app (goodIn_of _ (by decide +kernel)) ggX2_insulate_X2_noteFault
theorem dX2_insulate_0 : decode cX2_insulate 0 = .ok (.lload_n 1, 1) := by decide +kernel
theorem dX2_insulate_1 : decode cX2_insulate 1 = .ok (.lconst 0, 1) := by decide +kernel
theorem dX2_insulate_2 : decode cX2_insulate 2 = .ok (.lcmp, 1) := by decide +kernel
theorem dX2_insulate_3 : decode cX2_insulate 3 = .ok (.ifCond .ge 6, 3) := by decide +kernel
theorem dX2_insulate_6 : decode cX2_insulate 6 = .ok (.bipush (-2), 2) := by decide +kernel
theorem dX2_insulate_8 : decode cX2_insulate 8 = .ok (.ireturn, 1) := by decide +kernel
theorem dX2_insulate_9 : decode cX2_insulate 9 = .ok (.lload_n 1, 1) := by decide +kernel
theorem dX2_insulate_10 : decode cX2_insulate 10 = .ok (.ldc2_w 133, 3) := by decide +kernel
theorem dX2_insulate_13 : decode cX2_insulate 13 = .ok (.lcmp, 1) := by decide +kernel
theorem dX2_insulate_14 : decode cX2_insulate 14 = .ok (.ifCond .ge 10, 3) := by decide +kernel
theorem dX2_insulate_17 : decode cX2_insulate 17 = .ok (.aload_n 0, 1) := by decide +kernel
theorem dX2_insulate_18 : decode cX2_insulate 18 = .ok (.iconst 5, 1) := by decide +kernel
theorem dX2_insulate_19 : decode cX2_insulate 19 = .ok (.invokevirtual 135, 3) := by decide +kernel
theorem dX2_insulate_22 : decode cX2_insulate 22 = .ok (.iconst 0, 1) := by decide +kernel
theorem dX2_insulate_23 : decode cX2_insulate 23 = .ok (.ireturn, 1) := by decide +kernel
theorem dX2_insulate_24 : decode cX2_insulate 24 = .ok (.iconst 1, 1) := by decide +kernel
theorem dX2_insulate_25 : decode cX2_insulate 25 = .ok (.ireturn, 1) := by decide +kernel
theorem dX2_stuck_0 : decode cX2_stuck 0 = .ok (.iload_n 1, 1) := by decide +kernel
theorem dX2_stuck_1 : decode cX2_stuck 1 = .ok (.ifCond .lt 12, 3) := by decide +kernel
theorem dX2_stuck_4 : decode cX2_stuck 4 = .ok (.iload_n 1, 1) := by decide +kernel
theorem dX2_stuck_5 : decode cX2_stuck 5 = .ok (.aload_n 0, 1) := by decide +kernel
theorem dX2_stuck_6 : decode cX2_stuck 6 = .ok (.getfield 28, 3) := by decide +kernel
theorem dX2_stuck_9 : decode cX2_stuck 9 = .ok (.arraylength, 1) := by decide +kernel
theorem dX2_stuck_10 : decode cX2_stuck 10 = .ok (.if_icmp .lt 5, 3) := by decide +kernel
theorem dX2_stuck_13 : decode cX2_stuck 13 = .ok (.iconst (-1), 1) := by decide +kernel
theorem dX2_stuck_14 : decode cX2_stuck 14 = .ok (.ireturn, 1) := by decide +kernel
theorem dX2_stuck_15 : decode cX2_stuck 15 = .ok (.aload_n 0, 1) := by decide +kernel
theorem dX2_stuck_16 : decode cX2_stuck 16 = .ok (.getfield 28, 3) := by decide +kernel
theorem dX2_stuck_19 : decode cX2_stuck 19 = .ok (.iload_n 1, 1) := by decide +kernel
theorem dX2_stuck_20 : decode cX2_stuck 20 = .ok (.aload_n 0, 1) := by decide +kernel
theorem dX2_stuck_21 : decode cX2_stuck 21 = .ok (.getfield 28, 3) := by decide +kernel
theorem dX2_stuck_24 : decode cX2_stuck 24 = .ok (.iload_n 1, 1) := by decide +kernel
theorem dX2_stuck_25 : decode cX2_stuck 25 = .ok (.baload, 1) := by decide +kernel
theorem dX2_stuck_26 : decode cX2_stuck 26 = .ok (.ifCond .ne 7, 3) := by decide +kernel
theorem dX2_stuck_29 : decode cX2_stuck 29 = .ok (.iconst 1, 1) := by decide +kernel
theorem dX2_stuck_30 : decode cX2_stuck 30 = .ok (.goto 4, 3) := by decide +kernel
theorem dX2_stuck_33 : decode cX2_stuck 33 = .ok (.iconst 0, 1) := by decide +kernel
theorem dX2_stuck_34 : decode cX2_stuck 34 = .ok (.bastore, 1) := by decide +kernel
theorem dX2_stuck_35 : decode cX2_stuck 35 = .ok (.aload_n 0, 1) := by decide +kernel
theorem dX2_stuck_36 : decode cX2_stuck 36 = .ok (.getfield 28, 3) := by decide +kernel
theorem dX2_stuck_39 : decode cX2_stuck 39 = .ok (.iload_n 1, 1) := by decide +kernel
theorem dX2_stuck_40 : decode cX2_stuck 40 = .ok (.baload, 1) := by decide +kernel
theorem dX2_stuck_41 : decode cX2_stuck 41 = .ok (.ifCond .eq 7, 3) := by decide +kernel
theorem dX2_stuck_44 : decode cX2_stuck 44 = .ok (.iconst 1, 1) := by decide +kernel
theorem dX2_stuck_45 : decode cX2_stuck 45 = .ok (.goto 4, 3) := by decide +kernel
theorem dX2_stuck_48 : decode cX2_stuck 48 = .ok (.iconst 0, 1) := by decide +kernel
theorem dX2_stuck_49 : decode cX2_stuck 49 = .ok (.ireturn, 1) := by decide +kernel
theorem dX2_cycle_0 : decode cX2_cycle 0 = .ok (.iload_n 1, 1) := by decide +kernel
theorem dX2_cycle_1 : decode cX2_cycle 1 = .ok (.iconst (-1), 1) := by decide +kernel
theorem dX2_cycle_2 : decode cX2_cycle 2 = .ok (.if_icmp .ne 15, 3) := by decide +kernel
theorem dX2_cycle_5 : decode cX2_cycle 5 = .ok (.iload_n 2, 1) := by decide +kernel
theorem dX2_cycle_6 : decode cX2_cycle 6 = .ok (.ifCond .ne 11, 3) := by decide +kernel
theorem dX2_cycle_9 : decode cX2_cycle 9 = .ok (.aload_n 0, 1) := by decide +kernel
theorem dX2_cycle_10 : decode cX2_cycle 10 = .ok (.getfield 39, 3) := by decide +kernel
theorem dX2_cycle_13 : decode cX2_cycle 13 = .ok (.getfield 139, 3) := by decide +kernel
theorem dX2_cycle_16 : decode cX2_cycle 16 = .ok (.ireturn, 1) := by decide +kernel
theorem dX2_cycle_17 : decode cX2_cycle 17 = .ok (.iload_n 1, 1) := by decide +kernel
theorem dX2_cycle_18 : decode cX2_cycle 18 = .ok (.ifCond .lt 14, 3) := by decide +kernel
theorem dX2_cycle_21 : decode cX2_cycle 21 = .ok (.iload_n 1, 1) := by decide +kernel
theorem dX2_cycle_22 : decode cX2_cycle 22 = .ok (.aload_n 0, 1) := by decide +kernel
theorem dX2_cycle_23 : decode cX2_cycle 23 = .ok (.getfield 39, 3) := by decide +kernel
theorem dX2_cycle_26 : decode cX2_cycle 26 = .ok (.getfield 139, 3) := by decide +kernel
theorem dX2_cycle_29 : decode cX2_cycle 29 = .ok (.if_icmp .lt 5, 3) := by decide +kernel
theorem dX2_cycle_32 : decode cX2_cycle 32 = .ok (.iconst (-1), 1) := by decide +kernel
theorem dX2_cycle_33 : decode cX2_cycle 33 = .ok (.ireturn, 1) := by decide +kernel
theorem dX2_cycle_34 : decode cX2_cycle 34 = .ok (.iload_n 2, 1) := by decide +kernel
theorem dX2_cycle_35 : decode cX2_cycle 35 = .ok (.ifCond .ne 14, 3) := by decide +kernel
theorem dX2_cycle_38 : decode cX2_cycle 38 = .ok (.aload_n 0, 1) := by decide +kernel
theorem dX2_cycle_39 : decode cX2_cycle 39 = .ok (.getfield 39, 3) := by decide +kernel
theorem dX2_cycle_42 : decode cX2_cycle 42 = .ok (.getfield 142, 3) := by decide +kernel
theorem dX2_cycle_45 : decode cX2_cycle 45 = .ok (.iload_n 1, 1) := by decide +kernel
theorem dX2_cycle_46 : decode cX2_cycle 46 = .ok (.laload, 1) := by decide +kernel
theorem dX2_cycle_47 : decode cX2_cycle 47 = .ok (.l2i, 1) := by decide +kernel
theorem dX2_cycle_48 : decode cX2_cycle 48 = .ok (.ireturn, 1) := by decide +kernel
theorem dX2_cycle_49 : decode cX2_cycle 49 = .ok (.iload_n 2, 1) := by decide +kernel
theorem dX2_cycle_50 : decode cX2_cycle 50 = .ok (.iconst 1, 1) := by decide +kernel
theorem dX2_cycle_51 : decode cX2_cycle 51 = .ok (.if_icmp .ne 16, 3) := by decide +kernel
theorem dX2_cycle_54 : decode cX2_cycle 54 = .ok (.aload_n 0, 1) := by decide +kernel
theorem dX2_cycle_55 : decode cX2_cycle 55 = .ok (.getfield 39, 3) := by decide +kernel
theorem dX2_cycle_58 : decode cX2_cycle 58 = .ok (.getfield 145, 3) := by decide +kernel
theorem dX2_cycle_61 : decode cX2_cycle 61 = .ok (.iload_n 1, 1) := by decide +kernel
theorem dX2_cycle_62 : decode cX2_cycle 62 = .ok (.laload, 1) := by decide +kernel
theorem dX2_cycle_63 : decode cX2_cycle 63 = .ok (.l2i, 1) := by decide +kernel
theorem dX2_cycle_64 : decode cX2_cycle 64 = .ok (.goto 5, 3) := by decide +kernel
theorem dX2_cycle_67 : decode cX2_cycle 67 = .ok (.bipush (-2), 2) := by decide +kernel
theorem dX2_cycle_69 : decode cX2_cycle 69 = .ok (.ireturn, 1) := by decide +kernel
set_option maxRecDepth 20000 in
theorem ggX2_cool_X2_greatestWarmth : GoodIn wsX2_cool wsX2_greatestWarmth := goodIn_r _ [8, 9, 10, 11, 12, 13, 14, 15, 16, 17, 18, 19, 20, 21, 22, 23, 24, 25, 26, 27, 28] (by decide +kernel) (by decide +kernel)
set_option maxRecDepth 20000 in
theorem gX2_cool_X2_greatestWarmth : GoodIn wsX2_cool (wsV RX2 148 RX2 yX2_greatestWarmth wsX2_greatestWarmth) := goodIn_app (goodIn_of _ (by decide +kernel)) ggX2_cool_X2_greatestWarmth
theorem dX2_cool_0 : decode cX2_cool 0 = .ok (.aload_n 0, 1) := by decide +kernel
theorem dX2_cool_1 : decode cX2_cool 1 = .ok (.invokevirtual 148, 3) := by decide +kernel
theorem dX2_cool_4 : decode cX2_cool 4 = .ok (.lstore_n 1, 1) := by decide +kernel
theorem dX2_cool_5 : decode cX2_cool 5 = .ok (.lload_n 1, 1) := by decide +kernel
theorem dX2_cool_6 : decode cX2_cool 6 = .ok (.ldc2_w 152, 3) := by decide +kernel
theorem dX2_cool_9 : decode cX2_cool 9 = .ok (.lcmp, 1) := by decide +kernel
theorem dX2_cool_10 : decode cX2_cool 10 = .ok (.ifCond .le 5, 3) := by decide +kernel
theorem dX2_cool_13 : decode cX2_cool 13 = .ok (.iconst 3, 1) := by decide +kernel
theorem dX2_cool_14 : decode cX2_cool 14 = .ok (.ireturn, 1) := by decide +kernel
theorem dX2_cool_15 : decode cX2_cool 15 = .ok (.lload_n 1, 1) := by decide +kernel
theorem dX2_cool_16 : decode cX2_cool 16 = .ok (.ldc2_w 154, 3) := by decide +kernel
theorem dX2_cool_19 : decode cX2_cool 19 = .ok (.lcmp, 1) := by decide +kernel
theorem dX2_cool_20 : decode cX2_cool 20 = .ok (.ifCond .le 5, 3) := by decide +kernel
theorem dX2_cool_23 : decode cX2_cool 23 = .ok (.iconst 2, 1) := by decide +kernel
theorem dX2_cool_24 : decode cX2_cool 24 = .ok (.ireturn, 1) := by decide +kernel
theorem dX2_cool_25 : decode cX2_cool 25 = .ok (.lload_n 1, 1) := by decide +kernel
theorem dX2_cool_26 : decode cX2_cool 26 = .ok (.ldc2_w 156, 3) := by decide +kernel
theorem dX2_cool_29 : decode cX2_cool 29 = .ok (.lcmp, 1) := by decide +kernel
theorem dX2_cool_30 : decode cX2_cool 30 = .ok (.ifCond .le 7, 3) := by decide +kernel
theorem dX2_cool_33 : decode cX2_cool 33 = .ok (.iconst 1, 1) := by decide +kernel
theorem dX2_cool_34 : decode cX2_cool 34 = .ok (.goto 4, 3) := by decide +kernel
theorem dX2_cool_37 : decode cX2_cool 37 = .ok (.iconst 0, 1) := by decide +kernel
theorem dX2_cool_38 : decode cX2_cool 38 = .ok (.ireturn, 1) := by decide +kernel
theorem dX2_fault_0 : decode cX2_fault 0 = .ok (.iload_n 1, 1) := by decide +kernel
theorem dX2_fault_1 : decode cX2_fault 1 = .ok (.ifCond .lt 11, 3) := by decide +kernel
theorem dX2_fault_4 : decode cX2_fault 4 = .ok (.iload_n 1, 1) := by decide +kernel
theorem dX2_fault_5 : decode cX2_fault 5 = .ok (.aload_n 0, 1) := by decide +kernel
theorem dX2_fault_6 : decode cX2_fault 6 = .ok (.getfield 158, 3) := by decide +kernel
theorem dX2_fault_9 : decode cX2_fault 9 = .ok (.if_icmp .lt 7, 3) := by decide +kernel
theorem dX2_fault_12 : decode cX2_fault 12 = .ok (.iconst 0, 1) := by decide +kernel
theorem dX2_fault_13 : decode cX2_fault 13 = .ok (.goto 9, 3) := by decide +kernel
theorem dX2_fault_16 : decode cX2_fault 16 = .ok (.aload_n 0, 1) := by decide +kernel
theorem dX2_fault_17 : decode cX2_fault 17 = .ok (.getfield 32, 3) := by decide +kernel
theorem dX2_fault_20 : decode cX2_fault 20 = .ok (.iload_n 1, 1) := by decide +kernel
theorem dX2_fault_21 : decode cX2_fault 21 = .ok (.iaload, 1) := by decide +kernel
theorem dX2_fault_22 : decode cX2_fault 22 = .ok (.ireturn, 1) := by decide +kernel
theorem dX2_isOutside_0 : decode cX2_isOutside 0 = .ok (.lload_n 0, 1) := by decide +kernel
theorem dX2_isOutside_1 : decode cX2_isOutside 1 = .ok (.lload_n 2, 1) := by decide +kernel
theorem dX2_isOutside_2 : decode cX2_isOutside 2 = .ok (.lcmp, 1) := by decide +kernel
theorem dX2_isOutside_3 : decode cX2_isOutside 3 = .ok (.ifCond .lt 10, 3) := by decide +kernel
theorem dX2_isOutside_6 : decode cX2_isOutside 6 = .ok (.lload_n 0, 1) := by decide +kernel
theorem dX2_isOutside_7 : decode cX2_isOutside 7 = .ok (.lload 4, 2) := by decide +kernel
theorem dX2_isOutside_9 : decode cX2_isOutside 9 = .ok (.lcmp, 1) := by decide +kernel
theorem dX2_isOutside_10 : decode cX2_isOutside 10 = .ok (.ifCond .le 7, 3) := by decide +kernel
theorem dX2_isOutside_13 : decode cX2_isOutside 13 = .ok (.iconst 1, 1) := by decide +kernel
theorem dX2_isOutside_14 : decode cX2_isOutside 14 = .ok (.goto 4, 3) := by decide +kernel
theorem dX2_isOutside_17 : decode cX2_isOutside 17 = .ok (.iconst 0, 1) := by decide +kernel
theorem dX2_isOutside_18 : decode cX2_isOutside 18 = .ok (.ireturn, 1) := by decide +kernel
theorem dX2_cellOf_0 : decode cX2_cellOf 0 = .ok (.iload_n 1, 1) := by decide +kernel
theorem dX2_cellOf_1 : decode cX2_cellOf 1 = .ok (.ifCond .lt 12, 3) := by decide +kernel
theorem dX2_cellOf_4 : decode cX2_cellOf 4 = .ok (.iload_n 1, 1) := by decide +kernel
theorem dX2_cellOf_5 : decode cX2_cellOf 5 = .ok (.aload_n 0, 1) := by decide +kernel
theorem dX2_cellOf_6 : decode cX2_cellOf 6 = .ok (.getfield 11, 3) := by decide +kernel
theorem dX2_cellOf_9 : decode cX2_cellOf 9 = .ok (.arraylength, 1) := by decide +kernel
theorem dX2_cellOf_10 : decode cX2_cellOf 10 = .ok (.if_icmp .lt 7, 3) := by decide +kernel
theorem dX2_cellOf_13 : decode cX2_cellOf 13 = .ok (.aconst_null, 1) := by decide +kernel
theorem dX2_cellOf_14 : decode cX2_cellOf 14 = .ok (.goto 9, 3) := by decide +kernel
theorem dX2_cellOf_17 : decode cX2_cellOf 17 = .ok (.aload_n 0, 1) := by decide +kernel
theorem dX2_cellOf_18 : decode cX2_cellOf 18 = .ok (.getfield 11, 3) := by decide +kernel
theorem dX2_cellOf_21 : decode cX2_cellOf 21 = .ok (.iload_n 1, 1) := by decide +kernel
theorem dX2_cellOf_22 : decode cX2_cellOf 22 = .ok (.aaload, 1) := by decide +kernel
theorem dX2_cellOf_23 : decode cX2_cellOf 23 = .ok (.areturn, 1) := by decide +kernel
set_option maxRecDepth 20000 in
theorem ggX2_isBeyond_X2_isOutside : GoodIn wsX2_isBeyond wsX2_isOutside := goodIn_r _ [9] (by decide +kernel) (by decide +kernel)
set_option maxRecDepth 20000 in
theorem gX2_isBeyond_X2_isOutside : GoodIn wsX2_isBeyond (va_wsS RX2 53 yX2_isOutside wsX2_isOutside) := goodIn_app (goodIn_of _ (by decide +kernel)) ggX2_isBeyond_X2_isOutside
theorem dX2_isBeyond_0 : decode cX2_isBeyond 0 = .ok (.aload_n 1, 1) := by decide +kernel
theorem dX2_isBeyond_1 : decode cX2_isBeyond 1 = .ok (.getfield 161, 3) := by decide +kernel
theorem dX2_isBeyond_4 : decode cX2_isBeyond 4 = .ok (.aload_n 0, 1) := by decide +kernel
theorem dX2_isBeyond_5 : decode cX2_isBeyond 5 = .ok (.getfield 25, 3) := by decide +kernel
theorem dX2_isBeyond_8 : decode cX2_isBeyond 8 = .ok (.iconst 0, 1) := by decide +kernel
theorem dX2_isBeyond_9 : decode cX2_isBeyond 9 = .ok (.laload, 1) := by decide +kernel
theorem dX2_isBeyond_10 : decode cX2_isBeyond 10 = .ok (.aload_n 0, 1) := by decide +kernel
theorem dX2_isBeyond_11 : decode cX2_isBeyond 11 = .ok (.getfield 25, 3) := by decide +kernel
theorem dX2_isBeyond_14 : decode cX2_isBeyond 14 = .ok (.iconst 1, 1) := by decide +kernel
theorem dX2_isBeyond_15 : decode cX2_isBeyond 15 = .ok (.laload, 1) := by decide +kernel
theorem dX2_isBeyond_16 : decode cX2_isBeyond 16 = .ok (.invokestatic 53, 3) := by decide +kernel
theorem dX2_isBeyond_19 : decode cX2_isBeyond 19 = .ok (.ifCond .ne 31, 3) := by decide +kernel
theorem dX2_isBeyond_22 : decode cX2_isBeyond 22 = .ok (.aload_n 1, 1) := by decide +kernel
theorem dX2_isBeyond_23 : decode cX2_isBeyond 23 = .ok (.getfield 164, 3) := by decide +kernel
theorem dX2_isBeyond_26 : decode cX2_isBeyond 26 = .ok (.aload_n 0, 1) := by decide +kernel
theorem dX2_isBeyond_27 : decode cX2_isBeyond 27 = .ok (.getfield 25, 3) := by decide +kernel
theorem dX2_isBeyond_30 : decode cX2_isBeyond 30 = .ok (.iconst 2, 1) := by decide +kernel
theorem dX2_isBeyond_31 : decode cX2_isBeyond 31 = .ok (.laload, 1) := by decide +kernel
theorem dX2_isBeyond_32 : decode cX2_isBeyond 32 = .ok (.lcmp, 1) := by decide +kernel
theorem dX2_isBeyond_33 : decode cX2_isBeyond 33 = .ok (.ifCond .gt 17, 3) := by decide +kernel
theorem dX2_isBeyond_36 : decode cX2_isBeyond 36 = .ok (.lload_n 2, 1) := by decide +kernel
theorem dX2_isBeyond_37 : decode cX2_isBeyond 37 = .ok (.invokestatic 167, 3) := by decide +kernel
theorem dX2_isBeyond_40 : decode cX2_isBeyond 40 = .ok (.aload_n 0, 1) := by decide +kernel
theorem dX2_isBeyond_41 : decode cX2_isBeyond 41 = .ok (.getfield 25, 3) := by decide +kernel
theorem dX2_isBeyond_44 : decode cX2_isBeyond 44 = .ok (.iconst 3, 1) := by decide +kernel
theorem dX2_isBeyond_45 : decode cX2_isBeyond 45 = .ok (.laload, 1) := by decide +kernel
theorem dX2_isBeyond_46 : decode cX2_isBeyond 46 = .ok (.lcmp, 1) := by decide +kernel
theorem dX2_isBeyond_47 : decode cX2_isBeyond 47 = .ok (.ifCond .le 7, 3) := by decide +kernel
theorem dX2_isBeyond_50 : decode cX2_isBeyond 50 = .ok (.iconst 1, 1) := by decide +kernel
theorem dX2_isBeyond_51 : decode cX2_isBeyond 51 = .ok (.goto 4, 3) := by decide +kernel
theorem dX2_isBeyond_54 : decode cX2_isBeyond 54 = .ok (.iconst 0, 1) := by decide +kernel
theorem dX2_isBeyond_55 : decode cX2_isBeyond 55 = .ok (.ireturn, 1) := by decide +kernel
set_option maxRecDepth 20000 in
theorem ggX2_noteFaultsOfStep_X2_isOutside : GoodIn wsX2_noteFaultsOfStep wsX2_isOutside := goodIn_r _ [5] (by decide +kernel) (by decide +kernel)
set_option maxRecDepth 20000 in
theorem gX2_noteFaultsOfStep_X2_isOutside : GoodIn wsX2_noteFaultsOfStep (va_wsS RX2 53 yX2_isOutside wsX2_isOutside) := goodIn_app (goodIn_of _ (by decide +kernel)) ggX2_noteFaultsOfStep_X2_isOutside
set_option maxRecDepth 20000 in
theorem ggX2_noteFaultsOfStep_X2_noteFault : GoodIn wsX2_noteFaultsOfStep wsX2_noteFault := goodIn_r _ [9, 10, 11, 12, 19, 20, 21, 22, 23, 24, 25, 26] (by decide +kernel) (by decide +kernel)
set_option maxRecDepth 20000 in
theorem gX2_noteFaultsOfStep_X2_noteFault : GoodIn wsX2_noteFaultsOfStep (wsV RX2 135 RX2 yX2_noteFault wsX2_noteFault) := goodIn_app (goodIn_of _ (by decide +kernel)) ggX2_noteFaultsOfStep_X2_noteFault
theorem dX2_noteFaultsOfStep_0 : decode cX2_noteFaultsOfStep 0 = .ok (.aload_n 1, 1) := by decide +kernel
theorem dX2_noteFaultsOfStep_1 : decode cX2_noteFaultsOfStep 1 = .ok (.getfield 90, 3) := by decide +kernel
theorem dX2_noteFaultsOfStep_4 : decode cX2_noteFaultsOfStep 4 = .ok (.ifCond .le 16, 3) := by decide +kernel
theorem dX2_noteFaultsOfStep_7 : decode cX2_noteFaultsOfStep 7 = .ok (.aload_n 1, 1) := by decide +kernel
theorem dX2_noteFaultsOfStep_8 : decode cX2_noteFaultsOfStep 8 = .ok (.getfield 90, 3) := by decide +kernel
theorem dX2_noteFaultsOfStep_11 : decode cX2_noteFaultsOfStep 11 = .ok (.iconst 2, 1) := by decide +kernel
theorem dX2_noteFaultsOfStep_12 : decode cX2_noteFaultsOfStep 12 = .ok (.irem, 1) := by decide +kernel
theorem dX2_noteFaultsOfStep_13 : decode cX2_noteFaultsOfStep 13 = .ok (.ifCond .ne 7, 3) := by decide +kernel
theorem dX2_noteFaultsOfStep_16 : decode cX2_noteFaultsOfStep 16 = .ok (.iconst 1, 1) := by decide +kernel
theorem dX2_noteFaultsOfStep_17 : decode cX2_noteFaultsOfStep 17 = .ok (.goto 4, 3) := by decide +kernel
theorem dX2_noteFaultsOfStep_20 : decode cX2_noteFaultsOfStep 20 = .ok (.iconst 0, 1) := by decide +kernel
theorem dX2_noteFaultsOfStep_21 : decode cX2_noteFaultsOfStep 21 = .ok (.istore_n 2, 1) := by decide +kernel
theorem dX2_noteFaultsOfStep_22 : decode cX2_noteFaultsOfStep 22 = .ok (.aload_n 1, 1) := by decide +kernel
theorem dX2_noteFaultsOfStep_23 : decode cX2_noteFaultsOfStep 23 = .ok (.getfield 82, 3) := by decide +kernel
theorem dX2_noteFaultsOfStep_26 : decode cX2_noteFaultsOfStep 26 = .ok (.lconst 0, 1) := by decide +kernel
theorem dX2_noteFaultsOfStep_27 : decode cX2_noteFaultsOfStep 27 = .ok (.aload_n 0, 1) := by decide +kernel
theorem dX2_noteFaultsOfStep_28 : decode cX2_noteFaultsOfStep 28 = .ok (.getfield 25, 3) := by decide +kernel
theorem dX2_noteFaultsOfStep_31 : decode cX2_noteFaultsOfStep 31 = .ok (.iconst 5, 1) := by decide +kernel
theorem dX2_noteFaultsOfStep_32 : decode cX2_noteFaultsOfStep 32 = .ok (.laload, 1) := by decide +kernel
theorem dX2_noteFaultsOfStep_33 : decode cX2_noteFaultsOfStep 33 = .ok (.invokestatic 53, 3) := by decide +kernel
theorem dX2_noteFaultsOfStep_36 : decode cX2_noteFaultsOfStep 36 = .ok (.istore_n 3, 1) := by decide +kernel
theorem dX2_noteFaultsOfStep_37 : decode cX2_noteFaultsOfStep 37 = .ok (.iload_n 2, 1) := by decide +kernel
theorem dX2_noteFaultsOfStep_38 : decode cX2_noteFaultsOfStep 38 = .ok (.ifCond .eq 8, 3) := by decide +kernel
theorem dX2_noteFaultsOfStep_41 : decode cX2_noteFaultsOfStep 41 = .ok (.aload_n 0, 1) := by decide +kernel
theorem dX2_noteFaultsOfStep_42 : decode cX2_noteFaultsOfStep 42 = .ok (.iconst 1, 1) := by decide +kernel
theorem dX2_noteFaultsOfStep_43 : decode cX2_noteFaultsOfStep 43 = .ok (.invokevirtual 135, 3) := by decide +kernel
theorem dX2_noteFaultsOfStep_46 : decode cX2_noteFaultsOfStep 46 = .ok (.iload_n 3, 1) := by decide +kernel
theorem dX2_noteFaultsOfStep_47 : decode cX2_noteFaultsOfStep 47 = .ok (.ifCond .eq 8, 3) := by decide +kernel
theorem dX2_noteFaultsOfStep_50 : decode cX2_noteFaultsOfStep 50 = .ok (.aload_n 0, 1) := by decide +kernel
theorem dX2_noteFaultsOfStep_51 : decode cX2_noteFaultsOfStep 51 = .ok (.iconst 2, 1) := by decide +kernel
theorem dX2_noteFaultsOfStep_52 : decode cX2_noteFaultsOfStep 52 = .ok (.invokevirtual 135, 3) := by decide +kernel
theorem dX2_noteFaultsOfStep_55 : decode cX2_noteFaultsOfStep 55 = .ok (.iload_n 2, 1) := by decide +kernel
theorem dX2_noteFaultsOfStep_56 : decode cX2_noteFaultsOfStep 56 = .ok (.ifCond .ne 7, 3) := by decide +kernel
theorem dX2_noteFaultsOfStep_59 : decode cX2_noteFaultsOfStep 59 = .ok (.iload_n 3, 1) := by decide +kernel
theorem dX2_noteFaultsOfStep_60 : decode cX2_noteFaultsOfStep 60 = .ok (.ifCond .eq 7, 3) := by decide +kernel
theorem dX2_noteFaultsOfStep_63 : decode cX2_noteFaultsOfStep 63 = .ok (.iconst 1, 1) := by decide +kernel
theorem dX2_noteFaultsOfStep_64 : decode cX2_noteFaultsOfStep 64 = .ok (.goto 4, 3) := by decide +kernel
theorem dX2_noteFaultsOfStep_67 : decode cX2_noteFaultsOfStep 67 = .ok (.iconst 0, 1) := by decide +kernel
theorem dX2_noteFaultsOfStep_68 : decode cX2_noteFaultsOfStep 68 = .ok (.ireturn, 1) := by decide +kernel
theorem dX2_noteFault_0 : decode cX2_noteFault 0 = .ok (.aload_n 0, 1) := by decide +kernel
theorem dX2_noteFault_1 : decode cX2_noteFault 1 = .ok (.iconst 0, 1) := by decide +kernel
theorem dX2_noteFault_2 : decode cX2_noteFault 2 = .ok (.putfield 110, 3) := by decide +kernel
theorem dX2_noteFault_5 : decode cX2_noteFault 5 = .ok (.aload_n 0, 1) := by decide +kernel
theorem dX2_noteFault_6 : decode cX2_noteFault 6 = .ok (.getfield 158, 3) := by decide +kernel
theorem dX2_noteFault_9 : decode cX2_noteFault 9 = .ok (.aload_n 0, 1) := by decide +kernel
theorem dX2_noteFault_10 : decode cX2_noteFault 10 = .ok (.getfield 32, 3) := by decide +kernel
theorem dX2_noteFault_13 : decode cX2_noteFault 13 = .ok (.arraylength, 1) := by decide +kernel
theorem dX2_noteFault_14 : decode cX2_noteFault 14 = .ok (.if_icmp .ge 23, 3) := by decide +kernel
theorem dX2_noteFault_17 : decode cX2_noteFault 17 = .ok (.aload_n 0, 1) := by decide +kernel
theorem dX2_noteFault_18 : decode cX2_noteFault 18 = .ok (.getfield 32, 3) := by decide +kernel
theorem dX2_noteFault_21 : decode cX2_noteFault 21 = .ok (.aload_n 0, 1) := by decide +kernel
theorem dX2_noteFault_22 : decode cX2_noteFault 22 = .ok (.getfield 158, 3) := by decide +kernel
theorem dX2_noteFault_25 : decode cX2_noteFault 25 = .ok (.iload_n 1, 1) := by decide +kernel
theorem dX2_noteFault_26 : decode cX2_noteFault 26 = .ok (.iastore, 1) := by decide +kernel
theorem dX2_noteFault_27 : decode cX2_noteFault 27 = .ok (.aload_n 0, 1) := by decide +kernel
theorem dX2_noteFault_28 : decode cX2_noteFault 28 = .ok (.dup, 1) := by decide +kernel
theorem dX2_noteFault_29 : decode cX2_noteFault 29 = .ok (.getfield 158, 3) := by decide +kernel
theorem dX2_noteFault_32 : decode cX2_noteFault 32 = .ok (.iconst 1, 1) := by decide +kernel
theorem dX2_noteFault_33 : decode cX2_noteFault 33 = .ok (.iadd, 1) := by decide +kernel
theorem dX2_noteFault_34 : decode cX2_noteFault 34 = .ok (.putfield 158, 3) := by decide +kernel
theorem dX2_noteFault_37 : decode cX2_noteFault 37 = .ok (.return_, 1) := by decide +kernel
set_option maxRecDepth 20000 in
theorem ggX2_closeNextContactor_X2_noteFault : GoodIn wsX2_closeNextContactor wsX2_noteFault := goodIn_r _ [7, 1, 8, 9, 15, 16, 17, 18, 19, 20, 21, 22] (by decide +kernel) (by decide +kernel)
set_option maxRecDepth 20000 in
theorem gX2_closeNextContactor_X2_noteFault : GoodIn wsX2_closeNextContactor (wsV RX2 135 RX2 yX2_noteFault wsX2_noteFault) := goodIn_app (goodIn_of _ (by decide +kernel)) ggX2_closeNextContactor_X2_noteFault
set_option maxRecDepth 20000 in
theorem ggX2_closeNextContactor_X2_isStuck : GoodIn wsX2_closeNextContactor wsX2_isStuck := goodIn_r _ [13, 14, 15, 16, 17, 18, 19, 20, 21, 22] (by decide +kernel) (by decide +kernel)
set_option maxRecDepth 20000 in
theorem gX2_closeNextContactor_X2_isStuck : GoodIn wsX2_closeNextContactor (wsV RX2 173 RX2 yX2_isStuck wsX2_isStuck) := goodIn_app (goodIn_of _ (by decide +kernel)) ggX2_closeNextContactor_X2_isStuck
theorem dX2_closeNextContactor_0 : decode cX2_closeNextContactor 0 = .ok (.aload_n 0, 1) := by decide +kernel
theorem dX2_closeNextContactor_1 : decode cX2_closeNextContactor 1 = .ok (.getfield 110, 3) := by decide +kernel
theorem dX2_closeNextContactor_4 : decode cX2_closeNextContactor 4 = .ok (.iconst 3, 1) := by decide +kernel
theorem dX2_closeNextContactor_5 : decode cX2_closeNextContactor 5 = .ok (.if_icmp .eq 19, 3) := by decide +kernel
theorem dX2_closeNextContactor_8 : decode cX2_closeNextContactor 8 = .ok (.aload_n 0, 1) := by decide +kernel
theorem dX2_closeNextContactor_9 : decode cX2_closeNextContactor 9 = .ok (.getfield 110, 3) := by decide +kernel
theorem dX2_closeNextContactor_12 : decode cX2_closeNextContactor 12 = .ok (.iconst 2, 1) := by decide +kernel
theorem dX2_closeNextContactor_13 : decode cX2_closeNextContactor 13 = .ok (.if_icmp .ne 14, 3) := by decide +kernel
theorem dX2_closeNextContactor_16 : decode cX2_closeNextContactor 16 = .ok (.aload_n 0, 1) := by decide +kernel
theorem dX2_closeNextContactor_17 : decode cX2_closeNextContactor 17 = .ok (.getfield 78, 3) := by decide +kernel
theorem dX2_closeNextContactor_20 : decode cX2_closeNextContactor 20 = .ok (.iconst 3, 1) := by decide +kernel
theorem dX2_closeNextContactor_21 : decode cX2_closeNextContactor 21 = .ok (.if_icmp .ge 6, 3) := by decide +kernel
theorem dX2_closeNextContactor_24 : decode cX2_closeNextContactor 24 = .ok (.bipush (-3), 2) := by decide +kernel
theorem dX2_closeNextContactor_26 : decode cX2_closeNextContactor 26 = .ok (.ireturn, 1) := by decide +kernel
theorem dX2_closeNextContactor_27 : decode cX2_closeNextContactor 27 = .ok (.aload_n 0, 1) := by decide +kernel
theorem dX2_closeNextContactor_28 : decode cX2_closeNextContactor 28 = .ok (.getfield 110, 3) := by decide +kernel
theorem dX2_closeNextContactor_31 : decode cX2_closeNextContactor 31 = .ok (.iconst 2, 1) := by decide +kernel
theorem dX2_closeNextContactor_32 : decode cX2_closeNextContactor 32 = .ok (.if_icmp .ne 20, 3) := by decide +kernel
theorem dX2_closeNextContactor_35 : decode cX2_closeNextContactor 35 = .ok (.aload_n 0, 1) := by decide +kernel
theorem dX2_closeNextContactor_36 : decode cX2_closeNextContactor 36 = .ok (.getfield 78, 3) := by decide +kernel
theorem dX2_closeNextContactor_39 : decode cX2_closeNextContactor 39 = .ok (.bipush 20, 2) := by decide +kernel
theorem dX2_closeNextContactor_41 : decode cX2_closeNextContactor 41 = .ok (.if_icmp .lt 11, 3) := by decide +kernel
theorem dX2_closeNextContactor_44 : decode cX2_closeNextContactor 44 = .ok (.aload_n 0, 1) := by decide +kernel
theorem dX2_closeNextContactor_45 : decode cX2_closeNextContactor 45 = .ok (.iconst 3, 1) := by decide +kernel
theorem dX2_closeNextContactor_46 : decode cX2_closeNextContactor 46 = .ok (.invokevirtual 135, 3) := by decide +kernel
theorem dX2_closeNextContactor_49 : decode cX2_closeNextContactor 49 = .ok (.goto 37, 3) := by decide +kernel
theorem dX2_closeNextContactor_52 : decode cX2_closeNextContactor 52 = .ok (.aload_n 0, 1) := by decide +kernel
theorem dX2_closeNextContactor_53 : decode cX2_closeNextContactor 53 = .ok (.aload_n 0, 1) := by decide +kernel
theorem dX2_closeNextContactor_54 : decode cX2_closeNextContactor 54 = .ok (.getfield 110, 3) := by decide +kernel
theorem dX2_closeNextContactor_57 : decode cX2_closeNextContactor 57 = .ok (.invokevirtual 173, 3) := by decide +kernel
theorem dX2_closeNextContactor_60 : decode cX2_closeNextContactor 60 = .ok (.ifCond .eq 11, 3) := by decide +kernel
theorem dX2_closeNextContactor_63 : decode cX2_closeNextContactor 63 = .ok (.aload_n 0, 1) := by decide +kernel
theorem dX2_closeNextContactor_64 : decode cX2_closeNextContactor 64 = .ok (.iconst 4, 1) := by decide +kernel
theorem dX2_closeNextContactor_65 : decode cX2_closeNextContactor 65 = .ok (.invokevirtual 135, 3) := by decide +kernel
theorem dX2_closeNextContactor_68 : decode cX2_closeNextContactor 68 = .ok (.goto 18, 3) := by decide +kernel
theorem dX2_closeNextContactor_71 : decode cX2_closeNextContactor 71 = .ok (.aload_n 0, 1) := by decide +kernel
theorem dX2_closeNextContactor_72 : decode cX2_closeNextContactor 72 = .ok (.dup, 1) := by decide +kernel
theorem dX2_closeNextContactor_73 : decode cX2_closeNextContactor 73 = .ok (.getfield 110, 3) := by decide +kernel
theorem dX2_closeNextContactor_76 : decode cX2_closeNextContactor 76 = .ok (.iconst 1, 1) := by decide +kernel
theorem dX2_closeNextContactor_77 : decode cX2_closeNextContactor 77 = .ok (.iadd, 1) := by decide +kernel
theorem dX2_closeNextContactor_78 : decode cX2_closeNextContactor 78 = .ok (.putfield 110, 3) := by decide +kernel
theorem dX2_closeNextContactor_81 : decode cX2_closeNextContactor 81 = .ok (.aload_n 0, 1) := by decide +kernel
theorem dX2_closeNextContactor_82 : decode cX2_closeNextContactor 82 = .ok (.iconst 0, 1) := by decide +kernel
theorem dX2_closeNextContactor_83 : decode cX2_closeNextContactor 83 = .ok (.putfield 78, 3) := by decide +kernel
theorem dX2_closeNextContactor_86 : decode cX2_closeNextContactor 86 = .ok (.aload_n 0, 1) := by decide +kernel
theorem dX2_closeNextContactor_87 : decode cX2_closeNextContactor 87 = .ok (.getfield 110, 3) := by decide +kernel
theorem dX2_closeNextContactor_90 : decode cX2_closeNextContactor 90 = .ok (.ireturn, 1) := by decide +kernel
theorem dX2_isStuck_0 : decode cX2_isStuck 0 = .ok (.iload_n 1, 1) := by decide +kernel
theorem dX2_isStuck_1 : decode cX2_isStuck 1 = .ok (.ifCond .lt 25, 3) := by decide +kernel
theorem dX2_isStuck_4 : decode cX2_isStuck 4 = .ok (.iload_n 1, 1) := by decide +kernel
theorem dX2_isStuck_5 : decode cX2_isStuck 5 = .ok (.aload_n 0, 1) := by decide +kernel
theorem dX2_isStuck_6 : decode cX2_isStuck 6 = .ok (.getfield 28, 3) := by decide +kernel
theorem dX2_isStuck_9 : decode cX2_isStuck 9 = .ok (.arraylength, 1) := by decide +kernel
theorem dX2_isStuck_10 : decode cX2_isStuck 10 = .ok (.if_icmp .ge 16, 3) := by decide +kernel
theorem dX2_isStuck_13 : decode cX2_isStuck 13 = .ok (.aload_n 0, 1) := by decide +kernel
theorem dX2_isStuck_14 : decode cX2_isStuck 14 = .ok (.getfield 28, 3) := by decide +kernel
theorem dX2_isStuck_17 : decode cX2_isStuck 17 = .ok (.iload_n 1, 1) := by decide +kernel
theorem dX2_isStuck_18 : decode cX2_isStuck 18 = .ok (.baload, 1) := by decide +kernel
theorem dX2_isStuck_19 : decode cX2_isStuck 19 = .ok (.ifCond .eq 7, 3) := by decide +kernel
theorem dX2_isStuck_22 : decode cX2_isStuck 22 = .ok (.iconst 1, 1) := by decide +kernel
theorem dX2_isStuck_23 : decode cX2_isStuck 23 = .ok (.goto 4, 3) := by decide +kernel
theorem dX2_isStuck_26 : decode cX2_isStuck 26 = .ok (.iconst 0, 1) := by decide +kernel
theorem dX2_isStuck_27 : decode cX2_isStuck 27 = .ok (.ireturn, 1) := by decide +kernel
set_option maxRecDepth 20000 in
theorem ggX2_mayBleed_X2_leastVoltage : GoodIn wsX2_mayBleed wsX2_leastVoltage := goodIn_r _ [7, 8, 9, 10, 11, 12, 13, 20, 21, 22, 23, 24, 25, 26, 27, 14, 15, 16, 17, 18, 19] (by decide +kernel) (by decide +kernel)
set_option maxRecDepth 20000 in
theorem gX2_mayBleed_X2_leastVoltage : GoodIn wsX2_mayBleed (wsV RX2 177 RX2 yX2_leastVoltage wsX2_leastVoltage) := goodIn_app (goodIn_of _ (by decide +kernel)) ggX2_mayBleed_X2_leastVoltage
theorem dX2_mayBleed_0 : decode cX2_mayBleed 0 = .ok (.aload_n 1, 1) := by decide +kernel
theorem dX2_mayBleed_1 : decode cX2_mayBleed 1 = .ok (.getfield 82, 3) := by decide +kernel
theorem dX2_mayBleed_4 : decode cX2_mayBleed 4 = .ok (.aload_n 0, 1) := by decide +kernel
theorem dX2_mayBleed_5 : decode cX2_mayBleed 5 = .ok (.getfield 25, 3) := by decide +kernel
theorem dX2_mayBleed_8 : decode cX2_mayBleed 8 = .ok (.iconst 4, 1) := by decide +kernel
theorem dX2_mayBleed_9 : decode cX2_mayBleed 9 = .ok (.laload, 1) := by decide +kernel
theorem dX2_mayBleed_10 : decode cX2_mayBleed 10 = .ok (.lcmp, 1) := by decide +kernel
theorem dX2_mayBleed_11 : decode cX2_mayBleed 11 = .ok (.ifCond .lt 23, 3) := by decide +kernel
theorem dX2_mayBleed_14 : decode cX2_mayBleed 14 = .ok (.aload_n 1, 1) := by decide +kernel
theorem dX2_mayBleed_15 : decode cX2_mayBleed 15 = .ok (.getfield 161, 3) := by decide +kernel
theorem dX2_mayBleed_18 : decode cX2_mayBleed 18 = .ok (.aload_n 0, 1) := by decide +kernel
theorem dX2_mayBleed_19 : decode cX2_mayBleed 19 = .ok (.invokevirtual 177, 3) := by decide +kernel
theorem dX2_mayBleed_22 : decode cX2_mayBleed 22 = .ok (.ldc2_w 180, 3) := by decide +kernel
theorem dX2_mayBleed_25 : decode cX2_mayBleed 25 = .ok (.ladd, 1) := by decide +kernel
theorem dX2_mayBleed_26 : decode cX2_mayBleed 26 = .ok (.lcmp, 1) := by decide +kernel
theorem dX2_mayBleed_27 : decode cX2_mayBleed 27 = .ok (.ifCond .lt 7, 3) := by decide +kernel
theorem dX2_mayBleed_30 : decode cX2_mayBleed 30 = .ok (.iconst 1, 1) := by decide +kernel
theorem dX2_mayBleed_31 : decode cX2_mayBleed 31 = .ok (.goto 4, 3) := by decide +kernel
theorem dX2_mayBleed_34 : decode cX2_mayBleed 34 = .ok (.iconst 0, 1) := by decide +kernel
theorem dX2_mayBleed_35 : decode cX2_mayBleed 35 = .ok (.ireturn, 1) := by decide +kernel
theorem dX2_leastVoltage_0 : decode cX2_leastVoltage 0 = .ok (.ldc2_w 131, 3) := by decide +kernel
theorem dX2_leastVoltage_3 : decode cX2_leastVoltage 3 = .ok (.lstore_n 1, 1) := by decide +kernel
theorem dX2_leastVoltage_4 : decode cX2_leastVoltage 4 = .ok (.aload_n 0, 1) := by decide +kernel
theorem dX2_leastVoltage_5 : decode cX2_leastVoltage 5 = .ok (.getfield 11, 3) := by decide +kernel
theorem dX2_leastVoltage_8 : decode cX2_leastVoltage 8 = .ok (.astore_n 3, 1) := by decide +kernel
theorem dX2_leastVoltage_9 : decode cX2_leastVoltage 9 = .ok (.aload_n 3, 1) := by decide +kernel
theorem dX2_leastVoltage_10 : decode cX2_leastVoltage 10 = .ok (.arraylength, 1) := by decide +kernel
theorem dX2_leastVoltage_11 : decode cX2_leastVoltage 11 = .ok (.istore 4, 2) := by decide +kernel
theorem dX2_leastVoltage_13 : decode cX2_leastVoltage 13 = .ok (.iconst 0, 1) := by decide +kernel
theorem dX2_leastVoltage_14 : decode cX2_leastVoltage 14 = .ok (.istore 5, 2) := by decide +kernel
theorem dX2_leastVoltage_16 : decode cX2_leastVoltage 16 = .ok (.iload 5, 2) := by decide +kernel
theorem dX2_leastVoltage_18 : decode cX2_leastVoltage 18 = .ok (.iload 4, 2) := by decide +kernel
theorem dX2_leastVoltage_20 : decode cX2_leastVoltage 20 = .ok (.if_icmp .ge 25, 3) := by decide +kernel
theorem dX2_leastVoltage_23 : decode cX2_leastVoltage 23 = .ok (.aload_n 3, 1) := by decide +kernel
theorem dX2_leastVoltage_24 : decode cX2_leastVoltage 24 = .ok (.iload 5, 2) := by decide +kernel
theorem dX2_leastVoltage_26 : decode cX2_leastVoltage 26 = .ok (.aaload, 1) := by decide +kernel
theorem dX2_leastVoltage_27 : decode cX2_leastVoltage 27 = .ok (.astore 6, 2) := by decide +kernel
theorem dX2_leastVoltage_29 : decode cX2_leastVoltage 29 = .ok (.lload_n 1, 1) := by decide +kernel
theorem dX2_leastVoltage_30 : decode cX2_leastVoltage 30 = .ok (.aload 6, 2) := by decide +kernel
theorem dX2_leastVoltage_32 : decode cX2_leastVoltage 32 = .ok (.getfield 161, 3) := by decide +kernel
theorem dX2_leastVoltage_35 : decode cX2_leastVoltage 35 = .ok (.invokestatic 182, 3) := by decide +kernel
theorem dX2_leastVoltage_38 : decode cX2_leastVoltage 38 = .ok (.lstore_n 1, 1) := by decide +kernel
theorem dX2_leastVoltage_39 : decode cX2_leastVoltage 39 = .ok (.iinc 5 1, 3) := by decide +kernel
theorem dX2_leastVoltage_42 : decode cX2_leastVoltage 42 = .ok (.goto (-26), 3) := by decide +kernel
theorem dX2_leastVoltage_45 : decode cX2_leastVoltage 45 = .ok (.lload_n 1, 1) := by decide +kernel
theorem dX2_leastVoltage_46 : decode cX2_leastVoltage 46 = .ok (.lreturn, 1) := by decide +kernel
theorem dX2_greatestWarmth_0 : decode cX2_greatestWarmth 0 = .ok (.ldc2_w 185, 3) := by decide +kernel
theorem dX2_greatestWarmth_3 : decode cX2_greatestWarmth 3 = .ok (.lstore_n 1, 1) := by decide +kernel
theorem dX2_greatestWarmth_4 : decode cX2_greatestWarmth 4 = .ok (.aload_n 0, 1) := by decide +kernel
theorem dX2_greatestWarmth_5 : decode cX2_greatestWarmth 5 = .ok (.getfield 11, 3) := by decide +kernel
theorem dX2_greatestWarmth_8 : decode cX2_greatestWarmth 8 = .ok (.astore_n 3, 1) := by decide +kernel
theorem dX2_greatestWarmth_9 : decode cX2_greatestWarmth 9 = .ok (.aload_n 3, 1) := by decide +kernel
theorem dX2_greatestWarmth_10 : decode cX2_greatestWarmth 10 = .ok (.arraylength, 1) := by decide +kernel
theorem dX2_greatestWarmth_11 : decode cX2_greatestWarmth 11 = .ok (.istore 4, 2) := by decide +kernel
theorem dX2_greatestWarmth_13 : decode cX2_greatestWarmth 13 = .ok (.iconst 0, 1) := by decide +kernel
theorem dX2_greatestWarmth_14 : decode cX2_greatestWarmth 14 = .ok (.istore 5, 2) := by decide +kernel
theorem dX2_greatestWarmth_16 : decode cX2_greatestWarmth 16 = .ok (.iload 5, 2) := by decide +kernel
theorem dX2_greatestWarmth_18 : decode cX2_greatestWarmth 18 = .ok (.iload 4, 2) := by decide +kernel
theorem dX2_greatestWarmth_20 : decode cX2_greatestWarmth 20 = .ok (.if_icmp .ge 25, 3) := by decide +kernel
theorem dX2_greatestWarmth_23 : decode cX2_greatestWarmth 23 = .ok (.aload_n 3, 1) := by decide +kernel
theorem dX2_greatestWarmth_24 : decode cX2_greatestWarmth 24 = .ok (.iload 5, 2) := by decide +kernel
theorem dX2_greatestWarmth_26 : decode cX2_greatestWarmth 26 = .ok (.aaload, 1) := by decide +kernel
theorem dX2_greatestWarmth_27 : decode cX2_greatestWarmth 27 = .ok (.astore 6, 2) := by decide +kernel
theorem dX2_greatestWarmth_29 : decode cX2_greatestWarmth 29 = .ok (.lload_n 1, 1) := by decide +kernel
theorem dX2_greatestWarmth_30 : decode cX2_greatestWarmth 30 = .ok (.aload 6, 2) := by decide +kernel
theorem dX2_greatestWarmth_32 : decode cX2_greatestWarmth 32 = .ok (.getfield 164, 3) := by decide +kernel
theorem dX2_greatestWarmth_35 : decode cX2_greatestWarmth 35 = .ok (.invokestatic 187, 3) := by decide +kernel
theorem dX2_greatestWarmth_38 : decode cX2_greatestWarmth 38 = .ok (.lstore_n 1, 1) := by decide +kernel
theorem dX2_greatestWarmth_39 : decode cX2_greatestWarmth 39 = .ok (.iinc 5 1, 3) := by decide +kernel
theorem dX2_greatestWarmth_42 : decode cX2_greatestWarmth 42 = .ok (.goto (-26), 3) := by decide +kernel
theorem dX2_greatestWarmth_45 : decode cX2_greatestWarmth 45 = .ok (.lload_n 1, 1) := by decide +kernel
theorem dX2_greatestWarmth_46 : decode cX2_greatestWarmth 46 = .ok (.lreturn, 1) := by decide +kernel
theorem dX2_bleedingCells_0 : decode cX2_bleedingCells 0 = .ok (.iconst 0, 1) := by decide +kernel
theorem dX2_bleedingCells_1 : decode cX2_bleedingCells 1 = .ok (.istore_n 1, 1) := by decide +kernel
theorem dX2_bleedingCells_2 : decode cX2_bleedingCells 2 = .ok (.aload_n 0, 1) := by decide +kernel
theorem dX2_bleedingCells_3 : decode cX2_bleedingCells 3 = .ok (.getfield 11, 3) := by decide +kernel
theorem dX2_bleedingCells_6 : decode cX2_bleedingCells 6 = .ok (.astore_n 2, 1) := by decide +kernel
theorem dX2_bleedingCells_7 : decode cX2_bleedingCells 7 = .ok (.aload_n 2, 1) := by decide +kernel
theorem dX2_bleedingCells_8 : decode cX2_bleedingCells 8 = .ok (.arraylength, 1) := by decide +kernel
theorem dX2_bleedingCells_9 : decode cX2_bleedingCells 9 = .ok (.istore_n 3, 1) := by decide +kernel
theorem dX2_bleedingCells_10 : decode cX2_bleedingCells 10 = .ok (.iconst 0, 1) := by decide +kernel
theorem dX2_bleedingCells_11 : decode cX2_bleedingCells 11 = .ok (.istore 4, 2) := by decide +kernel
theorem dX2_bleedingCells_13 : decode cX2_bleedingCells 13 = .ok (.iload 4, 2) := by decide +kernel
theorem dX2_bleedingCells_15 : decode cX2_bleedingCells 15 = .ok (.iload_n 3, 1) := by decide +kernel
theorem dX2_bleedingCells_16 : decode cX2_bleedingCells 16 = .ok (.if_icmp .ge 26, 3) := by decide +kernel
theorem dX2_bleedingCells_19 : decode cX2_bleedingCells 19 = .ok (.aload_n 2, 1) := by decide +kernel
theorem dX2_bleedingCells_20 : decode cX2_bleedingCells 20 = .ok (.iload 4, 2) := by decide +kernel
theorem dX2_bleedingCells_22 : decode cX2_bleedingCells 22 = .ok (.aaload, 1) := by decide +kernel
theorem dX2_bleedingCells_23 : decode cX2_bleedingCells 23 = .ok (.astore 5, 2) := by decide +kernel
theorem dX2_bleedingCells_25 : decode cX2_bleedingCells 25 = .ok (.aload 5, 2) := by decide +kernel
theorem dX2_bleedingCells_27 : decode cX2_bleedingCells 27 = .ok (.getfield 117, 3) := by decide +kernel
theorem dX2_bleedingCells_30 : decode cX2_bleedingCells 30 = .ok (.ifCond .eq 6, 3) := by decide +kernel
theorem dX2_bleedingCells_33 : decode cX2_bleedingCells 33 = .ok (.iinc 1 1, 3) := by decide +kernel
theorem dX2_bleedingCells_36 : decode cX2_bleedingCells 36 = .ok (.iinc 4 1, 3) := by decide +kernel
theorem dX2_bleedingCells_39 : decode cX2_bleedingCells 39 = .ok (.goto (-26), 3) := by decide +kernel
theorem dX2_bleedingCells_42 : decode cX2_bleedingCells 42 = .ok (.iload_n 1, 1) := by decide +kernel
theorem dX2_bleedingCells_43 : decode cX2_bleedingCells 43 = .ok (.ireturn, 1) := by decide +kernel
theorem dX2_greatestCommonDivisor_0 : decode cX2_greatestCommonDivisor 0 = .ok (.lload_n 0, 1) := by decide +kernel
theorem dX2_greatestCommonDivisor_1 : decode cX2_greatestCommonDivisor 1 = .ok (.lstore 4, 2) := by decide +kernel
theorem dX2_greatestCommonDivisor_3 : decode cX2_greatestCommonDivisor 3 = .ok (.lload_n 2, 1) := by decide +kernel
theorem dX2_greatestCommonDivisor_4 : decode cX2_greatestCommonDivisor 4 = .ok (.lstore 6, 2) := by decide +kernel
theorem dX2_greatestCommonDivisor_6 : decode cX2_greatestCommonDivisor 6 = .ok (.iconst 0, 1) := by decide +kernel
theorem dX2_greatestCommonDivisor_7 : decode cX2_greatestCommonDivisor 7 = .ok (.istore 8, 2) := by decide +kernel
theorem dX2_greatestCommonDivisor_9 : decode cX2_greatestCommonDivisor 9 = .ok (.iload 8, 2) := by decide +kernel
theorem dX2_greatestCommonDivisor_11 : decode cX2_greatestCommonDivisor 11 = .ok (.sipush 1000, 3) := by decide +kernel
theorem dX2_greatestCommonDivisor_14 : decode cX2_greatestCommonDivisor 14 = .ok (.if_icmp .ge 31, 3) := by decide +kernel
theorem dX2_greatestCommonDivisor_17 : decode cX2_greatestCommonDivisor 17 = .ok (.lload 6, 2) := by decide +kernel
theorem dX2_greatestCommonDivisor_19 : decode cX2_greatestCommonDivisor 19 = .ok (.lconst 0, 1) := by decide +kernel
theorem dX2_greatestCommonDivisor_20 : decode cX2_greatestCommonDivisor 20 = .ok (.lcmp, 1) := by decide +kernel
theorem dX2_greatestCommonDivisor_21 : decode cX2_greatestCommonDivisor 21 = .ok (.ifCond .eq 24, 3) := by decide +kernel
theorem dX2_greatestCommonDivisor_24 : decode cX2_greatestCommonDivisor 24 = .ok (.lload 4, 2) := by decide +kernel
theorem dX2_greatestCommonDivisor_26 : decode cX2_greatestCommonDivisor 26 = .ok (.lload 6, 2) := by decide +kernel
theorem dX2_greatestCommonDivisor_28 : decode cX2_greatestCommonDivisor 28 = .ok (.lrem, 1) := by decide +kernel
theorem dX2_greatestCommonDivisor_29 : decode cX2_greatestCommonDivisor 29 = .ok (.lstore 9, 2) := by decide +kernel
theorem dX2_greatestCommonDivisor_31 : decode cX2_greatestCommonDivisor 31 = .ok (.lload 6, 2) := by decide +kernel
theorem dX2_greatestCommonDivisor_33 : decode cX2_greatestCommonDivisor 33 = .ok (.lstore 4, 2) := by decide +kernel
theorem dX2_greatestCommonDivisor_35 : decode cX2_greatestCommonDivisor 35 = .ok (.lload 9, 2) := by decide +kernel
theorem dX2_greatestCommonDivisor_37 : decode cX2_greatestCommonDivisor 37 = .ok (.lstore 6, 2) := by decide +kernel
theorem dX2_greatestCommonDivisor_39 : decode cX2_greatestCommonDivisor 39 = .ok (.iinc 8 1, 3) := by decide +kernel
theorem dX2_greatestCommonDivisor_42 : decode cX2_greatestCommonDivisor 42 = .ok (.goto (-33), 3) := by decide +kernel
theorem dX2_greatestCommonDivisor_45 : decode cX2_greatestCommonDivisor 45 = .ok (.lload 4, 2) := by decide +kernel
theorem dX2_greatestCommonDivisor_47 : decode cX2_greatestCommonDivisor 47 = .ok (.invokestatic 167, 3) := by decide +kernel
theorem dX2_greatestCommonDivisor_50 : decode cX2_greatestCommonDivisor 50 = .ok (.lreturn, 1) := by decide +kernel
theorem dJx00060_init_a7421_0 : decode cJx00060_init_a7421 0 = .ok (.aload_n 0, 1) := by decide +kernel
theorem dJx00060_init_a7421_1 : decode cJx00060_init_a7421 1 = .ok (.aload_n 1, 1) := by decide +kernel
theorem dJx00060_init_a7421_2 : decode cJx00060_init_a7421 2 = .ok (.invokespecial 7, 3) := by decide +kernel
theorem dJx00060_init_a7421_5 : decode cJx00060_init_a7421 5 = .ok (.return_, 1) := by decide +kernel
theorem dJ9_abs_067f4_0 : decode cJ9_abs_067f4 0 = .ok (.lload_n 0, 1) := by decide +kernel
theorem dJ9_abs_067f4_1 : decode cJ9_abs_067f4 1 = .ok (.lconst 0, 1) := by decide +kernel
theorem dJ9_abs_067f4_2 : decode cJ9_abs_067f4 2 = .ok (.lcmp, 1) := by decide +kernel
theorem dJ9_abs_067f4_3 : decode cJ9_abs_067f4 3 = .ok (.ifCond .ge 8, 3) := by decide +kernel
theorem dJ9_abs_067f4_6 : decode cJ9_abs_067f4 6 = .ok (.lload_n 0, 1) := by decide +kernel
theorem dJ9_abs_067f4_7 : decode cJ9_abs_067f4 7 = .ok (.lneg, 1) := by decide +kernel
theorem dJ9_abs_067f4_8 : decode cJ9_abs_067f4 8 = .ok (.goto 4, 3) := by decide +kernel
theorem dJ9_abs_067f4_11 : decode cJ9_abs_067f4 11 = .ok (.lload_n 0, 1) := by decide +kernel
theorem dJ9_abs_067f4_12 : decode cJ9_abs_067f4 12 = .ok (.lreturn, 1) := by decide +kernel
theorem dJ9_max_f86c9_0 : decode cJ9_max_f86c9 0 = .ok (.lload_n 0, 1) := by decide +kernel
theorem dJ9_max_f86c9_1 : decode cJ9_max_f86c9 1 = .ok (.lload_n 2, 1) := by decide +kernel
theorem dJ9_max_f86c9_2 : decode cJ9_max_f86c9 2 = .ok (.lcmp, 1) := by decide +kernel
theorem dJ9_max_f86c9_3 : decode cJ9_max_f86c9 3 = .ok (.ifCond .lt 7, 3) := by decide +kernel
theorem dJ9_max_f86c9_6 : decode cJ9_max_f86c9 6 = .ok (.lload_n 0, 1) := by decide +kernel
theorem dJ9_max_f86c9_7 : decode cJ9_max_f86c9 7 = .ok (.goto 4, 3) := by decide +kernel
theorem dJ9_max_f86c9_10 : decode cJ9_max_f86c9 10 = .ok (.lload_n 2, 1) := by decide +kernel
theorem dJ9_max_f86c9_11 : decode cJ9_max_f86c9 11 = .ok (.lreturn, 1) := by decide +kernel
theorem dJ9_min_f86c9_0 : decode cJ9_min_f86c9 0 = .ok (.lload_n 0, 1) := by decide +kernel
theorem dJ9_min_f86c9_1 : decode cJ9_min_f86c9 1 = .ok (.lload_n 2, 1) := by decide +kernel
theorem dJ9_min_f86c9_2 : decode cJ9_min_f86c9 2 = .ok (.lcmp, 1) := by decide +kernel
theorem dJ9_min_f86c9_3 : decode cJ9_min_f86c9 3 = .ok (.ifCond .gt 7, 3) := by decide +kernel
theorem dJ9_min_f86c9_6 : decode cJ9_min_f86c9 6 = .ok (.lload_n 0, 1) := by decide +kernel
theorem dJ9_min_f86c9_7 : decode cJ9_min_f86c9 7 = .ok (.goto 4, 3) := by decide +kernel
theorem dJ9_min_f86c9_10 : decode cJ9_min_f86c9 10 = .ok (.lload_n 2, 1) := by decide +kernel
theorem dJ9_min_f86c9_11 : decode cJ9_min_f86c9 11 = .ok (.lreturn, 1) := by decide +kernel
