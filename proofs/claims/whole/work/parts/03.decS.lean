theorem dX0_init_0 : decode cX0_init 0 = .ok (.aload_n 0, 1) := by decide +kernel
theorem dX0_init_1 : decode cX0_init 1 = .ok (.invokespecial 3, 3) := by decide +kernel
theorem dX0_init_4 : decode cX0_init 4 = .ok (.aload_n 0, 1) := by decide +kernel
theorem dX0_init_5 : decode cX0_init 5 = .ok (.sipush 512, 3) := by decide +kernel
theorem dX0_init_8 : decode cX0_init 8 = .ok (.newarray .int, 2) := by decide +kernel
theorem dX0_init_10 : decode cX0_init 10 = .ok (.putfield 9, 3) := by decide +kernel
theorem dX0_init_13 : decode cX0_init 13 = .ok (.aload_n 0, 1) := by decide +kernel
theorem dX0_init_14 : decode cX0_init 14 = .ok (.sipush 512, 3) := by decide +kernel
theorem dX0_init_17 : decode cX0_init 17 = .ok (.newarray .int, 2) := by decide +kernel
theorem dX0_init_19 : decode cX0_init 19 = .ok (.putfield 15, 3) := by decide +kernel
theorem dX0_init_22 : decode cX0_init 22 = .ok (.return_, 1) := by decide +kernel
set_option maxRecDepth 20000 in
theorem ggX0_leastWay_X0_bringTo : GoodIn wsX0_leastWay wsX0_bringTo := goodIn_r _ [10, 5, 11, 1, 2, 3, 4, 12, 13] rfl (by decide +kernel)
set_option maxRecDepth 20000 in
theorem gX0_leastWay_X0_bringTo : GoodIn wsX0_leastWay (wsV RX0 24 RX0 yX0_bringTo wsX0_bringTo) := goodIn_app (goodIn_of _ (by decide +kernel)) ggX0_leastWay_X0_bringTo
theorem dX0_leastWay_0 : decode cX0_leastWay 0 = .ok (.iconst 0, 1) := by decide +kernel
theorem dX0_leastWay_1 : decode cX0_leastWay 1 = .ok (.istore_n 3, 1) := by decide +kernel
theorem dX0_leastWay_2 : decode cX0_leastWay 2 = .ok (.iconst 0, 1) := by decide +kernel
theorem dX0_leastWay_3 : decode cX0_leastWay 3 = .ok (.istore 4, 2) := by decide +kernel
theorem dX0_leastWay_5 : decode cX0_leastWay 5 = .ok (.iload 4, 2) := by decide +kernel
theorem dX0_leastWay_7 : decode cX0_leastWay 7 = .ok (.bipush 9, 2) := by decide +kernel
theorem dX0_leastWay_9 : decode cX0_leastWay 9 = .ok (.if_icmp .ge 77, 3) := by decide +kernel
theorem dX0_leastWay_12 : decode cX0_leastWay 12 = .ok (.iload 4, 2) := by decide +kernel
theorem dX0_leastWay_14 : decode cX0_leastWay 14 = .ok (.aload_n 1, 1) := by decide +kernel
theorem dX0_leastWay_15 : decode cX0_leastWay 15 = .ok (.arraylength, 1) := by decide +kernel
theorem dX0_leastWay_16 : decode cX0_leastWay 16 = .ok (.if_icmp .ge 70, 3) := by decide +kernel
theorem dX0_leastWay_19 : decode cX0_leastWay 19 = .ok (.aload_n 1, 1) := by decide +kernel
theorem dX0_leastWay_20 : decode cX0_leastWay 20 = .ok (.iload 4, 2) := by decide +kernel
theorem dX0_leastWay_22 : decode cX0_leastWay 22 = .ok (.iaload, 1) := by decide +kernel
theorem dX0_leastWay_23 : decode cX0_leastWay 23 = .ok (.ifCond .ne 6, 3) := by decide +kernel
theorem dX0_leastWay_26 : decode cX0_leastWay 26 = .ok (.goto 54, 3) := by decide +kernel
theorem dX0_leastWay_29 : decode cX0_leastWay 29 = .ok (.iconst 0, 1) := by decide +kernel
theorem dX0_leastWay_30 : decode cX0_leastWay 30 = .ok (.istore 5, 2) := by decide +kernel
theorem dX0_leastWay_32 : decode cX0_leastWay 32 = .ok (.iload 5, 2) := by decide +kernel
theorem dX0_leastWay_34 : decode cX0_leastWay 34 = .ok (.iconst 1, 1) := by decide +kernel
theorem dX0_leastWay_35 : decode cX0_leastWay 35 = .ok (.iload 4, 2) := by decide +kernel
theorem dX0_leastWay_37 : decode cX0_leastWay 37 = .ok (.ishl, 1) := by decide +kernel
theorem dX0_leastWay_38 : decode cX0_leastWay 38 = .ok (.if_icmp .ge 35, 3) := by decide +kernel
theorem dX0_leastWay_41 : decode cX0_leastWay 41 = .ok (.iload 5, 2) := by decide +kernel
theorem dX0_leastWay_43 : decode cX0_leastWay 43 = .ok (.iload_n 3, 1) := by decide +kernel
theorem dX0_leastWay_44 : decode cX0_leastWay 44 = .ok (.iconst (-1), 1) := by decide +kernel
theorem dX0_leastWay_45 : decode cX0_leastWay 45 = .ok (.ixor, 1) := by decide +kernel
theorem dX0_leastWay_46 : decode cX0_leastWay 46 = .ok (.iand, 1) := by decide +kernel
theorem dX0_leastWay_47 : decode cX0_leastWay 47 = .ok (.ifCond .ne 20, 3) := by decide +kernel
theorem dX0_leastWay_50 : decode cX0_leastWay 50 = .ok (.aload_n 0, 1) := by decide +kernel
theorem dX0_leastWay_51 : decode cX0_leastWay 51 = .ok (.iload 4, 2) := by decide +kernel
theorem dX0_leastWay_53 : decode cX0_leastWay 53 = .ok (.iload 5, 2) := by decide +kernel
theorem dX0_leastWay_55 : decode cX0_leastWay 55 = .ok (.aload_n 1, 1) := by decide +kernel
theorem dX0_leastWay_56 : decode cX0_leastWay 56 = .ok (.iload 4, 2) := by decide +kernel
theorem dX0_leastWay_58 : decode cX0_leastWay 58 = .ok (.iaload, 1) := by decide +kernel
theorem dX0_leastWay_59 : decode cX0_leastWay 59 = .ok (.iload_n 2, 1) := by decide +kernel
theorem dX0_leastWay_60 : decode cX0_leastWay 60 = .ok (.invokestatic 18, 3) := by decide +kernel
theorem dX0_leastWay_63 : decode cX0_leastWay 63 = .ok (.iload_n 2, 1) := by decide +kernel
theorem dX0_leastWay_64 : decode cX0_leastWay 64 = .ok (.invokevirtual 24, 3) := by decide +kernel
theorem dX0_leastWay_67 : decode cX0_leastWay 67 = .ok (.iinc 5 1, 3) := by decide +kernel
theorem dX0_leastWay_70 : decode cX0_leastWay 70 = .ok (.goto (-38), 3) := by decide +kernel
theorem dX0_leastWay_73 : decode cX0_leastWay 73 = .ok (.iload_n 3, 1) := by decide +kernel
theorem dX0_leastWay_74 : decode cX0_leastWay 74 = .ok (.iconst 1, 1) := by decide +kernel
theorem dX0_leastWay_75 : decode cX0_leastWay 75 = .ok (.iload 4, 2) := by decide +kernel
theorem dX0_leastWay_77 : decode cX0_leastWay 77 = .ok (.ishl, 1) := by decide +kernel
theorem dX0_leastWay_78 : decode cX0_leastWay 78 = .ok (.ior, 1) := by decide +kernel
theorem dX0_leastWay_79 : decode cX0_leastWay 79 = .ok (.istore_n 3, 1) := by decide +kernel
theorem dX0_leastWay_80 : decode cX0_leastWay 80 = .ok (.iinc 4 1, 3) := by decide +kernel
theorem dX0_leastWay_83 : decode cX0_leastWay 83 = .ok (.goto (-78), 3) := by decide +kernel
theorem dX0_leastWay_86 : decode cX0_leastWay 86 = .ok (.aload_n 0, 1) := by decide +kernel
theorem dX0_leastWay_87 : decode cX0_leastWay 87 = .ok (.getfield 15, 3) := by decide +kernel
theorem dX0_leastWay_90 : decode cX0_leastWay 90 = .ok (.iload_n 3, 1) := by decide +kernel
theorem dX0_leastWay_91 : decode cX0_leastWay 91 = .ok (.iaload, 1) := by decide +kernel
theorem dX0_leastWay_92 : decode cX0_leastWay 92 = .ok (.ireturn, 1) := by decide +kernel
theorem dX0_bringTo_0 : decode cX0_bringTo 0 = .ok (.iconst 2, 1) := by decide +kernel
theorem dX0_bringTo_1 : decode cX0_bringTo 1 = .ok (.iload_n 1, 1) := by decide +kernel
theorem dX0_bringTo_2 : decode cX0_bringTo 2 = .ok (.iconst 1, 1) := by decide +kernel
theorem dX0_bringTo_3 : decode cX0_bringTo 3 = .ok (.iadd, 1) := by decide +kernel
theorem dX0_bringTo_4 : decode cX0_bringTo 4 = .ok (.imul, 1) := by decide +kernel
theorem dX0_bringTo_5 : decode cX0_bringTo 5 = .ok (.istore 5, 2) := by decide +kernel
theorem dX0_bringTo_7 : decode cX0_bringTo 7 = .ok (.iload 5, 2) := by decide +kernel
theorem dX0_bringTo_9 : decode cX0_bringTo 9 = .ok (.aload_n 0, 1) := by decide +kernel
theorem dX0_bringTo_10 : decode cX0_bringTo 10 = .ok (.getfield 15, 3) := by decide +kernel
theorem dX0_bringTo_13 : decode cX0_bringTo 13 = .ok (.iload_n 2, 1) := by decide +kernel
theorem dX0_bringTo_14 : decode cX0_bringTo 14 = .ok (.iaload, 1) := by decide +kernel
theorem dX0_bringTo_15 : decode cX0_bringTo 15 = .ok (.iadd, 1) := by decide +kernel
theorem dX0_bringTo_16 : decode cX0_bringTo 16 = .ok (.istore 6, 2) := by decide +kernel
theorem dX0_bringTo_18 : decode cX0_bringTo 18 = .ok (.iload_n 2, 1) := by decide +kernel
theorem dX0_bringTo_19 : decode cX0_bringTo 19 = .ok (.istore 7, 2) := by decide +kernel
theorem dX0_bringTo_21 : decode cX0_bringTo 21 = .ok (.iload 7, 2) := by decide +kernel
theorem dX0_bringTo_23 : decode cX0_bringTo 23 = .ok (.ifCond .le 47, 3) := by decide +kernel
theorem dX0_bringTo_26 : decode cX0_bringTo 26 = .ok (.aload_n 0, 1) := by decide +kernel
theorem dX0_bringTo_27 : decode cX0_bringTo 27 = .ok (.getfield 9, 3) := by decide +kernel
theorem dX0_bringTo_30 : decode cX0_bringTo 30 = .ok (.iload 7, 2) := by decide +kernel
theorem dX0_bringTo_32 : decode cX0_bringTo 32 = .ok (.iaload, 1) := by decide +kernel
theorem dX0_bringTo_33 : decode cX0_bringTo 33 = .ok (.iload_n 3, 1) := by decide +kernel
theorem dX0_bringTo_34 : decode cX0_bringTo 34 = .ok (.iadd, 1) := by decide +kernel
theorem dX0_bringTo_35 : decode cX0_bringTo 35 = .ok (.iload 4, 2) := by decide +kernel
theorem dX0_bringTo_37 : decode cX0_bringTo 37 = .ok (.if_icmp .gt 22, 3) := by decide +kernel
theorem dX0_bringTo_40 : decode cX0_bringTo 40 = .ok (.iload 6, 2) := by decide +kernel
theorem dX0_bringTo_42 : decode cX0_bringTo 42 = .ok (.iload 5, 2) := by decide +kernel
theorem dX0_bringTo_44 : decode cX0_bringTo 44 = .ok (.aload_n 0, 1) := by decide +kernel
theorem dX0_bringTo_45 : decode cX0_bringTo 45 = .ok (.getfield 15, 3) := by decide +kernel
theorem dX0_bringTo_48 : decode cX0_bringTo 48 = .ok (.iload_n 2, 1) := by decide +kernel
theorem dX0_bringTo_49 : decode cX0_bringTo 49 = .ok (.iload 7, 2) := by decide +kernel
theorem dX0_bringTo_51 : decode cX0_bringTo 51 = .ok (.ixor, 1) := by decide +kernel
theorem dX0_bringTo_52 : decode cX0_bringTo 52 = .ok (.iaload, 1) := by decide +kernel
theorem dX0_bringTo_53 : decode cX0_bringTo 53 = .ok (.iadd, 1) := by decide +kernel
theorem dX0_bringTo_54 : decode cX0_bringTo 54 = .ok (.invokestatic 18, 3) := by decide +kernel
theorem dX0_bringTo_57 : decode cX0_bringTo 57 = .ok (.istore 6, 2) := by decide +kernel
theorem dX0_bringTo_59 : decode cX0_bringTo 59 = .ok (.iload 7, 2) := by decide +kernel
theorem dX0_bringTo_61 : decode cX0_bringTo 61 = .ok (.iconst 1, 1) := by decide +kernel
theorem dX0_bringTo_62 : decode cX0_bringTo 62 = .ok (.isub, 1) := by decide +kernel
theorem dX0_bringTo_63 : decode cX0_bringTo 63 = .ok (.iload_n 2, 1) := by decide +kernel
theorem dX0_bringTo_64 : decode cX0_bringTo 64 = .ok (.iand, 1) := by decide +kernel
theorem dX0_bringTo_65 : decode cX0_bringTo 65 = .ok (.istore 7, 2) := by decide +kernel
theorem dX0_bringTo_67 : decode cX0_bringTo 67 = .ok (.goto (-46), 3) := by decide +kernel
theorem dX0_bringTo_70 : decode cX0_bringTo 70 = .ok (.aload_n 0, 1) := by decide +kernel
theorem dX0_bringTo_71 : decode cX0_bringTo 71 = .ok (.getfield 9, 3) := by decide +kernel
theorem dX0_bringTo_74 : decode cX0_bringTo 74 = .ok (.iload_n 2, 1) := by decide +kernel
theorem dX0_bringTo_75 : decode cX0_bringTo 75 = .ok (.iconst 1, 1) := by decide +kernel
theorem dX0_bringTo_76 : decode cX0_bringTo 76 = .ok (.iload_n 1, 1) := by decide +kernel
theorem dX0_bringTo_77 : decode cX0_bringTo 77 = .ok (.ishl, 1) := by decide +kernel
theorem dX0_bringTo_78 : decode cX0_bringTo 78 = .ok (.ior, 1) := by decide +kernel
theorem dX0_bringTo_79 : decode cX0_bringTo 79 = .ok (.aload_n 0, 1) := by decide +kernel
theorem dX0_bringTo_80 : decode cX0_bringTo 80 = .ok (.getfield 9, 3) := by decide +kernel
theorem dX0_bringTo_83 : decode cX0_bringTo 83 = .ok (.iload_n 2, 1) := by decide +kernel
theorem dX0_bringTo_84 : decode cX0_bringTo 84 = .ok (.iaload, 1) := by decide +kernel
theorem dX0_bringTo_85 : decode cX0_bringTo 85 = .ok (.iload_n 3, 1) := by decide +kernel
theorem dX0_bringTo_86 : decode cX0_bringTo 86 = .ok (.iadd, 1) := by decide +kernel
theorem dX0_bringTo_87 : decode cX0_bringTo 87 = .ok (.iastore, 1) := by decide +kernel
theorem dX0_bringTo_88 : decode cX0_bringTo 88 = .ok (.aload_n 0, 1) := by decide +kernel
theorem dX0_bringTo_89 : decode cX0_bringTo 89 = .ok (.getfield 15, 3) := by decide +kernel
theorem dX0_bringTo_92 : decode cX0_bringTo 92 = .ok (.iload_n 2, 1) := by decide +kernel
theorem dX0_bringTo_93 : decode cX0_bringTo 93 = .ok (.iconst 1, 1) := by decide +kernel
theorem dX0_bringTo_94 : decode cX0_bringTo 94 = .ok (.iload_n 1, 1) := by decide +kernel
theorem dX0_bringTo_95 : decode cX0_bringTo 95 = .ok (.ishl, 1) := by decide +kernel
theorem dX0_bringTo_96 : decode cX0_bringTo 96 = .ok (.ior, 1) := by decide +kernel
theorem dX0_bringTo_97 : decode cX0_bringTo 97 = .ok (.iload 6, 2) := by decide +kernel
theorem dX0_bringTo_99 : decode cX0_bringTo 99 = .ok (.iastore, 1) := by decide +kernel
theorem dX0_bringTo_100 : decode cX0_bringTo 100 = .ok (.return_, 1) := by decide +kernel
set_option maxRecDepth 20000 in
theorem ggX1_init_X9_init : GoodIn wsX1_init wsX9_init := goodIn_r _ [11, 12, 2, 3, 13, 14, 15, 16, 17, 18, 19, 20, 21] rfl (by decide +kernel)
set_option maxRecDepth 20000 in
theorem gX1_init_X9_init_n11 : GoodIn wsX1_init (wsX9_init) := ggX1_init_X9_init
theorem dX1_init_0 : decode cX1_init 0 = .ok (.aload_n 0, 1) := by decide +kernel
theorem dX1_init_1 : decode cX1_init 1 = .ok (.invokespecial 3, 3) := by decide +kernel
theorem dX1_init_4 : decode cX1_init 4 = .ok (.aload_n 0, 1) := by decide +kernel
theorem dX1_init_5 : decode cX1_init 5 = .ok (.new 9, 3) := by decide +kernel
theorem dX1_init_8 : decode cX1_init 8 = .ok (.dup, 1) := by decide +kernel
theorem dX1_init_9 : decode cX1_init 9 = .ok (.invokespecial 11, 3) := by decide +kernel
theorem dX1_init_12 : decode cX1_init 12 = .ok (.putfield 12, 3) := by decide +kernel
theorem dX1_init_15 : decode cX1_init 15 = .ok (.aload_n 0, 1) := by decide +kernel
theorem dX1_init_16 : decode cX1_init 16 = .ok (.aload_n 1, 1) := by decide +kernel
theorem dX1_init_17 : decode cX1_init 17 = .ok (.putfield 18, 3) := by decide +kernel
theorem dX1_init_20 : decode cX1_init 20 = .ok (.aload_n 0, 1) := by decide +kernel
theorem dX1_init_21 : decode cX1_init 21 = .ok (.aload_n 2, 1) := by decide +kernel
theorem dX1_init_22 : decode cX1_init 22 = .ok (.putfield 22, 3) := by decide +kernel
theorem dX1_init_25 : decode cX1_init 25 = .ok (.return_, 1) := by decide +kernel
set_option maxRecDepth 20000 in
theorem ggX1_goByAt_X2_goByAt : GoodIn wsX1_goByAt wsX2_goByAt := goodIn_r _ [8, 9, 10, 11, 12, 13, 14, 15, 16, 17, 18, 19, 20, 21, 22, 23, 24, 7, 25, 26, 27, 28, 29, 30, 31, 32, 33, 34, 35, 36, 37, 38, 39, 40, 41, 42, 43, 44, 45, 46, 47, 48, 49, 50, 51, 52, 53, 54, 55, 59, 60, 61, 62, 63, 64, 65, 66, 67, 68, 69, 70, 71, 72, 73, 74, 75, 76, 77, 78] rfl (by decide +kernel)
set_option maxRecDepth 20000 in
theorem gX1_goByAt_X2_goByAt : GoodIn wsX1_goByAt (wsV RX1 30 RX2 yX2_goByAt wsX2_goByAt) := goodIn_app (goodIn_of _ (by decide +kernel)) ggX1_goByAt_X2_goByAt
theorem dX1_goByAt_0 : decode cX1_goByAt 0 = .ok (.iconst 0, 1) := by decide +kernel
theorem dX1_goByAt_1 : decode cX1_goByAt 1 = .ok (.istore_n 3, 1) := by decide +kernel
theorem dX1_goByAt_2 : decode cX1_goByAt 2 = .ok (.iload_n 3, 1) := by decide +kernel
theorem dX1_goByAt_3 : decode cX1_goByAt 3 = .ok (.iload_n 2, 1) := by decide +kernel
theorem dX1_goByAt_4 : decode cX1_goByAt 4 = .ok (.if_icmp .ge 31, 3) := by decide +kernel
theorem dX1_goByAt_7 : decode cX1_goByAt 7 = .ok (.aload_n 0, 1) := by decide +kernel
theorem dX1_goByAt_8 : decode cX1_goByAt 8 = .ok (.getfield 22, 3) := by decide +kernel
theorem dX1_goByAt_11 : decode cX1_goByAt 11 = .ok (.aload_n 0, 1) := by decide +kernel
theorem dX1_goByAt_12 : decode cX1_goByAt 12 = .ok (.getfield 12, 3) := by decide +kernel
theorem dX1_goByAt_15 : decode cX1_goByAt 15 = .ok (.iload_n 1, 1) := by decide +kernel
theorem dX1_goByAt_16 : decode cX1_goByAt 16 = .ok (.aload_n 0, 1) := by decide +kernel
theorem dX1_goByAt_17 : decode cX1_goByAt 17 = .ok (.getfield 12, 3) := by decide +kernel
theorem dX1_goByAt_20 : decode cX1_goByAt 20 = .ok (.getfield 26, 3) := by decide +kernel
theorem dX1_goByAt_23 : decode cX1_goByAt 23 = .ok (.iload_n 1, 1) := by decide +kernel
theorem dX1_goByAt_24 : decode cX1_goByAt 24 = .ok (.iaload, 1) := by decide +kernel
theorem dX1_goByAt_25 : decode cX1_goByAt 25 = .ok (.invokevirtual 30, 3) := by decide +kernel
theorem dX1_goByAt_28 : decode cX1_goByAt 28 = .ok (.pop, 1) := by decide +kernel
theorem dX1_goByAt_29 : decode cX1_goByAt 29 = .ok (.iinc 3 1, 3) := by decide +kernel
theorem dX1_goByAt_32 : decode cX1_goByAt 32 = .ok (.goto (-30), 3) := by decide +kernel
theorem dX1_goByAt_35 : decode cX1_goByAt 35 = .ok (.return_, 1) := by decide +kernel
set_option maxRecDepth 20000 in
theorem ggX1_wellBehind_X1_wellBehindFrom : GoodIn wsX1_wellBehind wsX1_wellBehindFrom := goodIn_r _ [6, 7, 1, 8, 9, 10, 11, 12, 13, 14, 15, 16, 17, 18, 19, 20, 21, 22, 5, 23, 24, 25, 26, 27, 28, 29, 30, 31, 32, 33, 34, 35, 36, 37, 38, 39, 40, 41, 42, 43, 44, 45, 46, 47, 48, 49, 50, 51, 52, 53, 54, 55, 56, 57, 58, 59, 60, 61, 62, 63, 64, 65, 66, 67, 68, 69, 70, 71, 72, 73, 74, 75, 81, 82, 83, 76, 77, 78, 79, 80, 84, 85, 86, 87, 88, 89, 90, 91, 92, 93, 94, 95, 96, 97, 98] rfl (by decide +kernel)
set_option maxRecDepth 20000 in
theorem gX1_wellBehind_X1_wellBehindFrom : GoodIn wsX1_wellBehind (wsV RX1 39 RX1 yX1_wellBehindFrom wsX1_wellBehindFrom) := goodIn_app (goodIn_of _ (by decide +kernel)) ggX1_wellBehind_X1_wellBehindFrom
theorem dX1_wellBehind_0 : decode cX1_wellBehind 0 = .ok (.aload_n 0, 1) := by decide +kernel
theorem dX1_wellBehind_1 : decode cX1_wellBehind 1 = .ok (.aload_n 1, 1) := by decide +kernel
theorem dX1_wellBehind_2 : decode cX1_wellBehind 2 = .ok (.iload_n 2, 1) := by decide +kernel
theorem dX1_wellBehind_3 : decode cX1_wellBehind 3 = .ok (.iload_n 3, 1) := by decide +kernel
theorem dX1_wellBehind_4 : decode cX1_wellBehind 4 = .ok (.aload_n 1, 1) := by decide +kernel
theorem dX1_wellBehind_5 : decode cX1_wellBehind 5 = .ok (.getfield 36, 3) := by decide +kernel
theorem dX1_wellBehind_8 : decode cX1_wellBehind 8 = .ok (.iload_n 3, 1) := by decide +kernel
theorem dX1_wellBehind_9 : decode cX1_wellBehind 9 = .ok (.iaload, 1) := by decide +kernel
theorem dX1_wellBehind_10 : decode cX1_wellBehind 10 = .ok (.invokevirtual 39, 3) := by decide +kernel
theorem dX1_wellBehind_13 : decode cX1_wellBehind 13 = .ok (.ireturn, 1) := by decide +kernel
set_option maxRecDepth 20000 in
theorem ggX1_wellBehindFrom_X9_become : GoodIn wsX1_wellBehindFrom wsX9_become := goodIn_r _ [9, 10, 11, 12, 13, 14, 75, 76, 77, 78, 79] rfl (by decide +kernel)
set_option maxRecDepth 20000 in
theorem gX1_wellBehindFrom_X9_become : GoodIn wsX1_wellBehindFrom (wsV RX1 43 RX9 yX9_become wsX9_become) := goodIn_app (goodIn_of _ (by decide +kernel)) ggX1_wellBehindFrom_X9_become
set_option maxRecDepth 20000 in
theorem ggX1_wellBehindFrom_X1_goByAt : GoodIn wsX1_wellBehindFrom wsX1_goByAt := goodIn_r _ [19, 20, 1, 21, 22, 23, 24, 25, 26, 27, 28, 29, 30, 31, 32, 33, 34, 35, 36, 37, 38, 39, 40, 41, 42, 43, 44, 45, 46, 47, 48, 49, 50, 51, 52, 53, 54, 55, 56, 57, 58, 59, 60, 61, 62, 63, 64, 65, 8, 66, 13, 67, 68, 69, 70, 71, 72, 73, 74, 75, 76, 77, 78, 79, 93, 94, 80, 81, 82, 83, 84, 85, 86, 87, 88, 89, 90, 91, 92] rfl (by decide +kernel)
set_option maxRecDepth 20000 in
theorem gX1_wellBehindFrom_X1_goByAt : GoodIn wsX1_wellBehindFrom (wsV RX1 52 RX1 yX1_goByAt wsX1_goByAt) := goodIn_app (goodIn_of _ (by decide +kernel)) ggX1_wellBehindFrom_X1_goByAt
theorem dX1_wellBehindFrom_0 : decode cX1_wellBehindFrom 0 = .ok (.aload_n 0, 1) := by decide +kernel
theorem dX1_wellBehindFrom_1 : decode cX1_wellBehindFrom 1 = .ok (.getfield 12, 3) := by decide +kernel
theorem dX1_wellBehindFrom_4 : decode cX1_wellBehindFrom 4 = .ok (.aload_n 1, 1) := by decide +kernel
theorem dX1_wellBehindFrom_5 : decode cX1_wellBehindFrom 5 = .ok (.invokevirtual 43, 3) := by decide +kernel
theorem dX1_wellBehindFrom_8 : decode cX1_wellBehindFrom 8 = .ok (.aload_n 0, 1) := by decide +kernel
theorem dX1_wellBehindFrom_9 : decode cX1_wellBehindFrom 9 = .ok (.getfield 12, 3) := by decide +kernel
theorem dX1_wellBehindFrom_12 : decode cX1_wellBehindFrom 12 = .ok (.getfield 36, 3) := by decide +kernel
theorem dX1_wellBehindFrom_15 : decode cX1_wellBehindFrom 15 = .ok (.iload_n 3, 1) := by decide +kernel
theorem dX1_wellBehindFrom_16 : decode cX1_wellBehindFrom 16 = .ok (.iload 4, 2) := by decide +kernel
theorem dX1_wellBehindFrom_18 : decode cX1_wellBehindFrom 18 = .ok (.iastore, 1) := by decide +kernel
theorem dX1_wellBehindFrom_19 : decode cX1_wellBehindFrom 19 = .ok (.aload_n 0, 1) := by decide +kernel
theorem dX1_wellBehindFrom_20 : decode cX1_wellBehindFrom 20 = .ok (.aload_n 0, 1) := by decide +kernel
theorem dX1_wellBehindFrom_21 : decode cX1_wellBehindFrom 21 = .ok (.getfield 18, 3) := by decide +kernel
theorem dX1_wellBehindFrom_24 : decode cX1_wellBehindFrom 24 = .ok (.getfield 47, 3) := by decide +kernel
theorem dX1_wellBehindFrom_27 : decode cX1_wellBehindFrom 27 = .ok (.iload_n 3, 1) := by decide +kernel
theorem dX1_wellBehindFrom_28 : decode cX1_wellBehindFrom 28 = .ok (.iaload, 1) := by decide +kernel
theorem dX1_wellBehindFrom_29 : decode cX1_wellBehindFrom 29 = .ok (.iload_n 2, 1) := by decide +kernel
theorem dX1_wellBehindFrom_30 : decode cX1_wellBehindFrom 30 = .ok (.invokevirtual 52, 3) := by decide +kernel
theorem dX1_wellBehindFrom_33 : decode cX1_wellBehindFrom 33 = .ok (.aload_n 0, 1) := by decide +kernel
theorem dX1_wellBehindFrom_34 : decode cX1_wellBehindFrom 34 = .ok (.getfield 12, 3) := by decide +kernel
theorem dX1_wellBehindFrom_37 : decode cX1_wellBehindFrom 37 = .ok (.getfield 36, 3) := by decide +kernel
theorem dX1_wellBehindFrom_40 : decode cX1_wellBehindFrom 40 = .ok (.iload_n 3, 1) := by decide +kernel
theorem dX1_wellBehindFrom_41 : decode cX1_wellBehindFrom 41 = .ok (.iaload, 1) := by decide +kernel
theorem dX1_wellBehindFrom_42 : decode cX1_wellBehindFrom 42 = .ok (.ireturn, 1) := by decide +kernel
set_option maxRecDepth 20000 in
theorem ggX1_daysToGo_X9_become : GoodIn wsX1_daysToGo wsX9_become := goodIn_r _ [9, 10, 11, 12, 13, 14, 75, 76, 77, 78, 79] rfl (by decide +kernel)
set_option maxRecDepth 20000 in
theorem gX1_daysToGo_X9_become : GoodIn wsX1_daysToGo (wsV RX1 43 RX9 yX9_become wsX9_become) := goodIn_app (goodIn_of _ (by decide +kernel)) ggX1_daysToGo_X9_become
set_option maxRecDepth 20000 in
theorem ggX1_daysToGo_X1_goByAt : GoodIn wsX1_daysToGo wsX1_goByAt := goodIn_r _ [19, 20, 1, 21, 22, 23, 24, 25, 26, 27, 28, 29, 30, 31, 32, 33, 34, 35, 36, 37, 38, 39, 40, 41, 42, 43, 44, 45, 46, 47, 48, 49, 50, 51, 52, 53, 54, 55, 56, 57, 58, 59, 60, 61, 62, 63, 64, 65, 8, 66, 13, 67, 68, 69, 70, 71, 72, 73, 74, 75, 76, 77, 78, 79, 93, 94, 80, 81, 82, 83, 84, 85, 86, 87, 88, 89, 90, 91, 92] rfl (by decide +kernel)
set_option maxRecDepth 20000 in
theorem gX1_daysToGo_X1_goByAt : GoodIn wsX1_daysToGo (wsV RX1 52 RX1 yX1_goByAt wsX1_goByAt) := goodIn_app (goodIn_of _ (by decide +kernel)) ggX1_daysToGo_X1_goByAt
theorem dX1_daysToGo_0 : decode cX1_daysToGo 0 = .ok (.aload_n 0, 1) := by decide +kernel
theorem dX1_daysToGo_1 : decode cX1_daysToGo 1 = .ok (.getfield 12, 3) := by decide +kernel
theorem dX1_daysToGo_4 : decode cX1_daysToGo 4 = .ok (.aload_n 1, 1) := by decide +kernel
theorem dX1_daysToGo_5 : decode cX1_daysToGo 5 = .ok (.invokevirtual 43, 3) := by decide +kernel
theorem dX1_daysToGo_8 : decode cX1_daysToGo 8 = .ok (.iconst 0, 1) := by decide +kernel
theorem dX1_daysToGo_9 : decode cX1_daysToGo 9 = .ok (.istore_n 3, 1) := by decide +kernel
theorem dX1_daysToGo_10 : decode cX1_daysToGo 10 = .ok (.iload_n 3, 1) := by decide +kernel
theorem dX1_daysToGo_11 : decode cX1_daysToGo 11 = .ok (.bipush 60, 2) := by decide +kernel
theorem dX1_daysToGo_13 : decode cX1_daysToGo 13 = .ok (.if_icmp .gt 37, 3) := by decide +kernel
theorem dX1_daysToGo_16 : decode cX1_daysToGo 16 = .ok (.aload_n 0, 1) := by decide +kernel
theorem dX1_daysToGo_17 : decode cX1_daysToGo 17 = .ok (.getfield 12, 3) := by decide +kernel
theorem dX1_daysToGo_20 : decode cX1_daysToGo 20 = .ok (.getfield 36, 3) := by decide +kernel
theorem dX1_daysToGo_23 : decode cX1_daysToGo 23 = .ok (.iload_n 2, 1) := by decide +kernel
theorem dX1_daysToGo_24 : decode cX1_daysToGo 24 = .ok (.iaload, 1) := by decide +kernel
theorem dX1_daysToGo_25 : decode cX1_daysToGo 25 = .ok (.ifCond .ne 5, 3) := by decide +kernel
theorem dX1_daysToGo_28 : decode cX1_daysToGo 28 = .ok (.iload_n 3, 1) := by decide +kernel
theorem dX1_daysToGo_29 : decode cX1_daysToGo 29 = .ok (.ireturn, 1) := by decide +kernel
theorem dX1_daysToGo_30 : decode cX1_daysToGo 30 = .ok (.aload_n 0, 1) := by decide +kernel
theorem dX1_daysToGo_31 : decode cX1_daysToGo 31 = .ok (.aload_n 0, 1) := by decide +kernel
theorem dX1_daysToGo_32 : decode cX1_daysToGo 32 = .ok (.getfield 18, 3) := by decide +kernel
theorem dX1_daysToGo_35 : decode cX1_daysToGo 35 = .ok (.getfield 47, 3) := by decide +kernel
theorem dX1_daysToGo_38 : decode cX1_daysToGo 38 = .ok (.iload_n 2, 1) := by decide +kernel
theorem dX1_daysToGo_39 : decode cX1_daysToGo 39 = .ok (.iaload, 1) := by decide +kernel
theorem dX1_daysToGo_40 : decode cX1_daysToGo 40 = .ok (.iconst 1, 1) := by decide +kernel
theorem dX1_daysToGo_41 : decode cX1_daysToGo 41 = .ok (.invokevirtual 52, 3) := by decide +kernel
theorem dX1_daysToGo_44 : decode cX1_daysToGo 44 = .ok (.iinc 3 1, 3) := by decide +kernel
theorem dX1_daysToGo_47 : decode cX1_daysToGo 47 = .ok (.goto (-37), 3) := by decide +kernel
theorem dX1_daysToGo_50 : decode cX1_daysToGo 50 = .ok (.bipush (-4), 2) := by decide +kernel
theorem dX1_daysToGo_52 : decode cX1_daysToGo 52 = .ok (.ireturn, 1) := by decide +kernel
set_option maxRecDepth 20000 in
theorem ggX1_leastFor_X2_notGoneAt : GoodIn wsX1_leastFor wsX2_notGoneAt := goodIn_r _ [8, 9, 10, 11, 12, 78, 79, 80, 81, 82, 83, 84, 85, 86, 87, 88, 89, 90, 91, 92, 73, 74, 75, 76, 77] rfl (by decide +kernel)
set_option maxRecDepth 20000 in
theorem gX1_leastFor_X2_notGoneAt : GoodIn wsX1_leastFor (wsV RX1 55 RX2 yX2_notGoneAt wsX2_notGoneAt) := goodIn_app (goodIn_of _ (by decide +kernel)) ggX1_leastFor_X2_notGoneAt
set_option maxRecDepth 20000 in
theorem ggX1_leastFor_X9_become : GoodIn wsX1_leastFor wsX9_become := goodIn_r _ [17, 18, 19, 20, 21, 22, 73, 74, 75, 76, 77] rfl (by decide +kernel)
set_option maxRecDepth 20000 in
theorem gX1_leastFor_X9_become : GoodIn wsX1_leastFor (wsV RX1 43 RX9 yX9_become wsX9_become) := goodIn_app (goodIn_of _ (by decide +kernel)) ggX1_leastFor_X9_become
set_option maxRecDepth 20000 in
theorem ggX1_leastFor_X1_goByAt : GoodIn wsX1_leastFor wsX1_goByAt := goodIn_r _ [27, 1, 2, 3, 28, 29, 30, 7, 31, 32, 9, 10, 11, 12, 33, 34, 35, 36, 37, 38, 39, 40, 41, 42, 43, 44, 45, 46, 5, 6, 8, 47, 48, 49, 50, 51, 52, 53, 54, 55, 56, 57, 58, 59, 60, 61, 62, 63, 16, 64, 21, 65, 66, 67, 68, 69, 70, 71, 72, 73, 74, 75, 76, 77, 78, 79, 80, 81, 82, 83, 84, 85, 86, 87, 88, 89, 90, 91, 92] rfl (by decide +kernel)
set_option maxRecDepth 20000 in
theorem gX1_leastFor_X1_goByAt : GoodIn wsX1_leastFor (wsV RX1 52 RX1 yX1_goByAt wsX1_goByAt) := goodIn_app (goodIn_of _ (by decide +kernel)) ggX1_leastFor_X1_goByAt
theorem dX1_leastFor_0 : decode cX1_leastFor 0 = .ok (.aload_n 0, 1) := by decide +kernel
theorem dX1_leastFor_1 : decode cX1_leastFor 1 = .ok (.getfield 22, 3) := by decide +kernel
theorem dX1_leastFor_4 : decode cX1_leastFor 4 = .ok (.aload_n 1, 1) := by decide +kernel
theorem dX1_leastFor_5 : decode cX1_leastFor 5 = .ok (.iload_n 2, 1) := by decide +kernel
theorem dX1_leastFor_6 : decode cX1_leastFor 6 = .ok (.invokevirtual 55, 3) := by decide +kernel
theorem dX1_leastFor_9 : decode cX1_leastFor 9 = .ok (.istore 4, 2) := by decide +kernel
theorem dX1_leastFor_11 : decode cX1_leastFor 11 = .ok (.iconst 0, 1) := by decide +kernel
theorem dX1_leastFor_12 : decode cX1_leastFor 12 = .ok (.istore 5, 2) := by decide +kernel
theorem dX1_leastFor_14 : decode cX1_leastFor 14 = .ok (.iload 5, 2) := by decide +kernel
theorem dX1_leastFor_16 : decode cX1_leastFor 16 = .ok (.bipush 40, 2) := by decide +kernel
theorem dX1_leastFor_18 : decode cX1_leastFor 18 = .ok (.if_icmp .gt 54, 3) := by decide +kernel
theorem dX1_leastFor_21 : decode cX1_leastFor 21 = .ok (.aload_n 0, 1) := by decide +kernel
theorem dX1_leastFor_22 : decode cX1_leastFor 22 = .ok (.getfield 12, 3) := by decide +kernel
theorem dX1_leastFor_25 : decode cX1_leastFor 25 = .ok (.aload_n 1, 1) := by decide +kernel
theorem dX1_leastFor_26 : decode cX1_leastFor 26 = .ok (.invokevirtual 43, 3) := by decide +kernel
theorem dX1_leastFor_29 : decode cX1_leastFor 29 = .ok (.aload_n 0, 1) := by decide +kernel
theorem dX1_leastFor_30 : decode cX1_leastFor 30 = .ok (.getfield 12, 3) := by decide +kernel
theorem dX1_leastFor_33 : decode cX1_leastFor 33 = .ok (.getfield 26, 3) := by decide +kernel
theorem dX1_leastFor_36 : decode cX1_leastFor 36 = .ok (.iload_n 2, 1) := by decide +kernel
theorem dX1_leastFor_37 : decode cX1_leastFor 37 = .ok (.iload 5, 2) := by decide +kernel
theorem dX1_leastFor_39 : decode cX1_leastFor 39 = .ok (.iastore, 1) := by decide +kernel
theorem dX1_leastFor_40 : decode cX1_leastFor 40 = .ok (.aload_n 0, 1) := by decide +kernel
theorem dX1_leastFor_41 : decode cX1_leastFor 41 = .ok (.iload_n 2, 1) := by decide +kernel
theorem dX1_leastFor_42 : decode cX1_leastFor 42 = .ok (.iload_n 3, 1) := by decide +kernel
theorem dX1_leastFor_43 : decode cX1_leastFor 43 = .ok (.invokevirtual 52, 3) := by decide +kernel
theorem dX1_leastFor_46 : decode cX1_leastFor 46 = .ok (.aload_n 0, 1) := by decide +kernel
theorem dX1_leastFor_47 : decode cX1_leastFor 47 = .ok (.getfield 22, 3) := by decide +kernel
theorem dX1_leastFor_50 : decode cX1_leastFor 50 = .ok (.aload_n 0, 1) := by decide +kernel
theorem dX1_leastFor_51 : decode cX1_leastFor 51 = .ok (.getfield 12, 3) := by decide +kernel
theorem dX1_leastFor_54 : decode cX1_leastFor 54 = .ok (.iload_n 2, 1) := by decide +kernel
theorem dX1_leastFor_55 : decode cX1_leastFor 55 = .ok (.invokevirtual 55, 3) := by decide +kernel
theorem dX1_leastFor_58 : decode cX1_leastFor 58 = .ok (.iload 4, 2) := by decide +kernel
theorem dX1_leastFor_60 : decode cX1_leastFor 60 = .ok (.if_icmp .ne 6, 3) := by decide +kernel
theorem dX1_leastFor_63 : decode cX1_leastFor 63 = .ok (.iload 5, 2) := by decide +kernel
theorem dX1_leastFor_65 : decode cX1_leastFor 65 = .ok (.ireturn, 1) := by decide +kernel
theorem dX1_leastFor_66 : decode cX1_leastFor 66 = .ok (.iinc 5 1, 3) := by decide +kernel
theorem dX1_leastFor_69 : decode cX1_leastFor 69 = .ok (.goto (-55), 3) := by decide +kernel
theorem dX1_leastFor_72 : decode cX1_leastFor 72 = .ok (.bipush (-4), 2) := by decide +kernel
theorem dX1_leastFor_74 : decode cX1_leastFor 74 = .ok (.ireturn, 1) := by decide +kernel
set_option maxRecDepth 20000 in
theorem ggX1_helper_X9_hasQuarrelled : GoodIn wsX1_helper wsX9_hasQuarrelled := goodIn_r _ [8, 9, 10, 11, 12, 103, 104, 105, 106, 107] rfl (by decide +kernel)
set_option maxRecDepth 20000 in
theorem gX1_helper_X9_hasQuarrelled : GoodIn wsX1_helper (wsV RX1 63 RX9 yX9_hasQuarrelled wsX9_hasQuarrelled) := goodIn_app (goodIn_of _ (by decide +kernel)) ggX1_helper_X9_hasQuarrelled
set_option maxRecDepth 20000 in
theorem ggX1_helper_X1_othersKeptBy : GoodIn wsX1_helper wsX1_othersKeptBy := goodIn_r _ [17, 18, 19, 3, 20, 21, 22, 7, 23, 24, 25, 26, 9, 27, 28, 29, 30, 31, 32, 33, 34, 35, 36, 37, 38, 39, 40, 41, 42, 43, 44, 45, 46, 47, 48, 49, 50, 51, 52, 53, 54, 55, 56, 57, 58, 59, 60, 61, 62, 63, 64, 65, 66, 67, 68, 69, 10, 11, 12, 70, 71, 72, 73, 74, 75, 76, 77, 5, 6, 8, 78, 79, 80, 81, 82, 83, 84, 85, 86, 87, 88, 89, 103, 104, 105, 106, 107, 108, 109, 90, 91, 92, 93, 94, 95, 96, 97, 98, 99, 100, 101, 102] rfl (by decide +kernel)
set_option maxRecDepth 20000 in
theorem gX1_helper_X1_othersKeptBy : GoodIn wsX1_helper (wsV RX1 67 RX1 yX1_othersKeptBy wsX1_othersKeptBy) := goodIn_app (goodIn_of _ (by decide +kernel)) ggX1_helper_X1_othersKeptBy
theorem dX1_helper_0 : decode cX1_helper 0 = .ok (.bipush (-4), 2) := by decide +kernel
theorem dX1_helper_2 : decode cX1_helper 2 = .ok (.istore_n 2, 1) := by decide +kernel
theorem dX1_helper_3 : decode cX1_helper 3 = .ok (.iconst (-1), 1) := by decide +kernel
theorem dX1_helper_4 : decode cX1_helper 4 = .ok (.istore_n 3, 1) := by decide +kernel
theorem dX1_helper_5 : decode cX1_helper 5 = .ok (.iconst 0, 1) := by decide +kernel
theorem dX1_helper_6 : decode cX1_helper 6 = .ok (.istore 4, 2) := by decide +kernel
theorem dX1_helper_8 : decode cX1_helper 8 = .ok (.iload 4, 2) := by decide +kernel
theorem dX1_helper_10 : decode cX1_helper 10 = .ok (.aload_n 0, 1) := by decide +kernel
theorem dX1_helper_11 : decode cX1_helper 11 = .ok (.getfield 18, 3) := by decide +kernel
theorem dX1_helper_14 : decode cX1_helper 14 = .ok (.getfield 59, 3) := by decide +kernel
theorem dX1_helper_17 : decode cX1_helper 17 = .ok (.if_icmp .ge 52, 3) := by decide +kernel
theorem dX1_helper_20 : decode cX1_helper 20 = .ok (.aload_n 1, 1) := by decide +kernel
theorem dX1_helper_21 : decode cX1_helper 21 = .ok (.getfield 36, 3) := by decide +kernel
theorem dX1_helper_24 : decode cX1_helper 24 = .ok (.iload 4, 2) := by decide +kernel
theorem dX1_helper_26 : decode cX1_helper 26 = .ok (.iaload, 1) := by decide +kernel
theorem dX1_helper_27 : decode cX1_helper 27 = .ok (.ifCond .eq 36, 3) := by decide +kernel
theorem dX1_helper_30 : decode cX1_helper 30 = .ok (.aload_n 1, 1) := by decide +kernel
theorem dX1_helper_31 : decode cX1_helper 31 = .ok (.iload 4, 2) := by decide +kernel
theorem dX1_helper_33 : decode cX1_helper 33 = .ok (.invokevirtual 63, 3) := by decide +kernel
theorem dX1_helper_36 : decode cX1_helper 36 = .ok (.ifCond .eq 6, 3) := by decide +kernel
theorem dX1_helper_39 : decode cX1_helper 39 = .ok (.goto 24, 3) := by decide +kernel
theorem dX1_helper_42 : decode cX1_helper 42 = .ok (.aload_n 0, 1) := by decide +kernel
theorem dX1_helper_43 : decode cX1_helper 43 = .ok (.aload_n 1, 1) := by decide +kernel
theorem dX1_helper_44 : decode cX1_helper 44 = .ok (.iload 4, 2) := by decide +kernel
theorem dX1_helper_46 : decode cX1_helper 46 = .ok (.invokevirtual 67, 3) := by decide +kernel
theorem dX1_helper_49 : decode cX1_helper 49 = .ok (.istore 5, 2) := by decide +kernel
theorem dX1_helper_51 : decode cX1_helper 51 = .ok (.iload 5, 2) := by decide +kernel
theorem dX1_helper_53 : decode cX1_helper 53 = .ok (.iload_n 3, 1) := by decide +kernel
theorem dX1_helper_54 : decode cX1_helper 54 = .ok (.if_icmp .le 9, 3) := by decide +kernel
theorem dX1_helper_57 : decode cX1_helper 57 = .ok (.iload 5, 2) := by decide +kernel
theorem dX1_helper_59 : decode cX1_helper 59 = .ok (.istore_n 3, 1) := by decide +kernel
theorem dX1_helper_60 : decode cX1_helper 60 = .ok (.iload 4, 2) := by decide +kernel
theorem dX1_helper_62 : decode cX1_helper 62 = .ok (.istore_n 2, 1) := by decide +kernel
theorem dX1_helper_63 : decode cX1_helper 63 = .ok (.iinc 4 1, 3) := by decide +kernel
theorem dX1_helper_66 : decode cX1_helper 66 = .ok (.goto (-58), 3) := by decide +kernel
theorem dX1_helper_69 : decode cX1_helper 69 = .ok (.iload_n 2, 1) := by decide +kernel
theorem dX1_helper_70 : decode cX1_helper 70 = .ok (.ireturn, 1) := by decide +kernel
set_option maxRecDepth 20000 in
theorem ggX1_othersKeptBy_X9_become : GoodIn wsX1_othersKeptBy wsX9_become := goodIn_r _ [8, 9, 10, 11, 12, 13, 82, 83, 84, 85, 86] rfl (by decide +kernel)
set_option maxRecDepth 20000 in
theorem gX1_othersKeptBy_X9_become : GoodIn wsX1_othersKeptBy (wsV RX1 43 RX9 yX9_become wsX9_become) := goodIn_app (goodIn_of _ (by decide +kernel)) ggX1_othersKeptBy_X9_become
set_option maxRecDepth 20000 in
theorem ggX1_othersKeptBy_X9_turn : GoodIn wsX1_othersKeptBy wsX9_turn := goodIn_r _ [17, 12, 82, 83, 84, 85, 86] rfl (by decide +kernel)
set_option maxRecDepth 20000 in
theorem gX1_othersKeptBy_X9_turn : GoodIn wsX1_othersKeptBy (wsV RX1 70 RX9 yX9_turn wsX9_turn) := goodIn_app (goodIn_of _ (by decide +kernel)) ggX1_othersKeptBy_X9_turn
set_option maxRecDepth 20000 in
theorem ggX1_othersKeptBy_X2_goBy : GoodIn wsX1_othersKeptBy wsX2_goBy := goodIn_r _ [22, 23, 24, 25, 26, 27, 28, 29, 21, 30, 31, 32, 33, 34, 35, 36, 37, 38, 39, 40, 41, 42, 43, 44, 45, 46, 47, 48, 49, 50, 51, 52, 53, 54, 55, 56, 57, 58, 59, 60, 61, 62, 63, 64, 65, 66, 67, 68, 7, 69, 12, 70, 71, 72, 73, 74, 87, 88, 89, 90, 91, 92, 93, 94, 95, 96, 97, 98, 99, 100, 101, 82, 83, 84, 85, 86] rfl (by decide +kernel)
set_option maxRecDepth 20000 in
theorem gX1_othersKeptBy_X2_goBy : GoodIn wsX1_othersKeptBy (wsV RX1 74 RX2 yX2_goBy wsX2_goBy) := goodIn_app (goodIn_of _ (by decide +kernel)) ggX1_othersKeptBy_X2_goBy
set_option maxRecDepth 20000 in
theorem ggX1_othersKeptBy_X9_notGone : GoodIn wsX1_othersKeptBy wsX9_notGone := goodIn_r _ [78, 11, 82, 83, 84, 85, 86] rfl (by decide +kernel)
set_option maxRecDepth 20000 in
theorem gX1_othersKeptBy_X9_notGone : GoodIn wsX1_othersKeptBy (wsV RX1 78 RX9 yX9_notGone wsX9_notGone) := goodIn_app (goodIn_of _ (by decide +kernel)) ggX1_othersKeptBy_X9_notGone
theorem dX1_othersKeptBy_0 : decode cX1_othersKeptBy 0 = .ok (.aload_n 0, 1) := by decide +kernel
theorem dX1_othersKeptBy_1 : decode cX1_othersKeptBy 1 = .ok (.getfield 12, 3) := by decide +kernel
theorem dX1_othersKeptBy_4 : decode cX1_othersKeptBy 4 = .ok (.aload_n 1, 1) := by decide +kernel
theorem dX1_othersKeptBy_5 : decode cX1_othersKeptBy 5 = .ok (.invokevirtual 43, 3) := by decide +kernel
theorem dX1_othersKeptBy_8 : decode cX1_othersKeptBy 8 = .ok (.aload_n 0, 1) := by decide +kernel
theorem dX1_othersKeptBy_9 : decode cX1_othersKeptBy 9 = .ok (.getfield 12, 3) := by decide +kernel
theorem dX1_othersKeptBy_12 : decode cX1_othersKeptBy 12 = .ok (.iload_n 2, 1) := by decide +kernel
theorem dX1_othersKeptBy_13 : decode cX1_othersKeptBy 13 = .ok (.invokevirtual 70, 3) := by decide +kernel
theorem dX1_othersKeptBy_16 : decode cX1_othersKeptBy 16 = .ok (.iconst 0, 1) := by decide +kernel
theorem dX1_othersKeptBy_17 : decode cX1_othersKeptBy 17 = .ok (.istore_n 3, 1) := by decide +kernel
theorem dX1_othersKeptBy_18 : decode cX1_othersKeptBy 18 = .ok (.iload_n 3, 1) := by decide +kernel
theorem dX1_othersKeptBy_19 : decode cX1_othersKeptBy 19 = .ok (.bipush 10, 2) := by decide +kernel
theorem dX1_othersKeptBy_21 : decode cX1_othersKeptBy 21 = .ok (.if_icmp .ge 21, 3) := by decide +kernel
theorem dX1_othersKeptBy_24 : decode cX1_othersKeptBy 24 = .ok (.aload_n 0, 1) := by decide +kernel
theorem dX1_othersKeptBy_25 : decode cX1_othersKeptBy 25 = .ok (.getfield 22, 3) := by decide +kernel
theorem dX1_othersKeptBy_28 : decode cX1_othersKeptBy 28 = .ok (.aload_n 0, 1) := by decide +kernel
theorem dX1_othersKeptBy_29 : decode cX1_othersKeptBy 29 = .ok (.getfield 12, 3) := by decide +kernel
theorem dX1_othersKeptBy_32 : decode cX1_othersKeptBy 32 = .ok (.invokevirtual 74, 3) := by decide +kernel
theorem dX1_othersKeptBy_35 : decode cX1_othersKeptBy 35 = .ok (.pop, 1) := by decide +kernel
theorem dX1_othersKeptBy_36 : decode cX1_othersKeptBy 36 = .ok (.iinc 3 1, 3) := by decide +kernel
theorem dX1_othersKeptBy_39 : decode cX1_othersKeptBy 39 = .ok (.goto (-21), 3) := by decide +kernel
theorem dX1_othersKeptBy_42 : decode cX1_othersKeptBy 42 = .ok (.aload_n 0, 1) := by decide +kernel
theorem dX1_othersKeptBy_43 : decode cX1_othersKeptBy 43 = .ok (.getfield 12, 3) := by decide +kernel
theorem dX1_othersKeptBy_46 : decode cX1_othersKeptBy 46 = .ok (.invokevirtual 78, 3) := by decide +kernel
theorem dX1_othersKeptBy_49 : decode cX1_othersKeptBy 49 = .ok (.aload_n 0, 1) := by decide +kernel
theorem dX1_othersKeptBy_50 : decode cX1_othersKeptBy 50 = .ok (.getfield 12, 3) := by decide +kernel
theorem dX1_othersKeptBy_53 : decode cX1_othersKeptBy 53 = .ok (.getfield 36, 3) := by decide +kernel
theorem dX1_othersKeptBy_56 : decode cX1_othersKeptBy 56 = .ok (.iload_n 2, 1) := by decide +kernel
theorem dX1_othersKeptBy_57 : decode cX1_othersKeptBy 57 = .ok (.iaload, 1) := by decide +kernel
theorem dX1_othersKeptBy_58 : decode cX1_othersKeptBy 58 = .ok (.ifCond .le 7, 3) := by decide +kernel
theorem dX1_othersKeptBy_61 : decode cX1_othersKeptBy 61 = .ok (.iconst 1, 1) := by decide +kernel
theorem dX1_othersKeptBy_62 : decode cX1_othersKeptBy 62 = .ok (.goto 4, 3) := by decide +kernel
theorem dX1_othersKeptBy_65 : decode cX1_othersKeptBy 65 = .ok (.iconst 0, 1) := by decide +kernel
theorem dX1_othersKeptBy_66 : decode cX1_othersKeptBy 66 = .ok (.isub, 1) := by decide +kernel
theorem dX1_othersKeptBy_67 : decode cX1_othersKeptBy 67 = .ok (.ireturn, 1) := by decide +kernel
set_option maxRecDepth 20000 in
theorem ggX1_leftOverInYear_X9_become : GoodIn wsX1_leftOverInYear wsX9_become := goodIn_r _ [10, 11, 12, 13, 14, 15, 92, 93, 94, 95, 96] rfl (by decide +kernel)
set_option maxRecDepth 20000 in
theorem gX1_leftOverInYear_X9_become : GoodIn wsX1_leftOverInYear (wsV RX1 43 RX9 yX9_become wsX9_become) := goodIn_app (goodIn_of _ (by decide +kernel)) ggX1_leftOverInYear_X9_become
set_option maxRecDepth 20000 in
theorem ggX1_leftOverInYear_X1_act : GoodIn wsX1_leftOverInYear wsX1_act := goodIn_r _ [20, 1, 21, 22, 23, 24, 25, 26, 27, 28, 29, 30, 31, 9, 32, 14, 89, 90, 91, 92, 93, 94, 95, 96, 97, 98, 99, 100, 101, 102, 103, 104, 105, 106, 107, 108, 109] rfl (by decide +kernel)
set_option maxRecDepth 20000 in
theorem gX1_leftOverInYear_X1_act : GoodIn wsX1_leftOverInYear (wsV RX1 88 RX1 yX1_act wsX1_act) := goodIn_app (goodIn_of _ (by decide +kernel)) ggX1_leftOverInYear_X1_act
set_option maxRecDepth 20000 in
theorem ggX1_leftOverInYear_X2_goBy : GoodIn wsX1_leftOverInYear wsX2_goBy := goodIn_r _ [37, 38, 39, 40, 41, 42, 43, 44, 36, 45, 46, 47, 48, 49, 50, 51, 52, 53, 54, 55, 56, 57, 58, 59, 60, 61, 62, 63, 64, 65, 66, 67, 68, 69, 70, 71, 27, 72, 73, 74, 75, 76, 77, 78, 79, 80, 81, 82, 9, 83, 14, 84, 85, 86, 87, 88, 110, 111, 97, 98, 99, 100, 101, 102, 103, 104, 105, 106, 107, 108, 109, 92, 93, 94, 95, 96] rfl (by decide +kernel)
set_option maxRecDepth 20000 in
theorem gX1_leftOverInYear_X2_goBy : GoodIn wsX1_leftOverInYear (wsV RX1 74 RX2 yX2_goBy wsX2_goBy) := goodIn_app (goodIn_of _ (by decide +kernel)) ggX1_leftOverInYear_X2_goBy
theorem dX1_leftOverInYear_0 : decode cX1_leftOverInYear 0 = .ok (.aload_n 0, 1) := by decide +kernel
theorem dX1_leftOverInYear_1 : decode cX1_leftOverInYear 1 = .ok (.getfield 12, 3) := by decide +kernel
theorem dX1_leftOverInYear_4 : decode cX1_leftOverInYear 4 = .ok (.aload_n 1, 1) := by decide +kernel
theorem dX1_leftOverInYear_5 : decode cX1_leftOverInYear 5 = .ok (.invokevirtual 43, 3) := by decide +kernel
theorem dX1_leftOverInYear_8 : decode cX1_leftOverInYear 8 = .ok (.iconst 0, 1) := by decide +kernel
theorem dX1_leftOverInYear_9 : decode cX1_leftOverInYear 9 = .ok (.istore 4, 2) := by decide +kernel
theorem dX1_leftOverInYear_11 : decode cX1_leftOverInYear 11 = .ok (.iconst 0, 1) := by decide +kernel
theorem dX1_leftOverInYear_12 : decode cX1_leftOverInYear 12 = .ok (.istore 5, 2) := by decide +kernel
theorem dX1_leftOverInYear_14 : decode cX1_leftOverInYear 14 = .ok (.iload 5, 2) := by decide +kernel
theorem dX1_leftOverInYear_16 : decode cX1_leftOverInYear 16 = .ok (.iload_n 3, 1) := by decide +kernel
theorem dX1_leftOverInYear_17 : decode cX1_leftOverInYear 17 = .ok (.if_icmp .ge 57, 3) := by decide +kernel
theorem dX1_leftOverInYear_20 : decode cX1_leftOverInYear 20 = .ok (.ldc2_w 82, 3) := by decide +kernel
theorem dX1_leftOverInYear_23 : decode cX1_leftOverInYear 23 = .ok (.iload_n 2, 1) := by decide +kernel
theorem dX1_leftOverInYear_24 : decode cX1_leftOverInYear 24 = .ok (.i2l, 1) := by decide +kernel
theorem dX1_leftOverInYear_25 : decode cX1_leftOverInYear 25 = .ok (.lmul, 1) := by decide +kernel
theorem dX1_leftOverInYear_26 : decode cX1_leftOverInYear 26 = .ok (.ldc2_w 84, 3) := by decide +kernel
theorem dX1_leftOverInYear_29 : decode cX1_leftOverInYear 29 = .ok (.iload 5, 2) := by decide +kernel
theorem dX1_leftOverInYear_31 : decode cX1_leftOverInYear 31 = .ok (.i2l, 1) := by decide +kernel
theorem dX1_leftOverInYear_32 : decode cX1_leftOverInYear 32 = .ok (.lmul, 1) := by decide +kernel
theorem dX1_leftOverInYear_33 : decode cX1_leftOverInYear 33 = .ok (.ladd, 1) := by decide +kernel
theorem dX1_leftOverInYear_34 : decode cX1_leftOverInYear 34 = .ok (.lconst 1, 1) := by decide +kernel
theorem dX1_leftOverInYear_35 : decode cX1_leftOverInYear 35 = .ok (.ladd, 1) := by decide +kernel
theorem dX1_leftOverInYear_36 : decode cX1_leftOverInYear 36 = .ok (.lstore 6, 2) := by decide +kernel
theorem dX1_leftOverInYear_38 : decode cX1_leftOverInYear 38 = .ok (.aload_n 0, 1) := by decide +kernel
theorem dX1_leftOverInYear_39 : decode cX1_leftOverInYear 39 = .ok (.lload 6, 2) := by decide +kernel
theorem dX1_leftOverInYear_41 : decode cX1_leftOverInYear 41 = .ok (.lload 6, 2) := by decide +kernel
theorem dX1_leftOverInYear_43 : decode cX1_leftOverInYear 43 = .ok (.lmul, 1) := by decide +kernel
theorem dX1_leftOverInYear_44 : decode cX1_leftOverInYear 44 = .ok (.ldc2_w 86, 3) := by decide +kernel
theorem dX1_leftOverInYear_47 : decode cX1_leftOverInYear 47 = .ok (.lrem, 1) := by decide +kernel
theorem dX1_leftOverInYear_48 : decode cX1_leftOverInYear 48 = .ok (.l2i, 1) := by decide +kernel
theorem dX1_leftOverInYear_49 : decode cX1_leftOverInYear 49 = .ok (.invokevirtual 88, 3) := by decide +kernel
theorem dX1_leftOverInYear_52 : decode cX1_leftOverInYear 52 = .ok (.iload 4, 2) := by decide +kernel
theorem dX1_leftOverInYear_54 : decode cX1_leftOverInYear 54 = .ok (.aload_n 0, 1) := by decide +kernel
theorem dX1_leftOverInYear_55 : decode cX1_leftOverInYear 55 = .ok (.getfield 22, 3) := by decide +kernel
theorem dX1_leftOverInYear_58 : decode cX1_leftOverInYear 58 = .ok (.aload_n 0, 1) := by decide +kernel
theorem dX1_leftOverInYear_59 : decode cX1_leftOverInYear 59 = .ok (.getfield 12, 3) := by decide +kernel
theorem dX1_leftOverInYear_62 : decode cX1_leftOverInYear 62 = .ok (.invokevirtual 74, 3) := by decide +kernel
theorem dX1_leftOverInYear_65 : decode cX1_leftOverInYear 65 = .ok (.iadd, 1) := by decide +kernel
theorem dX1_leftOverInYear_66 : decode cX1_leftOverInYear 66 = .ok (.istore 4, 2) := by decide +kernel
theorem dX1_leftOverInYear_68 : decode cX1_leftOverInYear 68 = .ok (.iinc 5 1, 3) := by decide +kernel
theorem dX1_leftOverInYear_71 : decode cX1_leftOverInYear 71 = .ok (.goto (-57), 3) := by decide +kernel
theorem dX1_leftOverInYear_74 : decode cX1_leftOverInYear 74 = .ok (.iload 4, 2) := by decide +kernel
theorem dX1_leftOverInYear_76 : decode cX1_leftOverInYear 76 = .ok (.ireturn, 1) := by decide +kernel
set_option maxRecDepth 20000 in
theorem ggX1_act_X10_modulo : GoodIn wsX1_act wsX10_modulo := goodIn_r _ [9] rfl (by decide +kernel)
set_option maxRecDepth 20000 in
theorem gX1_act_X10_modulo_n94 : GoodIn wsX1_act (wsX10_modulo) := ggX1_act_X10_modulo
set_option maxRecDepth 20000 in
theorem ggX1_act_X9_turn : GoodIn wsX1_act wsX9_turn := goodIn_r _ [14, 15, 19, 20, 21, 22, 23] rfl (by decide +kernel)
set_option maxRecDepth 20000 in
theorem gX1_act_X9_turn : GoodIn wsX1_act (wsV RX1 70 RX9 yX9_turn wsX9_turn) := goodIn_app (goodIn_of _ (by decide +kernel)) ggX1_act_X9_turn
theorem dX1_act_0 : decode cX1_act 0 = .ok (.iload_n 1, 1) := by decide +kernel
theorem dX1_act_1 : decode cX1_act 1 = .ok (.bipush 8, 2) := by decide +kernel
theorem dX1_act_3 : decode cX1_act 3 = .ok (.idiv, 1) := by decide +kernel
theorem dX1_act_4 : decode cX1_act 4 = .ok (.istore_n 2, 1) := by decide +kernel
theorem dX1_act_5 : decode cX1_act 5 = .ok (.iload_n 1, 1) := by decide +kernel
theorem dX1_act_6 : decode cX1_act 6 = .ok (.bipush 64, 2) := by decide +kernel
theorem dX1_act_8 : decode cX1_act 8 = .ok (.idiv, 1) := by decide +kernel
theorem dX1_act_9 : decode cX1_act 9 = .ok (.istore_n 3, 1) := by decide +kernel
theorem dX1_act_10 : decode cX1_act 10 = .ok (.iload_n 1, 1) := by decide +kernel
theorem dX1_act_11 : decode cX1_act 11 = .ok (.bipush 8, 2) := by decide +kernel
theorem dX1_act_13 : decode cX1_act 13 = .ok (.irem, 1) := by decide +kernel
theorem dX1_act_14 : decode cX1_act 14 = .ok (.tableswitch 103 0 3 #[30, 30, 56, 77], 30) := by decide +kernel
theorem dX1_act_44 : decode cX1_act 44 = .ok (.aload_n 0, 1) := by decide +kernel
theorem dX1_act_45 : decode cX1_act 45 = .ok (.getfield 12, 3) := by decide +kernel
theorem dX1_act_48 : decode cX1_act 48 = .ok (.getfield 26, 3) := by decide +kernel
theorem dX1_act_51 : decode cX1_act 51 = .ok (.iload_n 2, 1) := by decide +kernel
theorem dX1_act_52 : decode cX1_act 52 = .ok (.aload_n 0, 1) := by decide +kernel
theorem dX1_act_53 : decode cX1_act 53 = .ok (.getfield 18, 3) := by decide +kernel
theorem dX1_act_56 : decode cX1_act 56 = .ok (.getfield 91, 3) := by decide +kernel
theorem dX1_act_59 : decode cX1_act 59 = .ok (.invokestatic 94, 3) := by decide +kernel
theorem dX1_act_62 : decode cX1_act 62 = .ok (.iload_n 3, 1) := by decide +kernel
theorem dX1_act_63 : decode cX1_act 63 = .ok (.bipush 41, 2) := by decide +kernel
theorem dX1_act_65 : decode cX1_act 65 = .ok (.irem, 1) := by decide +kernel
theorem dX1_act_66 : decode cX1_act 66 = .ok (.iastore, 1) := by decide +kernel
theorem dX1_act_67 : decode cX1_act 67 = .ok (.goto 50, 3) := by decide +kernel
theorem dX1_act_70 : decode cX1_act 70 = .ok (.aload_n 0, 1) := by decide +kernel
theorem dX1_act_71 : decode cX1_act 71 = .ok (.getfield 12, 3) := by decide +kernel
theorem dX1_act_74 : decode cX1_act 74 = .ok (.iload_n 2, 1) := by decide +kernel
theorem dX1_act_75 : decode cX1_act 75 = .ok (.aload_n 0, 1) := by decide +kernel
theorem dX1_act_76 : decode cX1_act 76 = .ok (.getfield 18, 3) := by decide +kernel
theorem dX1_act_79 : decode cX1_act 79 = .ok (.getfield 59, 3) := by decide +kernel
theorem dX1_act_82 : decode cX1_act 82 = .ok (.invokestatic 94, 3) := by decide +kernel
theorem dX1_act_85 : decode cX1_act 85 = .ok (.invokevirtual 70, 3) := by decide +kernel
theorem dX1_act_88 : decode cX1_act 88 = .ok (.goto 29, 3) := by decide +kernel
theorem dX1_act_91 : decode cX1_act 91 = .ok (.aload_n 0, 1) := by decide +kernel
theorem dX1_act_92 : decode cX1_act 92 = .ok (.getfield 12, 3) := by decide +kernel
theorem dX1_act_95 : decode cX1_act 95 = .ok (.getfield 98, 3) := by decide +kernel
theorem dX1_act_98 : decode cX1_act 98 = .ok (.iload_n 2, 1) := by decide +kernel
theorem dX1_act_99 : decode cX1_act 99 = .ok (.aload_n 0, 1) := by decide +kernel
theorem dX1_act_100 : decode cX1_act 100 = .ok (.getfield 18, 3) := by decide +kernel
theorem dX1_act_103 : decode cX1_act 103 = .ok (.getfield 91, 3) := by decide +kernel
theorem dX1_act_106 : decode cX1_act 106 = .ok (.invokestatic 94, 3) := by decide +kernel
theorem dX1_act_109 : decode cX1_act 109 = .ok (.iload_n 3, 1) := by decide +kernel
theorem dX1_act_110 : decode cX1_act 110 = .ok (.bipush 10, 2) := by decide +kernel
theorem dX1_act_112 : decode cX1_act 112 = .ok (.irem, 1) := by decide +kernel
theorem dX1_act_113 : decode cX1_act 113 = .ok (.iastore, 1) := by decide +kernel
theorem dX1_act_114 : decode cX1_act 114 = .ok (.goto 3, 3) := by decide +kernel
theorem dX1_act_117 : decode cX1_act 117 = .ok (.return_, 1) := by decide +kernel
theorem dX2_init_0 : decode cX2_init 0 = .ok (.aload_n 0, 1) := by decide +kernel
theorem dX2_init_1 : decode cX2_init 1 = .ok (.invokespecial 3, 3) := by decide +kernel
theorem dX2_init_4 : decode cX2_init 4 = .ok (.aload_n 0, 1) := by decide +kernel
theorem dX2_init_5 : decode cX2_init 5 = .ok (.bipush 8, 2) := by decide +kernel
theorem dX2_init_7 : decode cX2_init 7 = .ok (.newarray .int, 2) := by decide +kernel
theorem dX2_init_9 : decode cX2_init 9 = .ok (.putfield 9, 3) := by decide +kernel
theorem dX2_init_12 : decode cX2_init 12 = .ok (.aload_n 0, 1) := by decide +kernel
theorem dX2_init_13 : decode cX2_init 13 = .ok (.aload_n 1, 1) := by decide +kernel
theorem dX2_init_14 : decode cX2_init 14 = .ok (.putfield 15, 3) := by decide +kernel
theorem dX2_init_17 : decode cX2_init 17 = .ok (.return_, 1) := by decide +kernel
theorem dX2_notGoneAt_0 : decode cX2_notGoneAt 0 = .ok (.iconst 0, 1) := by decide +kernel
theorem dX2_notGoneAt_1 : decode cX2_notGoneAt 1 = .ok (.istore_n 3, 1) := by decide +kernel
theorem dX2_notGoneAt_2 : decode cX2_notGoneAt 2 = .ok (.aload_n 0, 1) := by decide +kernel
theorem dX2_notGoneAt_3 : decode cX2_notGoneAt 3 = .ok (.getfield 15, 3) := by decide +kernel
theorem dX2_notGoneAt_6 : decode cX2_notGoneAt 6 = .ok (.getfield 19, 3) := by decide +kernel
theorem dX2_notGoneAt_9 : decode cX2_notGoneAt 9 = .ok (.iload_n 2, 1) := by decide +kernel
theorem dX2_notGoneAt_10 : decode cX2_notGoneAt 10 = .ok (.iaload, 1) := by decide +kernel
theorem dX2_notGoneAt_11 : decode cX2_notGoneAt 11 = .ok (.istore 4, 2) := by decide +kernel
theorem dX2_notGoneAt_13 : decode cX2_notGoneAt 13 = .ok (.iload 4, 2) := by decide +kernel
theorem dX2_notGoneAt_15 : decode cX2_notGoneAt 15 = .ok (.aload_n 0, 1) := by decide +kernel
theorem dX2_notGoneAt_16 : decode cX2_notGoneAt 16 = .ok (.getfield 15, 3) := by decide +kernel
theorem dX2_notGoneAt_19 : decode cX2_notGoneAt 19 = .ok (.getfield 19, 3) := by decide +kernel
theorem dX2_notGoneAt_22 : decode cX2_notGoneAt 22 = .ok (.iload_n 2, 1) := by decide +kernel
theorem dX2_notGoneAt_23 : decode cX2_notGoneAt 23 = .ok (.iconst 1, 1) := by decide +kernel
theorem dX2_notGoneAt_24 : decode cX2_notGoneAt 24 = .ok (.iadd, 1) := by decide +kernel
theorem dX2_notGoneAt_25 : decode cX2_notGoneAt 25 = .ok (.iaload, 1) := by decide +kernel
theorem dX2_notGoneAt_26 : decode cX2_notGoneAt 26 = .ok (.if_icmp .ge 42, 3) := by decide +kernel
theorem dX2_notGoneAt_29 : decode cX2_notGoneAt 29 = .ok (.aload_n 0, 1) := by decide +kernel
theorem dX2_notGoneAt_30 : decode cX2_notGoneAt 30 = .ok (.getfield 15, 3) := by decide +kernel
theorem dX2_notGoneAt_33 : decode cX2_notGoneAt 33 = .ok (.getfield 24, 3) := by decide +kernel
theorem dX2_notGoneAt_36 : decode cX2_notGoneAt 36 = .ok (.iload 4, 2) := by decide +kernel
theorem dX2_notGoneAt_38 : decode cX2_notGoneAt 38 = .ok (.iaload, 1) := by decide +kernel
theorem dX2_notGoneAt_39 : decode cX2_notGoneAt 39 = .ok (.istore 5, 2) := by decide +kernel
theorem dX2_notGoneAt_41 : decode cX2_notGoneAt 41 = .ok (.iload_n 3, 1) := by decide +kernel
theorem dX2_notGoneAt_42 : decode cX2_notGoneAt 42 = .ok (.aload_n 1, 1) := by decide +kernel
theorem dX2_notGoneAt_43 : decode cX2_notGoneAt 43 = .ok (.getfield 27, 3) := by decide +kernel
theorem dX2_notGoneAt_46 : decode cX2_notGoneAt 46 = .ok (.iload 5, 2) := by decide +kernel
theorem dX2_notGoneAt_48 : decode cX2_notGoneAt 48 = .ok (.iaload, 1) := by decide +kernel
theorem dX2_notGoneAt_49 : decode cX2_notGoneAt 49 = .ok (.ifCond .le 10, 3) := by decide +kernel
theorem dX2_notGoneAt_52 : decode cX2_notGoneAt 52 = .ok (.iconst 1, 1) := by decide +kernel
theorem dX2_notGoneAt_53 : decode cX2_notGoneAt 53 = .ok (.iload 5, 2) := by decide +kernel
theorem dX2_notGoneAt_55 : decode cX2_notGoneAt 55 = .ok (.ishl, 1) := by decide +kernel
theorem dX2_notGoneAt_56 : decode cX2_notGoneAt 56 = .ok (.goto 4, 3) := by decide +kernel
theorem dX2_notGoneAt_59 : decode cX2_notGoneAt 59 = .ok (.iconst 0, 1) := by decide +kernel
theorem dX2_notGoneAt_60 : decode cX2_notGoneAt 60 = .ok (.ior, 1) := by decide +kernel
theorem dX2_notGoneAt_61 : decode cX2_notGoneAt 61 = .ok (.istore_n 3, 1) := by decide +kernel
theorem dX2_notGoneAt_62 : decode cX2_notGoneAt 62 = .ok (.iinc 4 1, 3) := by decide +kernel
theorem dX2_notGoneAt_65 : decode cX2_notGoneAt 65 = .ok (.goto (-52), 3) := by decide +kernel
theorem dX2_notGoneAt_68 : decode cX2_notGoneAt 68 = .ok (.iload_n 3, 1) := by decide +kernel
theorem dX2_notGoneAt_69 : decode cX2_notGoneAt 69 = .ok (.ireturn, 1) := by decide +kernel
set_option maxRecDepth 20000 in
theorem ggX2_drinkersAt_X2_notGoneAt : GoodIn wsX2_drinkersAt wsX2_notGoneAt := goodIn_r _ [6, 7, 8, 9, 10, 16, 17, 18, 19, 20, 21, 22, 23, 24, 25, 26, 27, 28, 29, 30, 11, 12, 13, 14, 15] rfl (by decide +kernel)
set_option maxRecDepth 20000 in
theorem gX2_drinkersAt_X2_notGoneAt : GoodIn wsX2_drinkersAt (wsV RX2 32 RX2 yX2_notGoneAt wsX2_notGoneAt) := goodIn_app (goodIn_of _ (by decide +kernel)) ggX2_drinkersAt_X2_notGoneAt
theorem dX2_drinkersAt_0 : decode cX2_drinkersAt 0 = .ok (.aload_n 0, 1) := by decide +kernel
theorem dX2_drinkersAt_1 : decode cX2_drinkersAt 1 = .ok (.aload_n 1, 1) := by decide +kernel
theorem dX2_drinkersAt_2 : decode cX2_drinkersAt 2 = .ok (.iload_n 2, 1) := by decide +kernel
theorem dX2_drinkersAt_3 : decode cX2_drinkersAt 3 = .ok (.invokevirtual 32, 3) := by decide +kernel
theorem dX2_drinkersAt_6 : decode cX2_drinkersAt 6 = .ok (.aload_n 1, 1) := by decide +kernel
theorem dX2_drinkersAt_7 : decode cX2_drinkersAt 7 = .ok (.getfield 36, 3) := by decide +kernel
theorem dX2_drinkersAt_10 : decode cX2_drinkersAt 10 = .ok (.iconst (-1), 1) := by decide +kernel
theorem dX2_drinkersAt_11 : decode cX2_drinkersAt 11 = .ok (.ixor, 1) := by decide +kernel
theorem dX2_drinkersAt_12 : decode cX2_drinkersAt 12 = .ok (.iand, 1) := by decide +kernel
theorem dX2_drinkersAt_13 : decode cX2_drinkersAt 13 = .ok (.ireturn, 1) := by decide +kernel
set_option maxRecDepth 20000 in
theorem ggX2_leftOver_X10_has : GoodIn wsX2_leftOver wsX10_has := goodIn_r _ [11] rfl (by decide +kernel)
set_option maxRecDepth 20000 in
theorem gX2_leftOver_X10_has_n46 : GoodIn wsX2_leftOver (wsX10_has) := ggX2_leftOver_X10_has
set_option maxRecDepth 20000 in
theorem ggX2_leftOver_X3_wants : GoodIn wsX2_leftOver wsX3_wants := goodIn_r _ [16, 17, 18, 21, 22, 23, 24, 25, 26, 27, 28, 29, 30, 31, 32, 33] rfl (by decide +kernel)
set_option maxRecDepth 20000 in
theorem gX2_leftOver_X3_wants : GoodIn wsX2_leftOver (wsV RX2 50 RX3 yX3_wants wsX3_wants) := goodIn_app (goodIn_of _ (by decide +kernel)) ggX2_leftOver_X3_wants
theorem dX2_leftOver_0 : decode cX2_leftOver 0 = .ok (.iload_n 3, 1) := by decide +kernel
theorem dX2_leftOver_1 : decode cX2_leftOver 1 = .ok (.iload_n 2, 1) := by decide +kernel
theorem dX2_leftOver_2 : decode cX2_leftOver 2 = .ok (.invokestatic 40, 3) := by decide +kernel
theorem dX2_leftOver_5 : decode cX2_leftOver 5 = .ok (.istore 5, 2) := by decide +kernel
theorem dX2_leftOver_7 : decode cX2_leftOver 7 = .ok (.iload_n 2, 1) := by decide +kernel
theorem dX2_leftOver_8 : decode cX2_leftOver 8 = .ok (.iload 5, 2) := by decide +kernel
theorem dX2_leftOver_10 : decode cX2_leftOver 10 = .ok (.isub, 1) := by decide +kernel
theorem dX2_leftOver_11 : decode cX2_leftOver 11 = .ok (.istore 6, 2) := by decide +kernel
theorem dX2_leftOver_13 : decode cX2_leftOver 13 = .ok (.aload_n 0, 1) := by decide +kernel
theorem dX2_leftOver_14 : decode cX2_leftOver 14 = .ok (.getfield 15, 3) := by decide +kernel
theorem dX2_leftOver_17 : decode cX2_leftOver 17 = .ok (.getfield 19, 3) := by decide +kernel
theorem dX2_leftOver_20 : decode cX2_leftOver 20 = .ok (.iload_n 1, 1) := by decide +kernel
theorem dX2_leftOver_21 : decode cX2_leftOver 21 = .ok (.iaload, 1) := by decide +kernel
theorem dX2_leftOver_22 : decode cX2_leftOver 22 = .ok (.istore 7, 2) := by decide +kernel
theorem dX2_leftOver_24 : decode cX2_leftOver 24 = .ok (.iload 7, 2) := by decide +kernel
theorem dX2_leftOver_26 : decode cX2_leftOver 26 = .ok (.aload_n 0, 1) := by decide +kernel
theorem dX2_leftOver_27 : decode cX2_leftOver 27 = .ok (.getfield 15, 3) := by decide +kernel
theorem dX2_leftOver_30 : decode cX2_leftOver 30 = .ok (.getfield 19, 3) := by decide +kernel
theorem dX2_leftOver_33 : decode cX2_leftOver 33 = .ok (.iload_n 1, 1) := by decide +kernel
theorem dX2_leftOver_34 : decode cX2_leftOver 34 = .ok (.iconst 1, 1) := by decide +kernel
theorem dX2_leftOver_35 : decode cX2_leftOver 35 = .ok (.iadd, 1) := by decide +kernel
theorem dX2_leftOver_36 : decode cX2_leftOver 36 = .ok (.iaload, 1) := by decide +kernel
theorem dX2_leftOver_37 : decode cX2_leftOver 37 = .ok (.if_icmp .ge 78, 3) := by decide +kernel
theorem dX2_leftOver_40 : decode cX2_leftOver 40 = .ok (.aload_n 0, 1) := by decide +kernel
theorem dX2_leftOver_41 : decode cX2_leftOver 41 = .ok (.getfield 15, 3) := by decide +kernel
theorem dX2_leftOver_44 : decode cX2_leftOver 44 = .ok (.getfield 24, 3) := by decide +kernel
theorem dX2_leftOver_47 : decode cX2_leftOver 47 = .ok (.iload 7, 2) := by decide +kernel
theorem dX2_leftOver_49 : decode cX2_leftOver 49 = .ok (.iaload, 1) := by decide +kernel
theorem dX2_leftOver_50 : decode cX2_leftOver 50 = .ok (.istore 8, 2) := by decide +kernel
theorem dX2_leftOver_52 : decode cX2_leftOver 52 = .ok (.aload_n 0, 1) := by decide +kernel
theorem dX2_leftOver_53 : decode cX2_leftOver 53 = .ok (.getfield 9, 3) := by decide +kernel
theorem dX2_leftOver_56 : decode cX2_leftOver 56 = .ok (.iload 8, 2) := by decide +kernel
theorem dX2_leftOver_58 : decode cX2_leftOver 58 = .ok (.iload 4, 2) := by decide +kernel
theorem dX2_leftOver_60 : decode cX2_leftOver 60 = .ok (.iload 8, 2) := by decide +kernel
theorem dX2_leftOver_62 : decode cX2_leftOver 62 = .ok (.invokestatic 46, 3) := by decide +kernel
theorem dX2_leftOver_65 : decode cX2_leftOver 65 = .ok (.ifCond .eq 30, 3) := by decide +kernel
theorem dX2_leftOver_68 : decode cX2_leftOver 68 = .ok (.aload_n 0, 1) := by decide +kernel
theorem dX2_leftOver_69 : decode cX2_leftOver 69 = .ok (.getfield 15, 3) := by decide +kernel
theorem dX2_leftOver_72 : decode cX2_leftOver 72 = .ok (.iload 8, 2) := by decide +kernel
theorem dX2_leftOver_74 : decode cX2_leftOver 74 = .ok (.iload 5, 2) := by decide +kernel
theorem dX2_leftOver_76 : decode cX2_leftOver 76 = .ok (.ifCond .le 7, 3) := by decide +kernel
theorem dX2_leftOver_79 : decode cX2_leftOver 79 = .ok (.iconst 1, 1) := by decide +kernel
theorem dX2_leftOver_80 : decode cX2_leftOver 80 = .ok (.goto 4, 3) := by decide +kernel
theorem dX2_leftOver_83 : decode cX2_leftOver 83 = .ok (.iconst 0, 1) := by decide +kernel
theorem dX2_leftOver_84 : decode cX2_leftOver 84 = .ok (.invokevirtual 50, 3) := by decide +kernel
theorem dX2_leftOver_87 : decode cX2_leftOver 87 = .ok (.iload 6, 2) := by decide +kernel
theorem dX2_leftOver_89 : decode cX2_leftOver 89 = .ok (.invokestatic 40, 3) := by decide +kernel
theorem dX2_leftOver_92 : decode cX2_leftOver 92 = .ok (.goto 4, 3) := by decide +kernel
theorem dX2_leftOver_95 : decode cX2_leftOver 95 = .ok (.iconst 0, 1) := by decide +kernel
theorem dX2_leftOver_96 : decode cX2_leftOver 96 = .ok (.iastore, 1) := by decide +kernel
theorem dX2_leftOver_97 : decode cX2_leftOver 97 = .ok (.iload 6, 2) := by decide +kernel
theorem dX2_leftOver_99 : decode cX2_leftOver 99 = .ok (.aload_n 0, 1) := by decide +kernel
theorem dX2_leftOver_100 : decode cX2_leftOver 100 = .ok (.getfield 9, 3) := by decide +kernel
theorem dX2_leftOver_103 : decode cX2_leftOver 103 = .ok (.iload 8, 2) := by decide +kernel
theorem dX2_leftOver_105 : decode cX2_leftOver 105 = .ok (.iaload, 1) := by decide +kernel
theorem dX2_leftOver_106 : decode cX2_leftOver 106 = .ok (.isub, 1) := by decide +kernel
theorem dX2_leftOver_107 : decode cX2_leftOver 107 = .ok (.istore 6, 2) := by decide +kernel
theorem dX2_leftOver_109 : decode cX2_leftOver 109 = .ok (.iinc 7 1, 3) := by decide +kernel
theorem dX2_leftOver_112 : decode cX2_leftOver 112 = .ok (.goto (-88), 3) := by decide +kernel
theorem dX2_leftOver_115 : decode cX2_leftOver 115 = .ok (.iload 6, 2) := by decide +kernel
theorem dX2_leftOver_117 : decode cX2_leftOver 117 = .ok (.ireturn, 1) := by decide +kernel
set_option maxRecDepth 20000 in
theorem ggX2_leftOverAt_X2_drinkersAt : GoodIn wsX2_leftOverAt wsX2_drinkersAt := goodIn_r _ [7, 8, 9, 10, 11, 6, 12, 13, 14, 15, 16, 36, 37, 38, 39, 40, 41, 42, 43, 44, 45, 46, 47, 48, 49, 50, 51, 52, 53, 54, 55] rfl (by decide +kernel)
set_option maxRecDepth 20000 in
theorem gX2_leftOverAt_X2_drinkersAt : GoodIn wsX2_leftOverAt (wsV RX2 60 RX2 yX2_drinkersAt wsX2_drinkersAt) := goodIn_app (goodIn_of _ (by decide +kernel)) ggX2_leftOverAt_X2_drinkersAt
set_option maxRecDepth 20000 in
theorem ggX2_leftOverAt_X2_leftOver : GoodIn wsX2_leftOverAt wsX2_leftOver := goodIn_r _ [20, 21, 22, 23, 24, 13, 14, 15, 25, 26, 27, 28, 29, 30, 31, 32, 33, 34, 35, 41, 42, 43, 44, 45, 46, 47, 48, 49, 50, 51, 52, 53, 54, 55] rfl (by decide +kernel)
set_option maxRecDepth 20000 in
theorem gX2_leftOverAt_X2_leftOver : GoodIn wsX2_leftOverAt (wsV RX2 63 RX2 yX2_leftOver wsX2_leftOver) := goodIn_app (goodIn_of _ (by decide +kernel)) ggX2_leftOverAt_X2_leftOver
theorem dX2_leftOverAt_0 : decode cX2_leftOverAt 0 = .ok (.aload_n 0, 1) := by decide +kernel
theorem dX2_leftOverAt_1 : decode cX2_leftOverAt 1 = .ok (.iload_n 2, 1) := by decide +kernel
theorem dX2_leftOverAt_2 : decode cX2_leftOverAt 2 = .ok (.aload_n 1, 1) := by decide +kernel
theorem dX2_leftOverAt_3 : decode cX2_leftOverAt 3 = .ok (.getfield 54, 3) := by decide +kernel
theorem dX2_leftOverAt_6 : decode cX2_leftOverAt 6 = .ok (.iload_n 2, 1) := by decide +kernel
theorem dX2_leftOverAt_7 : decode cX2_leftOverAt 7 = .ok (.iaload, 1) := by decide +kernel
theorem dX2_leftOverAt_8 : decode cX2_leftOverAt 8 = .ok (.aload_n 1, 1) := by decide +kernel
theorem dX2_leftOverAt_9 : decode cX2_leftOverAt 9 = .ok (.getfield 57, 3) := by decide +kernel
theorem dX2_leftOverAt_12 : decode cX2_leftOverAt 12 = .ok (.iload_n 2, 1) := by decide +kernel
theorem dX2_leftOverAt_13 : decode cX2_leftOverAt 13 = .ok (.iaload, 1) := by decide +kernel
theorem dX2_leftOverAt_14 : decode cX2_leftOverAt 14 = .ok (.aload_n 0, 1) := by decide +kernel
theorem dX2_leftOverAt_15 : decode cX2_leftOverAt 15 = .ok (.aload_n 1, 1) := by decide +kernel
theorem dX2_leftOverAt_16 : decode cX2_leftOverAt 16 = .ok (.iload_n 2, 1) := by decide +kernel
theorem dX2_leftOverAt_17 : decode cX2_leftOverAt 17 = .ok (.invokevirtual 60, 3) := by decide +kernel
theorem dX2_leftOverAt_20 : decode cX2_leftOverAt 20 = .ok (.invokevirtual 63, 3) := by decide +kernel
theorem dX2_leftOverAt_23 : decode cX2_leftOverAt 23 = .ok (.ireturn, 1) := by decide +kernel
set_option maxRecDepth 20000 in
theorem ggX2_goByAt_X2_drinkersAt : GoodIn wsX2_goByAt wsX2_drinkersAt := goodIn_r _ [18, 19, 20, 21, 22, 17, 23, 2, 3, 4, 5, 49, 50, 51, 52, 53, 54, 55, 56, 57, 58, 59, 60, 61, 62, 63, 64, 65, 66, 67, 68] rfl (by decide +kernel)
set_option maxRecDepth 20000 in
theorem gX2_goByAt_X2_drinkersAt : GoodIn wsX2_goByAt (wsV RX2 60 RX2 yX2_drinkersAt wsX2_drinkersAt) := goodIn_app (goodIn_of _ (by decide +kernel)) ggX2_goByAt_X2_drinkersAt
set_option maxRecDepth 20000 in
theorem ggX2_goByAt_X2_leftOver : GoodIn wsX2_goByAt wsX2_leftOver := goodIn_r _ [27, 7, 8, 9, 10, 2, 3, 4, 6, 28, 29, 30, 31, 32, 33, 34, 35, 36, 37, 54, 55, 56, 57, 58, 59, 60, 61, 62, 63, 64, 65, 66, 67, 68] rfl (by decide +kernel)
set_option maxRecDepth 20000 in
theorem gX2_goByAt_X2_leftOver : GoodIn wsX2_goByAt (wsV RX2 63 RX2 yX2_leftOver wsX2_leftOver) := goodIn_app (goodIn_of _ (by decide +kernel)) ggX2_goByAt_X2_leftOver
set_option maxRecDepth 20000 in
theorem ggX2_goByAt_X9_hasQuarrelled : GoodIn wsX2_goByAt wsX9_hasQuarrelled := goodIn_r _ [42, 43, 28, 29, 30, 49, 50, 51, 52, 53] rfl (by decide +kernel)
set_option maxRecDepth 20000 in
theorem gX2_goByAt_X9_hasQuarrelled : GoodIn wsX2_goByAt (wsV RX2 67 RX9 yX9_hasQuarrelled wsX9_hasQuarrelled) := goodIn_app (goodIn_of _ (by decide +kernel)) ggX2_goByAt_X9_hasQuarrelled
set_option maxRecDepth 20000 in
theorem ggX2_goByAt_X3_gains : GoodIn wsX2_goByAt wsX3_gains := goodIn_r _ [47, 36, 37, 48, 32, 33, 34, 35, 56, 57, 58, 59, 60, 61, 62, 63, 64, 65, 66, 67, 68] rfl (by decide +kernel)
set_option maxRecDepth 20000 in
theorem gX2_goByAt_X3_gains : GoodIn wsX2_goByAt (wsV RX2 71 RX3 yX3_gains wsX3_gains) := goodIn_app (goodIn_of _ (by decide +kernel)) ggX2_goByAt_X3_gains
theorem dX2_goByAt_0 : decode cX2_goByAt 0 = .ok (.aload_n 0, 1) := by decide +kernel
theorem dX2_goByAt_1 : decode cX2_goByAt 1 = .ok (.iload_n 2, 1) := by decide +kernel
theorem dX2_goByAt_2 : decode cX2_goByAt 2 = .ok (.iload_n 3, 1) := by decide +kernel
theorem dX2_goByAt_3 : decode cX2_goByAt 3 = .ok (.aload_n 1, 1) := by decide +kernel
theorem dX2_goByAt_4 : decode cX2_goByAt 4 = .ok (.getfield 57, 3) := by decide +kernel
theorem dX2_goByAt_7 : decode cX2_goByAt 7 = .ok (.iload_n 2, 1) := by decide +kernel
theorem dX2_goByAt_8 : decode cX2_goByAt 8 = .ok (.iaload, 1) := by decide +kernel
theorem dX2_goByAt_9 : decode cX2_goByAt 9 = .ok (.aload_n 0, 1) := by decide +kernel
theorem dX2_goByAt_10 : decode cX2_goByAt 10 = .ok (.aload_n 1, 1) := by decide +kernel
theorem dX2_goByAt_11 : decode cX2_goByAt 11 = .ok (.iload_n 2, 1) := by decide +kernel
theorem dX2_goByAt_12 : decode cX2_goByAt 12 = .ok (.invokevirtual 60, 3) := by decide +kernel
theorem dX2_goByAt_15 : decode cX2_goByAt 15 = .ok (.invokevirtual 63, 3) := by decide +kernel
theorem dX2_goByAt_18 : decode cX2_goByAt 18 = .ok (.istore 4, 2) := by decide +kernel
theorem dX2_goByAt_20 : decode cX2_goByAt 20 = .ok (.aload_n 0, 1) := by decide +kernel
theorem dX2_goByAt_21 : decode cX2_goByAt 21 = .ok (.getfield 15, 3) := by decide +kernel
theorem dX2_goByAt_24 : decode cX2_goByAt 24 = .ok (.getfield 19, 3) := by decide +kernel
theorem dX2_goByAt_27 : decode cX2_goByAt 27 = .ok (.iload_n 2, 1) := by decide +kernel
theorem dX2_goByAt_28 : decode cX2_goByAt 28 = .ok (.iaload, 1) := by decide +kernel
theorem dX2_goByAt_29 : decode cX2_goByAt 29 = .ok (.istore 5, 2) := by decide +kernel
theorem dX2_goByAt_31 : decode cX2_goByAt 31 = .ok (.iload 5, 2) := by decide +kernel
theorem dX2_goByAt_33 : decode cX2_goByAt 33 = .ok (.aload_n 0, 1) := by decide +kernel
theorem dX2_goByAt_34 : decode cX2_goByAt 34 = .ok (.getfield 15, 3) := by decide +kernel
theorem dX2_goByAt_37 : decode cX2_goByAt 37 = .ok (.getfield 19, 3) := by decide +kernel
theorem dX2_goByAt_40 : decode cX2_goByAt 40 = .ok (.iload_n 2, 1) := by decide +kernel
theorem dX2_goByAt_41 : decode cX2_goByAt 41 = .ok (.iconst 1, 1) := by decide +kernel
theorem dX2_goByAt_42 : decode cX2_goByAt 42 = .ok (.iadd, 1) := by decide +kernel
theorem dX2_goByAt_43 : decode cX2_goByAt 43 = .ok (.iaload, 1) := by decide +kernel
theorem dX2_goByAt_44 : decode cX2_goByAt 44 = .ok (.if_icmp .ge 88, 3) := by decide +kernel
theorem dX2_goByAt_47 : decode cX2_goByAt 47 = .ok (.aload_n 0, 1) := by decide +kernel
theorem dX2_goByAt_48 : decode cX2_goByAt 48 = .ok (.getfield 15, 3) := by decide +kernel
theorem dX2_goByAt_51 : decode cX2_goByAt 51 = .ok (.getfield 24, 3) := by decide +kernel
theorem dX2_goByAt_54 : decode cX2_goByAt 54 = .ok (.iload 5, 2) := by decide +kernel
theorem dX2_goByAt_56 : decode cX2_goByAt 56 = .ok (.iaload, 1) := by decide +kernel
theorem dX2_goByAt_57 : decode cX2_goByAt 57 = .ok (.istore 6, 2) := by decide +kernel
theorem dX2_goByAt_59 : decode cX2_goByAt 59 = .ok (.aload_n 1, 1) := by decide +kernel
theorem dX2_goByAt_60 : decode cX2_goByAt 60 = .ok (.getfield 27, 3) := by decide +kernel
theorem dX2_goByAt_63 : decode cX2_goByAt 63 = .ok (.iload 6, 2) := by decide +kernel
theorem dX2_goByAt_65 : decode cX2_goByAt 65 = .ok (.iaload, 1) := by decide +kernel
theorem dX2_goByAt_66 : decode cX2_goByAt 66 = .ok (.ifCond .le 60, 3) := by decide +kernel
theorem dX2_goByAt_69 : decode cX2_goByAt 69 = .ok (.aload_n 1, 1) := by decide +kernel
theorem dX2_goByAt_70 : decode cX2_goByAt 70 = .ok (.iload 6, 2) := by decide +kernel
theorem dX2_goByAt_72 : decode cX2_goByAt 72 = .ok (.invokevirtual 67, 3) := by decide +kernel
theorem dX2_goByAt_75 : decode cX2_goByAt 75 = .ok (.ifCond .eq 7, 3) := by decide +kernel
theorem dX2_goByAt_78 : decode cX2_goByAt 78 = .ok (.iconst (-1), 1) := by decide +kernel
theorem dX2_goByAt_79 : decode cX2_goByAt 79 = .ok (.goto 19, 3) := by decide +kernel
theorem dX2_goByAt_82 : decode cX2_goByAt 82 = .ok (.aload_n 0, 1) := by decide +kernel
theorem dX2_goByAt_83 : decode cX2_goByAt 83 = .ok (.getfield 15, 3) := by decide +kernel
theorem dX2_goByAt_86 : decode cX2_goByAt 86 = .ok (.iload 6, 2) := by decide +kernel
theorem dX2_goByAt_88 : decode cX2_goByAt 88 = .ok (.aload_n 0, 1) := by decide +kernel
theorem dX2_goByAt_89 : decode cX2_goByAt 89 = .ok (.getfield 9, 3) := by decide +kernel
theorem dX2_goByAt_92 : decode cX2_goByAt 92 = .ok (.iload 6, 2) := by decide +kernel
theorem dX2_goByAt_94 : decode cX2_goByAt 94 = .ok (.iaload, 1) := by decide +kernel
theorem dX2_goByAt_95 : decode cX2_goByAt 95 = .ok (.invokevirtual 71, 3) := by decide +kernel
theorem dX2_goByAt_98 : decode cX2_goByAt 98 = .ok (.istore 7, 2) := by decide +kernel
theorem dX2_goByAt_100 : decode cX2_goByAt 100 = .ok (.aload_n 1, 1) := by decide +kernel
theorem dX2_goByAt_101 : decode cX2_goByAt 101 = .ok (.getfield 27, 3) := by decide +kernel
theorem dX2_goByAt_104 : decode cX2_goByAt 104 = .ok (.iload 6, 2) := by decide +kernel
theorem dX2_goByAt_106 : decode cX2_goByAt 106 = .ok (.iconst 0, 1) := by decide +kernel
theorem dX2_goByAt_107 : decode cX2_goByAt 107 = .ok (.bipush 20, 2) := by decide +kernel
theorem dX2_goByAt_109 : decode cX2_goByAt 109 = .ok (.aload_n 1, 1) := by decide +kernel
theorem dX2_goByAt_110 : decode cX2_goByAt 110 = .ok (.getfield 27, 3) := by decide +kernel
theorem dX2_goByAt_113 : decode cX2_goByAt 113 = .ok (.iload 6, 2) := by decide +kernel
theorem dX2_goByAt_115 : decode cX2_goByAt 115 = .ok (.iaload, 1) := by decide +kernel
theorem dX2_goByAt_116 : decode cX2_goByAt 116 = .ok (.iload 7, 2) := by decide +kernel
theorem dX2_goByAt_118 : decode cX2_goByAt 118 = .ok (.iadd, 1) := by decide +kernel
theorem dX2_goByAt_119 : decode cX2_goByAt 119 = .ok (.invokestatic 40, 3) := by decide +kernel
theorem dX2_goByAt_122 : decode cX2_goByAt 122 = .ok (.invokestatic 74, 3) := by decide +kernel
theorem dX2_goByAt_125 : decode cX2_goByAt 125 = .ok (.iastore, 1) := by decide +kernel
theorem dX2_goByAt_126 : decode cX2_goByAt 126 = .ok (.iinc 5 1, 3) := by decide +kernel
theorem dX2_goByAt_129 : decode cX2_goByAt 129 = .ok (.goto (-98), 3) := by decide +kernel
theorem dX2_goByAt_132 : decode cX2_goByAt 132 = .ok (.iload 4, 2) := by decide +kernel
theorem dX2_goByAt_134 : decode cX2_goByAt 134 = .ok (.ireturn, 1) := by decide +kernel
set_option maxRecDepth 20000 in
theorem ggX2_goBy_X2_goByAt : GoodIn wsX2_goBy wsX2_goByAt := goodIn_r _ [9, 10, 1, 11, 12, 13, 14, 15, 16, 17, 18, 19, 20, 21, 22, 23, 24, 8, 25, 26, 27, 28, 29, 30, 31, 32, 33, 34, 35, 36, 37, 38, 39, 40, 41, 42, 43, 44, 45, 46, 47, 48, 49, 50, 51, 52, 53, 54, 55, 71, 72, 73, 74, 75, 56, 57, 58, 59, 60, 61, 62, 63, 64, 65, 66, 67, 68, 69, 70] rfl (by decide +kernel)
set_option maxRecDepth 20000 in
theorem gX2_goBy_X2_goByAt : GoodIn wsX2_goBy (wsV RX2 80 RX2 yX2_goByAt wsX2_goByAt) := goodIn_app (goodIn_of _ (by decide +kernel)) ggX2_goBy_X2_goByAt
theorem dX2_goBy_0 : decode cX2_goBy 0 = .ok (.iconst 0, 1) := by decide +kernel
theorem dX2_goBy_1 : decode cX2_goBy 1 = .ok (.istore_n 2, 1) := by decide +kernel
theorem dX2_goBy_2 : decode cX2_goBy 2 = .ok (.iconst 0, 1) := by decide +kernel
theorem dX2_goBy_3 : decode cX2_goBy 3 = .ok (.istore_n 3, 1) := by decide +kernel
theorem dX2_goBy_4 : decode cX2_goBy 4 = .ok (.iload_n 3, 1) := by decide +kernel
theorem dX2_goBy_5 : decode cX2_goBy 5 = .ok (.aload_n 0, 1) := by decide +kernel
theorem dX2_goBy_6 : decode cX2_goBy 6 = .ok (.getfield 15, 3) := by decide +kernel
theorem dX2_goBy_9 : decode cX2_goBy 9 = .ok (.getfield 77, 3) := by decide +kernel
theorem dX2_goBy_12 : decode cX2_goBy 12 = .ok (.if_icmp .ge 24, 3) := by decide +kernel
theorem dX2_goBy_15 : decode cX2_goBy 15 = .ok (.iload_n 2, 1) := by decide +kernel
theorem dX2_goBy_16 : decode cX2_goBy 16 = .ok (.aload_n 0, 1) := by decide +kernel
theorem dX2_goBy_17 : decode cX2_goBy 17 = .ok (.aload_n 1, 1) := by decide +kernel
theorem dX2_goBy_18 : decode cX2_goBy 18 = .ok (.iload_n 3, 1) := by decide +kernel
theorem dX2_goBy_19 : decode cX2_goBy 19 = .ok (.aload_n 1, 1) := by decide +kernel
theorem dX2_goBy_20 : decode cX2_goBy 20 = .ok (.getfield 54, 3) := by decide +kernel
theorem dX2_goBy_23 : decode cX2_goBy 23 = .ok (.iload_n 3, 1) := by decide +kernel
theorem dX2_goBy_24 : decode cX2_goBy 24 = .ok (.iaload, 1) := by decide +kernel
theorem dX2_goBy_25 : decode cX2_goBy 25 = .ok (.invokevirtual 80, 3) := by decide +kernel
theorem dX2_goBy_28 : decode cX2_goBy 28 = .ok (.iadd, 1) := by decide +kernel
theorem dX2_goBy_29 : decode cX2_goBy 29 = .ok (.istore_n 2, 1) := by decide +kernel
theorem dX2_goBy_30 : decode cX2_goBy 30 = .ok (.iinc 3 1, 3) := by decide +kernel
theorem dX2_goBy_33 : decode cX2_goBy 33 = .ok (.goto (-29), 3) := by decide +kernel
theorem dX2_goBy_36 : decode cX2_goBy 36 = .ok (.aload_n 1, 1) := by decide +kernel
theorem dX2_goBy_37 : decode cX2_goBy 37 = .ok (.dup, 1) := by decide +kernel
theorem dX2_goBy_38 : decode cX2_goBy 38 = .ok (.getfield 84, 3) := by decide +kernel
theorem dX2_goBy_41 : decode cX2_goBy 41 = .ok (.iconst 1, 1) := by decide +kernel
theorem dX2_goBy_42 : decode cX2_goBy 42 = .ok (.iadd, 1) := by decide +kernel
theorem dX2_goBy_43 : decode cX2_goBy 43 = .ok (.putfield 84, 3) := by decide +kernel
theorem dX2_goBy_46 : decode cX2_goBy 46 = .ok (.iload_n 2, 1) := by decide +kernel
theorem dX2_goBy_47 : decode cX2_goBy 47 = .ok (.ireturn, 1) := by decide +kernel
theorem dX3_init_0 : decode cX3_init 0 = .ok (.aload_n 0, 1) := by decide +kernel
theorem dX3_init_1 : decode cX3_init 1 = .ok (.invokespecial 3, 3) := by decide +kernel
theorem dX3_init_4 : decode cX3_init 4 = .ok (.aload_n 0, 1) := by decide +kernel
theorem dX3_init_5 : decode cX3_init 5 = .ok (.bipush 8, 2) := by decide +kernel
theorem dX3_init_7 : decode cX3_init 7 = .ok (.newarray .int, 2) := by decide +kernel
theorem dX3_init_9 : decode cX3_init 9 = .ok (.putfield 9, 3) := by decide +kernel
theorem dX3_init_12 : decode cX3_init 12 = .ok (.aload_n 0, 1) := by decide +kernel
theorem dX3_init_13 : decode cX3_init 13 = .ok (.bipush 8, 2) := by decide +kernel
theorem dX3_init_15 : decode cX3_init 15 = .ok (.newarray .int, 2) := by decide +kernel
theorem dX3_init_17 : decode cX3_init 17 = .ok (.putfield 15, 3) := by decide +kernel
theorem dX3_init_20 : decode cX3_init 20 = .ok (.aload_n 0, 1) := by decide +kernel
theorem dX3_init_21 : decode cX3_init 21 = .ok (.bipush 8, 2) := by decide +kernel
theorem dX3_init_23 : decode cX3_init 23 = .ok (.newarray .int, 2) := by decide +kernel
theorem dX3_init_25 : decode cX3_init 25 = .ok (.putfield 18, 3) := by decide +kernel
theorem dX3_init_28 : decode cX3_init 28 = .ok (.aload_n 0, 1) := by decide +kernel
theorem dX3_init_29 : decode cX3_init 29 = .ok (.bipush 8, 2) := by decide +kernel
theorem dX3_init_31 : decode cX3_init 31 = .ok (.newarray .int, 2) := by decide +kernel
theorem dX3_init_33 : decode cX3_init 33 = .ok (.putfield 21, 3) := by decide +kernel
theorem dX3_init_36 : decode cX3_init 36 = .ok (.aload_n 0, 1) := by decide +kernel
theorem dX3_init_37 : decode cX3_init 37 = .ok (.bipush 8, 2) := by decide +kernel
theorem dX3_init_39 : decode cX3_init 39 = .ok (.newarray .int, 2) := by decide +kernel
theorem dX3_init_41 : decode cX3_init 41 = .ok (.putfield 24, 3) := by decide +kernel
theorem dX3_init_44 : decode cX3_init 44 = .ok (.aload_n 0, 1) := by decide +kernel
theorem dX3_init_45 : decode cX3_init 45 = .ok (.bipush 9, 2) := by decide +kernel
theorem dX3_init_47 : decode cX3_init 47 = .ok (.newarray .int, 2) := by decide +kernel
theorem dX3_init_49 : decode cX3_init 49 = .ok (.putfield 27, 3) := by decide +kernel
theorem dX3_init_52 : decode cX3_init 52 = .ok (.aload_n 0, 1) := by decide +kernel
theorem dX3_init_53 : decode cX3_init 53 = .ok (.bipush 9, 2) := by decide +kernel
theorem dX3_init_55 : decode cX3_init 55 = .ok (.newarray .int, 2) := by decide +kernel
theorem dX3_init_57 : decode cX3_init 57 = .ok (.putfield 30, 3) := by decide +kernel
theorem dX3_init_60 : decode cX3_init 60 = .ok (.aload_n 0, 1) := by decide +kernel
theorem dX3_init_61 : decode cX3_init 61 = .ok (.bipush 8, 2) := by decide +kernel
theorem dX3_init_63 : decode cX3_init 63 = .ok (.newarray .int, 2) := by decide +kernel
theorem dX3_init_65 : decode cX3_init 65 = .ok (.putfield 33, 3) := by decide +kernel
theorem dX3_init_68 : decode cX3_init 68 = .ok (.aload_n 0, 1) := by decide +kernel
theorem dX3_init_69 : decode cX3_init 69 = .ok (.bipush 10, 2) := by decide +kernel
theorem dX3_init_71 : decode cX3_init 71 = .ok (.newarray .int, 2) := by decide +kernel
theorem dX3_init_73 : decode cX3_init 73 = .ok (.putfield 36, 3) := by decide +kernel
theorem dX3_init_76 : decode cX3_init 76 = .ok (.return_, 1) := by decide +kernel
theorem dX3_clear_0 : decode cX3_clear 0 = .ok (.aload_n 0, 1) := by decide +kernel
theorem dX3_clear_1 : decode cX3_clear 1 = .ok (.iconst 5, 1) := by decide +kernel
theorem dX3_clear_2 : decode cX3_clear 2 = .ok (.putfield 39, 3) := by decide +kernel
theorem dX3_clear_5 : decode cX3_clear 5 = .ok (.aload_n 0, 1) := by decide +kernel
theorem dX3_clear_6 : decode cX3_clear 6 = .ok (.bipush 20, 2) := by decide +kernel
theorem dX3_clear_8 : decode cX3_clear 8 = .ok (.putfield 43, 3) := by decide +kernel
theorem dX3_clear_11 : decode cX3_clear 11 = .ok (.aload_n 0, 1) := by decide +kernel
theorem dX3_clear_12 : decode cX3_clear 12 = .ok (.iconst 0, 1) := by decide +kernel
theorem dX3_clear_13 : decode cX3_clear 13 = .ok (.putfield 46, 3) := by decide +kernel
theorem dX3_clear_16 : decode cX3_clear 16 = .ok (.aload_n 0, 1) := by decide +kernel
theorem dX3_clear_17 : decode cX3_clear 17 = .ok (.iconst 1, 1) := by decide +kernel
theorem dX3_clear_18 : decode cX3_clear 18 = .ok (.putfield 49, 3) := by decide +kernel
theorem dX3_clear_21 : decode cX3_clear 21 = .ok (.iconst 0, 1) := by decide +kernel
theorem dX3_clear_22 : decode cX3_clear 22 = .ok (.istore_n 1, 1) := by decide +kernel
theorem dX3_clear_23 : decode cX3_clear 23 = .ok (.iload_n 1, 1) := by decide +kernel
theorem dX3_clear_24 : decode cX3_clear 24 = .ok (.bipush 9, 2) := by decide +kernel
theorem dX3_clear_26 : decode cX3_clear 26 = .ok (.if_icmp .ge 30, 3) := by decide +kernel
theorem dX3_clear_29 : decode cX3_clear 29 = .ok (.aload_n 0, 1) := by decide +kernel
theorem dX3_clear_30 : decode cX3_clear 30 = .ok (.getfield 27, 3) := by decide +kernel
theorem dX3_clear_33 : decode cX3_clear 33 = .ok (.iload_n 1, 1) := by decide +kernel
theorem dX3_clear_34 : decode cX3_clear 34 = .ok (.iconst 0, 1) := by decide +kernel
theorem dX3_clear_35 : decode cX3_clear 35 = .ok (.iastore, 1) := by decide +kernel
theorem dX3_clear_36 : decode cX3_clear 36 = .ok (.aload_n 0, 1) := by decide +kernel
theorem dX3_clear_37 : decode cX3_clear 37 = .ok (.getfield 30, 3) := by decide +kernel
theorem dX3_clear_40 : decode cX3_clear 40 = .ok (.iload_n 1, 1) := by decide +kernel
theorem dX3_clear_41 : decode cX3_clear 41 = .ok (.iconst 0, 1) := by decide +kernel
theorem dX3_clear_42 : decode cX3_clear 42 = .ok (.iastore, 1) := by decide +kernel
theorem dX3_clear_43 : decode cX3_clear 43 = .ok (.aload_n 0, 1) := by decide +kernel
theorem dX3_clear_44 : decode cX3_clear 44 = .ok (.getfield 36, 3) := by decide +kernel
theorem dX3_clear_47 : decode cX3_clear 47 = .ok (.iload_n 1, 1) := by decide +kernel
theorem dX3_clear_48 : decode cX3_clear 48 = .ok (.iconst 0, 1) := by decide +kernel
theorem dX3_clear_49 : decode cX3_clear 49 = .ok (.iastore, 1) := by decide +kernel
theorem dX3_clear_50 : decode cX3_clear 50 = .ok (.iinc 1 1, 3) := by decide +kernel
theorem dX3_clear_53 : decode cX3_clear 53 = .ok (.goto (-30), 3) := by decide +kernel
theorem dX3_clear_56 : decode cX3_clear 56 = .ok (.aload_n 0, 1) := by decide +kernel
theorem dX3_clear_57 : decode cX3_clear 57 = .ok (.getfield 36, 3) := by decide +kernel
theorem dX3_clear_60 : decode cX3_clear 60 = .ok (.bipush 9, 2) := by decide +kernel
theorem dX3_clear_62 : decode cX3_clear 62 = .ok (.iconst 0, 1) := by decide +kernel
theorem dX3_clear_63 : decode cX3_clear 63 = .ok (.iastore, 1) := by decide +kernel
theorem dX3_clear_64 : decode cX3_clear 64 = .ok (.return_, 1) := by decide +kernel
set_option maxRecDepth 20000 in
theorem ggX3_take_X3_takeSteps : GoodIn wsX3_take wsX3_takeSteps := goodIn_r _ [8, 1, 9, 10, 11, 12, 32, 33, 34, 35, 36, 37, 38, 39, 40, 41, 42, 43, 44] rfl (by decide +kernel)
set_option maxRecDepth 20000 in
theorem gX3_take_X3_takeSteps : GoodIn wsX3_take (wsV RX3 53 RX3 yX3_takeSteps wsX3_takeSteps) := goodIn_app (goodIn_of _ (by decide +kernel)) ggX3_take_X3_takeSteps
set_option maxRecDepth 20000 in
theorem ggX3_take_X3_takeYounger : GoodIn wsX3_take wsX3_takeYounger := goodIn_r _ [16, 17, 9, 18, 19, 20, 21, 22, 10, 11, 12, 32, 33, 34, 35, 36, 37, 38, 39, 40, 41, 42, 43, 44] rfl (by decide +kernel)
set_option maxRecDepth 20000 in
theorem gX3_take_X3_takeYounger : GoodIn wsX3_take (wsV RX3 57 RX3 yX3_takeYounger wsX3_takeYounger) := goodIn_app (goodIn_of _ (by decide +kernel)) ggX3_take_X3_takeYounger
set_option maxRecDepth 20000 in
theorem ggX3_take_X3_takeAtStep : GoodIn wsX3_take wsX3_takeAtStep := goodIn_r _ [26, 9, 10, 11, 12, 32, 33, 34, 35, 36, 37, 38, 39, 40, 41, 42, 43, 44] rfl (by decide +kernel)
set_option maxRecDepth 20000 in
theorem gX3_take_X3_takeAtStep : GoodIn wsX3_take (wsV RX3 60 RX3 yX3_takeAtStep wsX3_takeAtStep) := goodIn_app (goodIn_of _ (by decide +kernel)) ggX3_take_X3_takeAtStep
set_option maxRecDepth 20000 in
theorem ggX3_take_X3_takeHold : GoodIn wsX3_take wsX3_takeHold := goodIn_r _ [30, 31, 10, 11, 12, 32, 33, 34, 35, 36, 37, 38, 39, 40, 41, 42, 43, 44] rfl (by decide +kernel)
set_option maxRecDepth 20000 in
theorem gX3_take_X3_takeHold : GoodIn wsX3_take (wsV RX3 64 RX3 yX3_takeHold wsX3_takeHold) := goodIn_app (goodIn_of _ (by decide +kernel)) ggX3_take_X3_takeHold
theorem dX3_take_0 : decode cX3_take 0 = .ok (.iload_n 1, 1) := by decide +kernel
theorem dX3_take_1 : decode cX3_take 1 = .ok (.bipush 115, 2) := by decide +kernel
theorem dX3_take_3 : decode cX3_take 3 = .ok (.if_icmp .ne 10, 3) := by decide +kernel
theorem dX3_take_6 : decode cX3_take 6 = .ok (.aload_n 0, 1) := by decide +kernel
theorem dX3_take_7 : decode cX3_take 7 = .ok (.aload_n 2, 1) := by decide +kernel
theorem dX3_take_8 : decode cX3_take 8 = .ok (.iload_n 3, 1) := by decide +kernel
theorem dX3_take_9 : decode cX3_take 9 = .ok (.invokevirtual 53, 3) := by decide +kernel
theorem dX3_take_12 : decode cX3_take 12 = .ok (.ireturn, 1) := by decide +kernel
theorem dX3_take_13 : decode cX3_take 13 = .ok (.aload_n 0, 1) := by decide +kernel
theorem dX3_take_14 : decode cX3_take 14 = .ok (.iconst 0, 1) := by decide +kernel
theorem dX3_take_15 : decode cX3_take 15 = .ok (.putfield 49, 3) := by decide +kernel
theorem dX3_take_18 : decode cX3_take 18 = .ok (.iload_n 1, 1) := by decide +kernel
theorem dX3_take_19 : decode cX3_take 19 = .ok (.lookupswitch 81 #[(99, 61), (104, 74), (107, 48), (121, 41)], 41) := by decide +kernel
theorem dX3_take_60 : decode cX3_take 60 = .ok (.aload_n 0, 1) := by decide +kernel
theorem dX3_take_61 : decode cX3_take 61 = .ok (.aload_n 2, 1) := by decide +kernel
theorem dX3_take_62 : decode cX3_take 62 = .ok (.iload_n 3, 1) := by decide +kernel
theorem dX3_take_63 : decode cX3_take 63 = .ok (.invokevirtual 57, 3) := by decide +kernel
theorem dX3_take_66 : decode cX3_take 66 = .ok (.ireturn, 1) := by decide +kernel
theorem dX3_take_67 : decode cX3_take 67 = .ok (.aload_n 0, 1) := by decide +kernel
theorem dX3_take_68 : decode cX3_take 68 = .ok (.aload_n 0, 1) := by decide +kernel
theorem dX3_take_69 : decode cX3_take 69 = .ok (.getfield 30, 3) := by decide +kernel
theorem dX3_take_72 : decode cX3_take 72 = .ok (.aload_n 2, 1) := by decide +kernel
theorem dX3_take_73 : decode cX3_take 73 = .ok (.iload_n 3, 1) := by decide +kernel
theorem dX3_take_74 : decode cX3_take 74 = .ok (.bipush 9, 2) := by decide +kernel
theorem dX3_take_76 : decode cX3_take 76 = .ok (.invokevirtual 60, 3) := by decide +kernel
theorem dX3_take_79 : decode cX3_take 79 = .ok (.ireturn, 1) := by decide +kernel
theorem dX3_take_80 : decode cX3_take 80 = .ok (.aload_n 0, 1) := by decide +kernel
theorem dX3_take_81 : decode cX3_take 81 = .ok (.aload_n 0, 1) := by decide +kernel
theorem dX3_take_82 : decode cX3_take 82 = .ok (.getfield 27, 3) := by decide +kernel
theorem dX3_take_85 : decode cX3_take 85 = .ok (.aload_n 2, 1) := by decide +kernel
theorem dX3_take_86 : decode cX3_take 86 = .ok (.iload_n 3, 1) := by decide +kernel
theorem dX3_take_87 : decode cX3_take 87 = .ok (.bipush 40, 2) := by decide +kernel
theorem dX3_take_89 : decode cX3_take 89 = .ok (.invokevirtual 60, 3) := by decide +kernel
theorem dX3_take_92 : decode cX3_take 92 = .ok (.ireturn, 1) := by decide +kernel
theorem dX3_take_93 : decode cX3_take 93 = .ok (.aload_n 0, 1) := by decide +kernel
theorem dX3_take_94 : decode cX3_take 94 = .ok (.aload_n 2, 1) := by decide +kernel
theorem dX3_take_95 : decode cX3_take 95 = .ok (.iload_n 3, 1) := by decide +kernel
theorem dX3_take_96 : decode cX3_take 96 = .ok (.invokevirtual 64, 3) := by decide +kernel
theorem dX3_take_99 : decode cX3_take 99 = .ok (.ireturn, 1) := by decide +kernel
theorem dX3_take_100 : decode cX3_take 100 = .ok (.iconst 0, 1) := by decide +kernel
theorem dX3_take_101 : decode cX3_take 101 = .ok (.ireturn, 1) := by decide +kernel
set_option maxRecDepth 20000 in
theorem ggX3_takeSteps_X10_outside : GoodIn wsX3_takeSteps wsX10_outside := goodIn_r _ [5] rfl (by decide +kernel)
set_option maxRecDepth 20000 in
theorem gX3_takeSteps_X10_outside_n67 : GoodIn wsX3_takeSteps (wsX10_outside) := ggX3_takeSteps_X10_outside
theorem dX3_takeSteps_0 : decode cX3_takeSteps 0 = .ok (.aload_n 0, 1) := by decide +kernel
theorem dX3_takeSteps_1 : decode cX3_takeSteps 1 = .ok (.getfield 49, 3) := by decide +kernel
theorem dX3_takeSteps_4 : decode cX3_takeSteps 4 = .ok (.ifCond .eq 20, 3) := by decide +kernel
theorem dX3_takeSteps_7 : decode cX3_takeSteps 7 = .ok (.iload_n 2, 1) := by decide +kernel
theorem dX3_takeSteps_8 : decode cX3_takeSteps 8 = .ok (.iconst 1, 1) := by decide +kernel
theorem dX3_takeSteps_9 : decode cX3_takeSteps 9 = .ok (.if_icmp .ne 15, 3) := by decide +kernel
theorem dX3_takeSteps_12 : decode cX3_takeSteps 12 = .ok (.aload_n 1, 1) := by decide +kernel
theorem dX3_takeSteps_13 : decode cX3_takeSteps 13 = .ok (.iconst 0, 1) := by decide +kernel
theorem dX3_takeSteps_14 : decode cX3_takeSteps 14 = .ok (.iaload, 1) := by decide +kernel
theorem dX3_takeSteps_15 : decode cX3_takeSteps 15 = .ok (.iconst 1, 1) := by decide +kernel
theorem dX3_takeSteps_16 : decode cX3_takeSteps 16 = .ok (.bipush 9, 2) := by decide +kernel
theorem dX3_takeSteps_18 : decode cX3_takeSteps 18 = .ok (.invokestatic 67, 3) := by decide +kernel
theorem dX3_takeSteps_21 : decode cX3_takeSteps 21 = .ok (.ifCond .eq 5, 3) := by decide +kernel
theorem dX3_takeSteps_24 : decode cX3_takeSteps 24 = .ok (.iconst 0, 1) := by decide +kernel
theorem dX3_takeSteps_25 : decode cX3_takeSteps 25 = .ok (.ireturn, 1) := by decide +kernel
theorem dX3_takeSteps_26 : decode cX3_takeSteps 26 = .ok (.aload_n 0, 1) := by decide +kernel
theorem dX3_takeSteps_27 : decode cX3_takeSteps 27 = .ok (.aload_n 1, 1) := by decide +kernel
theorem dX3_takeSteps_28 : decode cX3_takeSteps 28 = .ok (.iconst 0, 1) := by decide +kernel
theorem dX3_takeSteps_29 : decode cX3_takeSteps 29 = .ok (.iaload, 1) := by decide +kernel
theorem dX3_takeSteps_30 : decode cX3_takeSteps 30 = .ok (.putfield 39, 3) := by decide +kernel
theorem dX3_takeSteps_33 : decode cX3_takeSteps 33 = .ok (.iconst 1, 1) := by decide +kernel
theorem dX3_takeSteps_34 : decode cX3_takeSteps 34 = .ok (.ireturn, 1) := by decide +kernel
set_option maxRecDepth 20000 in
theorem ggX3_takeYounger_X10_outside : GoodIn wsX3_takeYounger wsX10_outside := goodIn_r _ [10] rfl (by decide +kernel)
set_option maxRecDepth 20000 in
theorem gX3_takeYounger_X10_outside_n67 : GoodIn wsX3_takeYounger (wsX10_outside) := ggX3_takeYounger_X10_outside
theorem dX3_takeYounger_0 : decode cX3_takeYounger 0 = .ok (.iload_n 2, 1) := by decide +kernel
theorem dX3_takeYounger_1 : decode cX3_takeYounger 1 = .ok (.iconst 5, 1) := by decide +kernel
theorem dX3_takeYounger_2 : decode cX3_takeYounger 2 = .ok (.if_icmp .ne 75, 3) := by decide +kernel
theorem dX3_takeYounger_5 : decode cX3_takeYounger 5 = .ok (.aload_n 0, 1) := by decide +kernel
theorem dX3_takeYounger_6 : decode cX3_takeYounger 6 = .ok (.getfield 46, 3) := by decide +kernel
theorem dX3_takeYounger_9 : decode cX3_takeYounger 9 = .ok (.bipush 8, 2) := by decide +kernel
theorem dX3_takeYounger_11 : decode cX3_takeYounger 11 = .ok (.if_icmp .ge 66, 3) := by decide +kernel
theorem dX3_takeYounger_14 : decode cX3_takeYounger 14 = .ok (.aload_n 1, 1) := by decide +kernel
theorem dX3_takeYounger_15 : decode cX3_takeYounger 15 = .ok (.iconst 0, 1) := by decide +kernel
theorem dX3_takeYounger_16 : decode cX3_takeYounger 16 = .ok (.iaload, 1) := by decide +kernel
theorem dX3_takeYounger_17 : decode cX3_takeYounger 17 = .ok (.iconst 0, 1) := by decide +kernel
theorem dX3_takeYounger_18 : decode cX3_takeYounger 18 = .ok (.iconst 3, 1) := by decide +kernel
theorem dX3_takeYounger_19 : decode cX3_takeYounger 19 = .ok (.invokestatic 67, 3) := by decide +kernel
theorem dX3_takeYounger_22 : decode cX3_takeYounger 22 = .ok (.ifCond .ne 55, 3) := by decide +kernel
theorem dX3_takeYounger_25 : decode cX3_takeYounger 25 = .ok (.aload_n 1, 1) := by decide +kernel
theorem dX3_takeYounger_26 : decode cX3_takeYounger 26 = .ok (.iconst 1, 1) := by decide +kernel
theorem dX3_takeYounger_27 : decode cX3_takeYounger 27 = .ok (.iaload, 1) := by decide +kernel
theorem dX3_takeYounger_28 : decode cX3_takeYounger 28 = .ok (.iconst 0, 1) := by decide +kernel
theorem dX3_takeYounger_29 : decode cX3_takeYounger 29 = .ok (.aload_n 0, 1) := by decide +kernel
theorem dX3_takeYounger_30 : decode cX3_takeYounger 30 = .ok (.getfield 39, 3) := by decide +kernel
theorem dX3_takeYounger_33 : decode cX3_takeYounger 33 = .ok (.iconst 1, 1) := by decide +kernel
theorem dX3_takeYounger_34 : decode cX3_takeYounger 34 = .ok (.isub, 1) := by decide +kernel
theorem dX3_takeYounger_35 : decode cX3_takeYounger 35 = .ok (.invokestatic 67, 3) := by decide +kernel
theorem dX3_takeYounger_38 : decode cX3_takeYounger 38 = .ok (.ifCond .ne 39, 3) := by decide +kernel
theorem dX3_takeYounger_41 : decode cX3_takeYounger 41 = .ok (.aload_n 1, 1) := by decide +kernel
theorem dX3_takeYounger_42 : decode cX3_takeYounger 42 = .ok (.iconst 2, 1) := by decide +kernel
theorem dX3_takeYounger_43 : decode cX3_takeYounger 43 = .ok (.iaload, 1) := by decide +kernel
theorem dX3_takeYounger_44 : decode cX3_takeYounger 44 = .ok (.iconst 0, 1) := by decide +kernel
theorem dX3_takeYounger_45 : decode cX3_takeYounger 45 = .ok (.bipush 20, 2) := by decide +kernel
theorem dX3_takeYounger_47 : decode cX3_takeYounger 47 = .ok (.invokestatic 67, 3) := by decide +kernel
theorem dX3_takeYounger_50 : decode cX3_takeYounger 50 = .ok (.ifCond .ne 27, 3) := by decide +kernel
theorem dX3_takeYounger_53 : decode cX3_takeYounger 53 = .ok (.aload_n 1, 1) := by decide +kernel
theorem dX3_takeYounger_54 : decode cX3_takeYounger 54 = .ok (.iconst 3, 1) := by decide +kernel
theorem dX3_takeYounger_55 : decode cX3_takeYounger 55 = .ok (.iaload, 1) := by decide +kernel
theorem dX3_takeYounger_56 : decode cX3_takeYounger 56 = .ok (.iconst 1, 1) := by decide +kernel
theorem dX3_takeYounger_57 : decode cX3_takeYounger 57 = .ok (.bipush 9, 2) := by decide +kernel
theorem dX3_takeYounger_59 : decode cX3_takeYounger 59 = .ok (.invokestatic 67, 3) := by decide +kernel
theorem dX3_takeYounger_62 : decode cX3_takeYounger 62 = .ok (.ifCond .ne 15, 3) := by decide +kernel
theorem dX3_takeYounger_65 : decode cX3_takeYounger 65 = .ok (.aload_n 1, 1) := by decide +kernel
theorem dX3_takeYounger_66 : decode cX3_takeYounger 66 = .ok (.iconst 4, 1) := by decide +kernel
theorem dX3_takeYounger_67 : decode cX3_takeYounger 67 = .ok (.iaload, 1) := by decide +kernel
theorem dX3_takeYounger_68 : decode cX3_takeYounger 68 = .ok (.iconst 1, 1) := by decide +kernel
theorem dX3_takeYounger_69 : decode cX3_takeYounger 69 = .ok (.bipush 20, 2) := by decide +kernel
theorem dX3_takeYounger_71 : decode cX3_takeYounger 71 = .ok (.invokestatic 67, 3) := by decide +kernel
theorem dX3_takeYounger_74 : decode cX3_takeYounger 74 = .ok (.ifCond .eq 5, 3) := by decide +kernel
theorem dX3_takeYounger_77 : decode cX3_takeYounger 77 = .ok (.iconst 0, 1) := by decide +kernel
theorem dX3_takeYounger_78 : decode cX3_takeYounger 78 = .ok (.ireturn, 1) := by decide +kernel
theorem dX3_takeYounger_79 : decode cX3_takeYounger 79 = .ok (.aload_n 0, 1) := by decide +kernel
theorem dX3_takeYounger_80 : decode cX3_takeYounger 80 = .ok (.getfield 9, 3) := by decide +kernel
theorem dX3_takeYounger_83 : decode cX3_takeYounger 83 = .ok (.aload_n 0, 1) := by decide +kernel
theorem dX3_takeYounger_84 : decode cX3_takeYounger 84 = .ok (.getfield 46, 3) := by decide +kernel
theorem dX3_takeYounger_87 : decode cX3_takeYounger 87 = .ok (.aload_n 1, 1) := by decide +kernel
theorem dX3_takeYounger_88 : decode cX3_takeYounger 88 = .ok (.iconst 0, 1) := by decide +kernel
theorem dX3_takeYounger_89 : decode cX3_takeYounger 89 = .ok (.iaload, 1) := by decide +kernel
theorem dX3_takeYounger_90 : decode cX3_takeYounger 90 = .ok (.iastore, 1) := by decide +kernel
theorem dX3_takeYounger_91 : decode cX3_takeYounger 91 = .ok (.aload_n 0, 1) := by decide +kernel
theorem dX3_takeYounger_92 : decode cX3_takeYounger 92 = .ok (.getfield 15, 3) := by decide +kernel
theorem dX3_takeYounger_95 : decode cX3_takeYounger 95 = .ok (.aload_n 0, 1) := by decide +kernel
theorem dX3_takeYounger_96 : decode cX3_takeYounger 96 = .ok (.getfield 46, 3) := by decide +kernel
theorem dX3_takeYounger_99 : decode cX3_takeYounger 99 = .ok (.aload_n 1, 1) := by decide +kernel
theorem dX3_takeYounger_100 : decode cX3_takeYounger 100 = .ok (.iconst 1, 1) := by decide +kernel
theorem dX3_takeYounger_101 : decode cX3_takeYounger 101 = .ok (.iaload, 1) := by decide +kernel
theorem dX3_takeYounger_102 : decode cX3_takeYounger 102 = .ok (.iastore, 1) := by decide +kernel
theorem dX3_takeYounger_103 : decode cX3_takeYounger 103 = .ok (.aload_n 0, 1) := by decide +kernel
theorem dX3_takeYounger_104 : decode cX3_takeYounger 104 = .ok (.getfield 18, 3) := by decide +kernel
theorem dX3_takeYounger_107 : decode cX3_takeYounger 107 = .ok (.aload_n 0, 1) := by decide +kernel
theorem dX3_takeYounger_108 : decode cX3_takeYounger 108 = .ok (.getfield 46, 3) := by decide +kernel
theorem dX3_takeYounger_111 : decode cX3_takeYounger 111 = .ok (.aload_n 1, 1) := by decide +kernel
theorem dX3_takeYounger_112 : decode cX3_takeYounger 112 = .ok (.iconst 2, 1) := by decide +kernel
theorem dX3_takeYounger_113 : decode cX3_takeYounger 113 = .ok (.iaload, 1) := by decide +kernel
theorem dX3_takeYounger_114 : decode cX3_takeYounger 114 = .ok (.iastore, 1) := by decide +kernel
theorem dX3_takeYounger_115 : decode cX3_takeYounger 115 = .ok (.aload_n 0, 1) := by decide +kernel
theorem dX3_takeYounger_116 : decode cX3_takeYounger 116 = .ok (.getfield 21, 3) := by decide +kernel
theorem dX3_takeYounger_119 : decode cX3_takeYounger 119 = .ok (.aload_n 0, 1) := by decide +kernel
theorem dX3_takeYounger_120 : decode cX3_takeYounger 120 = .ok (.getfield 46, 3) := by decide +kernel
theorem dX3_takeYounger_123 : decode cX3_takeYounger 123 = .ok (.aload_n 1, 1) := by decide +kernel
theorem dX3_takeYounger_124 : decode cX3_takeYounger 124 = .ok (.iconst 3, 1) := by decide +kernel
theorem dX3_takeYounger_125 : decode cX3_takeYounger 125 = .ok (.iaload, 1) := by decide +kernel
theorem dX3_takeYounger_126 : decode cX3_takeYounger 126 = .ok (.iastore, 1) := by decide +kernel
theorem dX3_takeYounger_127 : decode cX3_takeYounger 127 = .ok (.aload_n 0, 1) := by decide +kernel
theorem dX3_takeYounger_128 : decode cX3_takeYounger 128 = .ok (.getfield 24, 3) := by decide +kernel
theorem dX3_takeYounger_131 : decode cX3_takeYounger 131 = .ok (.aload_n 0, 1) := by decide +kernel
theorem dX3_takeYounger_132 : decode cX3_takeYounger 132 = .ok (.getfield 46, 3) := by decide +kernel
theorem dX3_takeYounger_135 : decode cX3_takeYounger 135 = .ok (.aload_n 1, 1) := by decide +kernel
theorem dX3_takeYounger_136 : decode cX3_takeYounger 136 = .ok (.iconst 4, 1) := by decide +kernel
theorem dX3_takeYounger_137 : decode cX3_takeYounger 137 = .ok (.iaload, 1) := by decide +kernel
theorem dX3_takeYounger_138 : decode cX3_takeYounger 138 = .ok (.iastore, 1) := by decide +kernel
theorem dX3_takeYounger_139 : decode cX3_takeYounger 139 = .ok (.aload_n 0, 1) := by decide +kernel
theorem dX3_takeYounger_140 : decode cX3_takeYounger 140 = .ok (.dup, 1) := by decide +kernel
theorem dX3_takeYounger_141 : decode cX3_takeYounger 141 = .ok (.getfield 46, 3) := by decide +kernel
theorem dX3_takeYounger_144 : decode cX3_takeYounger 144 = .ok (.iconst 1, 1) := by decide +kernel
theorem dX3_takeYounger_145 : decode cX3_takeYounger 145 = .ok (.iadd, 1) := by decide +kernel
theorem dX3_takeYounger_146 : decode cX3_takeYounger 146 = .ok (.putfield 46, 3) := by decide +kernel
theorem dX3_takeYounger_149 : decode cX3_takeYounger 149 = .ok (.iconst 1, 1) := by decide +kernel
theorem dX3_takeYounger_150 : decode cX3_takeYounger 150 = .ok (.ireturn, 1) := by decide +kernel
set_option maxRecDepth 20000 in
theorem ggX3_takeAtStep_X10_outside : GoodIn wsX3_takeAtStep wsX10_outside := goodIn_r _ [4] rfl (by decide +kernel)
set_option maxRecDepth 20000 in
theorem gX3_takeAtStep_X10_outside_n67 : GoodIn wsX3_takeAtStep (wsX10_outside) := ggX3_takeAtStep_X10_outside
theorem dX3_takeAtStep_0 : decode cX3_takeAtStep 0 = .ok (.iload_n 3, 1) := by decide +kernel
theorem dX3_takeAtStep_1 : decode cX3_takeAtStep 1 = .ok (.iconst 2, 1) := by decide +kernel
theorem dX3_takeAtStep_2 : decode cX3_takeAtStep 2 = .ok (.if_icmp .ne 31, 3) := by decide +kernel
theorem dX3_takeAtStep_5 : decode cX3_takeAtStep 5 = .ok (.aload_n 2, 1) := by decide +kernel
theorem dX3_takeAtStep_6 : decode cX3_takeAtStep 6 = .ok (.iconst 0, 1) := by decide +kernel
theorem dX3_takeAtStep_7 : decode cX3_takeAtStep 7 = .ok (.iaload, 1) := by decide +kernel
theorem dX3_takeAtStep_8 : decode cX3_takeAtStep 8 = .ok (.iconst 0, 1) := by decide +kernel
theorem dX3_takeAtStep_9 : decode cX3_takeAtStep 9 = .ok (.aload_n 0, 1) := by decide +kernel
theorem dX3_takeAtStep_10 : decode cX3_takeAtStep 10 = .ok (.getfield 39, 3) := by decide +kernel
theorem dX3_takeAtStep_13 : decode cX3_takeAtStep 13 = .ok (.iconst 1, 1) := by decide +kernel
theorem dX3_takeAtStep_14 : decode cX3_takeAtStep 14 = .ok (.isub, 1) := by decide +kernel
theorem dX3_takeAtStep_15 : decode cX3_takeAtStep 15 = .ok (.invokestatic 67, 3) := by decide +kernel
theorem dX3_takeAtStep_18 : decode cX3_takeAtStep 18 = .ok (.ifCond .ne 15, 3) := by decide +kernel
theorem dX3_takeAtStep_21 : decode cX3_takeAtStep 21 = .ok (.aload_n 2, 1) := by decide +kernel
theorem dX3_takeAtStep_22 : decode cX3_takeAtStep 22 = .ok (.iconst 1, 1) := by decide +kernel
theorem dX3_takeAtStep_23 : decode cX3_takeAtStep 23 = .ok (.iaload, 1) := by decide +kernel
theorem dX3_takeAtStep_24 : decode cX3_takeAtStep 24 = .ok (.iconst 0, 1) := by decide +kernel
theorem dX3_takeAtStep_25 : decode cX3_takeAtStep 25 = .ok (.iload 4, 2) := by decide +kernel
theorem dX3_takeAtStep_27 : decode cX3_takeAtStep 27 = .ok (.invokestatic 67, 3) := by decide +kernel
theorem dX3_takeAtStep_30 : decode cX3_takeAtStep 30 = .ok (.ifCond .eq 5, 3) := by decide +kernel
theorem dX3_takeAtStep_33 : decode cX3_takeAtStep 33 = .ok (.iconst 0, 1) := by decide +kernel
theorem dX3_takeAtStep_34 : decode cX3_takeAtStep 34 = .ok (.ireturn, 1) := by decide +kernel
theorem dX3_takeAtStep_35 : decode cX3_takeAtStep 35 = .ok (.aload_n 1, 1) := by decide +kernel
theorem dX3_takeAtStep_36 : decode cX3_takeAtStep 36 = .ok (.aload_n 2, 1) := by decide +kernel
theorem dX3_takeAtStep_37 : decode cX3_takeAtStep 37 = .ok (.iconst 0, 1) := by decide +kernel
theorem dX3_takeAtStep_38 : decode cX3_takeAtStep 38 = .ok (.iaload, 1) := by decide +kernel
theorem dX3_takeAtStep_39 : decode cX3_takeAtStep 39 = .ok (.aload_n 2, 1) := by decide +kernel
theorem dX3_takeAtStep_40 : decode cX3_takeAtStep 40 = .ok (.iconst 1, 1) := by decide +kernel
theorem dX3_takeAtStep_41 : decode cX3_takeAtStep 41 = .ok (.iaload, 1) := by decide +kernel
theorem dX3_takeAtStep_42 : decode cX3_takeAtStep 42 = .ok (.iastore, 1) := by decide +kernel
theorem dX3_takeAtStep_43 : decode cX3_takeAtStep 43 = .ok (.iconst 1, 1) := by decide +kernel
theorem dX3_takeAtStep_44 : decode cX3_takeAtStep 44 = .ok (.ireturn, 1) := by decide +kernel
set_option maxRecDepth 20000 in
theorem ggX3_takeHold_X10_outside : GoodIn wsX3_takeHold wsX10_outside := goodIn_r _ [4] rfl (by decide +kernel)
set_option maxRecDepth 20000 in
theorem gX3_takeHold_X10_outside_n67 : GoodIn wsX3_takeHold (wsX10_outside) := ggX3_takeHold_X10_outside
theorem dX3_takeHold_0 : decode cX3_takeHold 0 = .ok (.iload_n 2, 1) := by decide +kernel
theorem dX3_takeHold_1 : decode cX3_takeHold 1 = .ok (.iconst 1, 1) := by decide +kernel
theorem dX3_takeHold_2 : decode cX3_takeHold 2 = .ok (.if_icmp .ne 15, 3) := by decide +kernel
theorem dX3_takeHold_5 : decode cX3_takeHold 5 = .ok (.aload_n 1, 1) := by decide +kernel
theorem dX3_takeHold_6 : decode cX3_takeHold 6 = .ok (.iconst 0, 1) := by decide +kernel
theorem dX3_takeHold_7 : decode cX3_takeHold 7 = .ok (.iaload, 1) := by decide +kernel
theorem dX3_takeHold_8 : decode cX3_takeHold 8 = .ok (.iconst 1, 1) := by decide +kernel
theorem dX3_takeHold_9 : decode cX3_takeHold 9 = .ok (.bipush 99, 2) := by decide +kernel
theorem dX3_takeHold_11 : decode cX3_takeHold 11 = .ok (.invokestatic 67, 3) := by decide +kernel
theorem dX3_takeHold_14 : decode cX3_takeHold 14 = .ok (.ifCond .eq 5, 3) := by decide +kernel
theorem dX3_takeHold_17 : decode cX3_takeHold 17 = .ok (.iconst 0, 1) := by decide +kernel
theorem dX3_takeHold_18 : decode cX3_takeHold 18 = .ok (.ireturn, 1) := by decide +kernel
theorem dX3_takeHold_19 : decode cX3_takeHold 19 = .ok (.aload_n 0, 1) := by decide +kernel
theorem dX3_takeHold_20 : decode cX3_takeHold 20 = .ok (.aload_n 1, 1) := by decide +kernel
theorem dX3_takeHold_21 : decode cX3_takeHold 21 = .ok (.iconst 0, 1) := by decide +kernel
theorem dX3_takeHold_22 : decode cX3_takeHold 22 = .ok (.iaload, 1) := by decide +kernel
theorem dX3_takeHold_23 : decode cX3_takeHold 23 = .ok (.putfield 43, 3) := by decide +kernel
theorem dX3_takeHold_26 : decode cX3_takeHold 26 = .ok (.iconst 1, 1) := by decide +kernel
theorem dX3_takeHold_27 : decode cX3_takeHold 27 = .ok (.ireturn, 1) := by decide +kernel
set_option maxRecDepth 20000 in
theorem ggX3_lineUp_X3_drinksBehind : GoodIn wsX3_lineUp wsX3_drinksBehind := goodIn_r _ [9, 3, 10, 11, 12, 13, 14, 15, 16, 17, 18, 19, 20, 21, 22, 23] rfl (by decide +kernel)
set_option maxRecDepth 20000 in
theorem gX3_lineUp_X3_drinksBehind : GoodIn wsX3_lineUp (wsV RX3 71 RX3 yX3_drinksBehind wsX3_drinksBehind) := goodIn_app (goodIn_of _ (by decide +kernel)) ggX3_lineUp_X3_drinksBehind
theorem dX3_lineUp_0 : decode cX3_lineUp 0 = .ok (.iconst 0, 1) := by decide +kernel
theorem dX3_lineUp_1 : decode cX3_lineUp 1 = .ok (.istore_n 1, 1) := by decide +kernel
theorem dX3_lineUp_2 : decode cX3_lineUp 2 = .ok (.iload_n 1, 1) := by decide +kernel
theorem dX3_lineUp_3 : decode cX3_lineUp 3 = .ok (.aload_n 0, 1) := by decide +kernel
theorem dX3_lineUp_4 : decode cX3_lineUp 4 = .ok (.getfield 46, 3) := by decide +kernel
theorem dX3_lineUp_7 : decode cX3_lineUp 7 = .ok (.if_icmp .ge 89, 3) := by decide +kernel
theorem dX3_lineUp_10 : decode cX3_lineUp 10 = .ok (.iload_n 1, 1) := by decide +kernel
theorem dX3_lineUp_11 : decode cX3_lineUp 11 = .ok (.istore_n 2, 1) := by decide +kernel
theorem dX3_lineUp_12 : decode cX3_lineUp 12 = .ok (.iload_n 2, 1) := by decide +kernel
theorem dX3_lineUp_13 : decode cX3_lineUp 13 = .ok (.ifCond .le 39, 3) := by decide +kernel
theorem dX3_lineUp_16 : decode cX3_lineUp 16 = .ok (.aload_n 0, 1) := by decide +kernel
theorem dX3_lineUp_17 : decode cX3_lineUp 17 = .ok (.aload_n 0, 1) := by decide +kernel
theorem dX3_lineUp_18 : decode cX3_lineUp 18 = .ok (.getfield 33, 3) := by decide +kernel
theorem dX3_lineUp_21 : decode cX3_lineUp 21 = .ok (.iload_n 2, 1) := by decide +kernel
theorem dX3_lineUp_22 : decode cX3_lineUp 22 = .ok (.iconst 1, 1) := by decide +kernel
theorem dX3_lineUp_23 : decode cX3_lineUp 23 = .ok (.isub, 1) := by decide +kernel
theorem dX3_lineUp_24 : decode cX3_lineUp 24 = .ok (.iaload, 1) := by decide +kernel
theorem dX3_lineUp_25 : decode cX3_lineUp 25 = .ok (.iload_n 1, 1) := by decide +kernel
theorem dX3_lineUp_26 : decode cX3_lineUp 26 = .ok (.invokevirtual 71, 3) := by decide +kernel
theorem dX3_lineUp_29 : decode cX3_lineUp 29 = .ok (.ifCond .eq 23, 3) := by decide +kernel
theorem dX3_lineUp_32 : decode cX3_lineUp 32 = .ok (.aload_n 0, 1) := by decide +kernel
theorem dX3_lineUp_33 : decode cX3_lineUp 33 = .ok (.getfield 33, 3) := by decide +kernel
theorem dX3_lineUp_36 : decode cX3_lineUp 36 = .ok (.iload_n 2, 1) := by decide +kernel
theorem dX3_lineUp_37 : decode cX3_lineUp 37 = .ok (.aload_n 0, 1) := by decide +kernel
theorem dX3_lineUp_38 : decode cX3_lineUp 38 = .ok (.getfield 33, 3) := by decide +kernel
theorem dX3_lineUp_41 : decode cX3_lineUp 41 = .ok (.iload_n 2, 1) := by decide +kernel
theorem dX3_lineUp_42 : decode cX3_lineUp 42 = .ok (.iconst 1, 1) := by decide +kernel
theorem dX3_lineUp_43 : decode cX3_lineUp 43 = .ok (.isub, 1) := by decide +kernel
theorem dX3_lineUp_44 : decode cX3_lineUp 44 = .ok (.iaload, 1) := by decide +kernel
theorem dX3_lineUp_45 : decode cX3_lineUp 45 = .ok (.iastore, 1) := by decide +kernel
theorem dX3_lineUp_46 : decode cX3_lineUp 46 = .ok (.iinc 2 (-1), 3) := by decide +kernel
theorem dX3_lineUp_49 : decode cX3_lineUp 49 = .ok (.goto (-37), 3) := by decide +kernel
theorem dX3_lineUp_52 : decode cX3_lineUp 52 = .ok (.aload_n 0, 1) := by decide +kernel
theorem dX3_lineUp_53 : decode cX3_lineUp 53 = .ok (.getfield 33, 3) := by decide +kernel
theorem dX3_lineUp_56 : decode cX3_lineUp 56 = .ok (.iload_n 2, 1) := by decide +kernel
theorem dX3_lineUp_57 : decode cX3_lineUp 57 = .ok (.iload_n 1, 1) := by decide +kernel
theorem dX3_lineUp_58 : decode cX3_lineUp 58 = .ok (.iastore, 1) := by decide +kernel
theorem dX3_lineUp_59 : decode cX3_lineUp 59 = .ok (.aload_n 0, 1) := by decide +kernel
theorem dX3_lineUp_60 : decode cX3_lineUp 60 = .ok (.getfield 15, 3) := by decide +kernel
theorem dX3_lineUp_63 : decode cX3_lineUp 63 = .ok (.iload_n 1, 1) := by decide +kernel
theorem dX3_lineUp_64 : decode cX3_lineUp 64 = .ok (.iaload, 1) := by decide +kernel
theorem dX3_lineUp_65 : decode cX3_lineUp 65 = .ok (.iconst 1, 1) := by decide +kernel
theorem dX3_lineUp_66 : decode cX3_lineUp 66 = .ok (.iadd, 1) := by decide +kernel
theorem dX3_lineUp_67 : decode cX3_lineUp 67 = .ok (.istore_n 3, 1) := by decide +kernel
theorem dX3_lineUp_68 : decode cX3_lineUp 68 = .ok (.iload_n 3, 1) := by decide +kernel
theorem dX3_lineUp_69 : decode cX3_lineUp 69 = .ok (.bipush 9, 2) := by decide +kernel
theorem dX3_lineUp_71 : decode cX3_lineUp 71 = .ok (.if_icmp .gt 19, 3) := by decide +kernel
theorem dX3_lineUp_74 : decode cX3_lineUp 74 = .ok (.aload_n 0, 1) := by decide +kernel
theorem dX3_lineUp_75 : decode cX3_lineUp 75 = .ok (.getfield 36, 3) := by decide +kernel
theorem dX3_lineUp_78 : decode cX3_lineUp 78 = .ok (.iload_n 3, 1) := by decide +kernel
theorem dX3_lineUp_79 : decode cX3_lineUp 79 = .ok (.dup2, 1) := by decide +kernel
theorem dX3_lineUp_80 : decode cX3_lineUp 80 = .ok (.iaload, 1) := by decide +kernel
theorem dX3_lineUp_81 : decode cX3_lineUp 81 = .ok (.iconst 1, 1) := by decide +kernel
theorem dX3_lineUp_82 : decode cX3_lineUp 82 = .ok (.iadd, 1) := by decide +kernel
theorem dX3_lineUp_83 : decode cX3_lineUp 83 = .ok (.iastore, 1) := by decide +kernel
theorem dX3_lineUp_84 : decode cX3_lineUp 84 = .ok (.iinc 3 1, 3) := by decide +kernel
theorem dX3_lineUp_87 : decode cX3_lineUp 87 = .ok (.goto (-19), 3) := by decide +kernel
theorem dX3_lineUp_90 : decode cX3_lineUp 90 = .ok (.iinc 1 1, 3) := by decide +kernel
theorem dX3_lineUp_93 : decode cX3_lineUp 93 = .ok (.goto (-91), 3) := by decide +kernel
theorem dX3_lineUp_96 : decode cX3_lineUp 96 = .ok (.return_, 1) := by decide +kernel
theorem dX3_drinksBehind_0 : decode cX3_drinksBehind 0 = .ok (.aload_n 0, 1) := by decide +kernel
theorem dX3_drinksBehind_1 : decode cX3_drinksBehind 1 = .ok (.getfield 15, 3) := by decide +kernel
theorem dX3_drinksBehind_4 : decode cX3_drinksBehind 4 = .ok (.iload_n 1, 1) := by decide +kernel
theorem dX3_drinksBehind_5 : decode cX3_drinksBehind 5 = .ok (.iaload, 1) := by decide +kernel
theorem dX3_drinksBehind_6 : decode cX3_drinksBehind 6 = .ok (.aload_n 0, 1) := by decide +kernel
theorem dX3_drinksBehind_7 : decode cX3_drinksBehind 7 = .ok (.getfield 15, 3) := by decide +kernel
theorem dX3_drinksBehind_10 : decode cX3_drinksBehind 10 = .ok (.iload_n 2, 1) := by decide +kernel
theorem dX3_drinksBehind_11 : decode cX3_drinksBehind 11 = .ok (.iaload, 1) := by decide +kernel
theorem dX3_drinksBehind_12 : decode cX3_drinksBehind 12 = .ok (.if_icmp .gt 33, 3) := by decide +kernel
theorem dX3_drinksBehind_15 : decode cX3_drinksBehind 15 = .ok (.aload_n 0, 1) := by decide +kernel
theorem dX3_drinksBehind_16 : decode cX3_drinksBehind 16 = .ok (.getfield 15, 3) := by decide +kernel
theorem dX3_drinksBehind_19 : decode cX3_drinksBehind 19 = .ok (.iload_n 1, 1) := by decide +kernel
theorem dX3_drinksBehind_20 : decode cX3_drinksBehind 20 = .ok (.iaload, 1) := by decide +kernel
theorem dX3_drinksBehind_21 : decode cX3_drinksBehind 21 = .ok (.aload_n 0, 1) := by decide +kernel
theorem dX3_drinksBehind_22 : decode cX3_drinksBehind 22 = .ok (.getfield 15, 3) := by decide +kernel
theorem dX3_drinksBehind_25 : decode cX3_drinksBehind 25 = .ok (.iload_n 2, 1) := by decide +kernel
theorem dX3_drinksBehind_26 : decode cX3_drinksBehind 26 = .ok (.iaload, 1) := by decide +kernel
theorem dX3_drinksBehind_27 : decode cX3_drinksBehind 27 = .ok (.if_icmp .ne 22, 3) := by decide +kernel
theorem dX3_drinksBehind_30 : decode cX3_drinksBehind 30 = .ok (.aload_n 0, 1) := by decide +kernel
theorem dX3_drinksBehind_31 : decode cX3_drinksBehind 31 = .ok (.getfield 18, 3) := by decide +kernel
theorem dX3_drinksBehind_34 : decode cX3_drinksBehind 34 = .ok (.iload_n 1, 1) := by decide +kernel
theorem dX3_drinksBehind_35 : decode cX3_drinksBehind 35 = .ok (.iaload, 1) := by decide +kernel
theorem dX3_drinksBehind_36 : decode cX3_drinksBehind 36 = .ok (.aload_n 0, 1) := by decide +kernel
theorem dX3_drinksBehind_37 : decode cX3_drinksBehind 37 = .ok (.getfield 18, 3) := by decide +kernel
theorem dX3_drinksBehind_40 : decode cX3_drinksBehind 40 = .ok (.iload_n 2, 1) := by decide +kernel
theorem dX3_drinksBehind_41 : decode cX3_drinksBehind 41 = .ok (.iaload, 1) := by decide +kernel
theorem dX3_drinksBehind_42 : decode cX3_drinksBehind 42 = .ok (.if_icmp .le 7, 3) := by decide +kernel
theorem dX3_drinksBehind_45 : decode cX3_drinksBehind 45 = .ok (.iconst 1, 1) := by decide +kernel
theorem dX3_drinksBehind_46 : decode cX3_drinksBehind 46 = .ok (.goto 4, 3) := by decide +kernel
theorem dX3_drinksBehind_49 : decode cX3_drinksBehind 49 = .ok (.iconst 0, 1) := by decide +kernel
theorem dX3_drinksBehind_50 : decode cX3_drinksBehind 50 = .ok (.ireturn, 1) := by decide +kernel
theorem dX3_wants_0 : decode cX3_wants 0 = .ok (.aload_n 0, 1) := by decide +kernel
theorem dX3_wants_1 : decode cX3_wants 1 = .ok (.getfield 9, 3) := by decide +kernel
theorem dX3_wants_4 : decode cX3_wants 4 = .ok (.iload_n 1, 1) := by decide +kernel
theorem dX3_wants_5 : decode cX3_wants 5 = .ok (.iaload, 1) := by decide +kernel
theorem dX3_wants_6 : decode cX3_wants 6 = .ok (.tableswitch 61 1 3 #[26, 37, 46], 26) := by decide +kernel
theorem dX3_wants_32 : decode cX3_wants 32 = .ok (.aload_n 0, 1) := by decide +kernel
theorem dX3_wants_33 : decode cX3_wants 33 = .ok (.getfield 21, 3) := by decide +kernel
theorem dX3_wants_36 : decode cX3_wants 36 = .ok (.iload_n 1, 1) := by decide +kernel
theorem dX3_wants_37 : decode cX3_wants 37 = .ok (.iaload, 1) := by decide +kernel
theorem dX3_wants_38 : decode cX3_wants 38 = .ok (.iconst 2, 1) := by decide +kernel
theorem dX3_wants_39 : decode cX3_wants 39 = .ok (.idiv, 1) := by decide +kernel
theorem dX3_wants_40 : decode cX3_wants 40 = .ok (.iconst 1, 1) := by decide +kernel
theorem dX3_wants_41 : decode cX3_wants 41 = .ok (.iadd, 1) := by decide +kernel
theorem dX3_wants_42 : decode cX3_wants 42 = .ok (.ireturn, 1) := by decide +kernel
theorem dX3_wants_43 : decode cX3_wants 43 = .ok (.iconst 2, 1) := by decide +kernel
theorem dX3_wants_44 : decode cX3_wants 44 = .ok (.aload_n 0, 1) := by decide +kernel
theorem dX3_wants_45 : decode cX3_wants 45 = .ok (.getfield 21, 3) := by decide +kernel
theorem dX3_wants_48 : decode cX3_wants 48 = .ok (.iload_n 1, 1) := by decide +kernel
theorem dX3_wants_49 : decode cX3_wants 49 = .ok (.iaload, 1) := by decide +kernel
theorem dX3_wants_50 : decode cX3_wants 50 = .ok (.imul, 1) := by decide +kernel
theorem dX3_wants_51 : decode cX3_wants 51 = .ok (.ireturn, 1) := by decide +kernel
theorem dX3_wants_52 : decode cX3_wants 52 = .ok (.iload_n 2, 1) := by decide +kernel
theorem dX3_wants_53 : decode cX3_wants 53 = .ok (.ifCond .eq 7, 3) := by decide +kernel
theorem dX3_wants_56 : decode cX3_wants 56 = .ok (.iconst 0, 1) := by decide +kernel
theorem dX3_wants_57 : decode cX3_wants 57 = .ok (.goto 9, 3) := by decide +kernel
theorem dX3_wants_60 : decode cX3_wants 60 = .ok (.aload_n 0, 1) := by decide +kernel
theorem dX3_wants_61 : decode cX3_wants 61 = .ok (.getfield 21, 3) := by decide +kernel
theorem dX3_wants_64 : decode cX3_wants 64 = .ok (.iload_n 1, 1) := by decide +kernel
theorem dX3_wants_65 : decode cX3_wants 65 = .ok (.iaload, 1) := by decide +kernel
theorem dX3_wants_66 : decode cX3_wants 66 = .ok (.ireturn, 1) := by decide +kernel
theorem dX3_wants_67 : decode cX3_wants 67 = .ok (.aload_n 0, 1) := by decide +kernel
theorem dX3_wants_68 : decode cX3_wants 68 = .ok (.getfield 21, 3) := by decide +kernel
theorem dX3_wants_71 : decode cX3_wants 71 = .ok (.iload_n 1, 1) := by decide +kernel
theorem dX3_wants_72 : decode cX3_wants 72 = .ok (.iaload, 1) := by decide +kernel
theorem dX3_wants_73 : decode cX3_wants 73 = .ok (.ireturn, 1) := by decide +kernel
set_option maxRecDepth 20000 in
theorem ggX3_gains_X3_wants : GoodIn wsX3_gains wsX3_wants := goodIn_r _ [7, 1, 2, 8, 9, 10, 11, 12, 13, 14, 15, 16, 17, 18, 19, 20] rfl (by decide +kernel)
set_option maxRecDepth 20000 in
theorem gX3_gains_X3_wants : GoodIn wsX3_gains (wsV RX3 75 RX3 yX3_wants wsX3_wants) := goodIn_app (goodIn_of _ (by decide +kernel)) ggX3_gains_X3_wants
theorem dX3_gains_0 : decode cX3_gains 0 = .ok (.aload_n 0, 1) := by decide +kernel
theorem dX3_gains_1 : decode cX3_gains 1 = .ok (.getfield 9, 3) := by decide +kernel
theorem dX3_gains_4 : decode cX3_gains 4 = .ok (.iload_n 1, 1) := by decide +kernel
theorem dX3_gains_5 : decode cX3_gains 5 = .ok (.iaload, 1) := by decide +kernel
theorem dX3_gains_6 : decode cX3_gains 6 = .ok (.iconst 1, 1) := by decide +kernel
theorem dX3_gains_7 : decode cX3_gains 7 = .ok (.if_icmp .ne 7, 3) := by decide +kernel
theorem dX3_gains_10 : decode cX3_gains 10 = .ok (.iconst 1, 1) := by decide +kernel
theorem dX3_gains_11 : decode cX3_gains 11 = .ok (.goto 4, 3) := by decide +kernel
theorem dX3_gains_14 : decode cX3_gains 14 = .ok (.iconst 0, 1) := by decide +kernel
theorem dX3_gains_15 : decode cX3_gains 15 = .ok (.istore_n 3, 1) := by decide +kernel
theorem dX3_gains_16 : decode cX3_gains 16 = .ok (.iload_n 3, 1) := by decide +kernel
theorem dX3_gains_17 : decode cX3_gains 17 = .ok (.ifCond .eq 12, 3) := by decide +kernel
theorem dX3_gains_20 : decode cX3_gains 20 = .ok (.aload_n 0, 1) := by decide +kernel
theorem dX3_gains_21 : decode cX3_gains 21 = .ok (.iload_n 1, 1) := by decide +kernel
theorem dX3_gains_22 : decode cX3_gains 22 = .ok (.iconst 0, 1) := by decide +kernel
theorem dX3_gains_23 : decode cX3_gains 23 = .ok (.invokevirtual 75, 3) := by decide +kernel
theorem dX3_gains_26 : decode cX3_gains 26 = .ok (.goto 9, 3) := by decide +kernel
theorem dX3_gains_29 : decode cX3_gains 29 = .ok (.aload_n 0, 1) := by decide +kernel
theorem dX3_gains_30 : decode cX3_gains 30 = .ok (.getfield 21, 3) := by decide +kernel
theorem dX3_gains_33 : decode cX3_gains 33 = .ok (.iload_n 1, 1) := by decide +kernel
theorem dX3_gains_34 : decode cX3_gains 34 = .ok (.iaload, 1) := by decide +kernel
theorem dX3_gains_35 : decode cX3_gains 35 = .ok (.istore 4, 2) := by decide +kernel
theorem dX3_gains_37 : decode cX3_gains 37 = .ok (.iload_n 2, 1) := by decide +kernel
theorem dX3_gains_38 : decode cX3_gains 38 = .ok (.iload 4, 2) := by decide +kernel
theorem dX3_gains_40 : decode cX3_gains 40 = .ok (.if_icmp .lt 5, 3) := by decide +kernel
theorem dX3_gains_43 : decode cX3_gains 43 = .ok (.iconst 1, 1) := by decide +kernel
theorem dX3_gains_44 : decode cX3_gains 44 = .ok (.ireturn, 1) := by decide +kernel
theorem dX3_gains_45 : decode cX3_gains 45 = .ok (.iload_n 3, 1) := by decide +kernel
theorem dX3_gains_46 : decode cX3_gains 46 = .ok (.ifCond .eq 7, 3) := by decide +kernel
theorem dX3_gains_49 : decode cX3_gains 49 = .ok (.iconst (-1), 1) := by decide +kernel
theorem dX3_gains_50 : decode cX3_gains 50 = .ok (.goto 11, 3) := by decide +kernel
theorem dX3_gains_53 : decode cX3_gains 53 = .ok (.iload_n 2, 1) := by decide +kernel
theorem dX3_gains_54 : decode cX3_gains 54 = .ok (.aload_n 0, 1) := by decide +kernel
theorem dX3_gains_55 : decode cX3_gains 55 = .ok (.getfield 21, 3) := by decide +kernel
theorem dX3_gains_58 : decode cX3_gains 58 = .ok (.iload_n 1, 1) := by decide +kernel
theorem dX3_gains_59 : decode cX3_gains 59 = .ok (.iaload, 1) := by decide +kernel
theorem dX3_gains_60 : decode cX3_gains 60 = .ok (.isub, 1) := by decide +kernel
theorem dX3_gains_61 : decode cX3_gains 61 = .ok (.ireturn, 1) := by decide +kernel
theorem dX4_init_0 : decode cX4_init 0 = .ok (.aload_n 0, 1) := by decide +kernel
theorem dX4_init_1 : decode cX4_init 1 = .ok (.invokespecial 3, 3) := by decide +kernel
theorem dX4_init_4 : decode cX4_init 4 = .ok (.aload_n 0, 1) := by decide +kernel
theorem dX4_init_5 : decode cX4_init 5 = .ok (.sipush 200, 3) := by decide +kernel
theorem dX4_init_8 : decode cX4_init 8 = .ok (.newarray .int, 2) := by decide +kernel
theorem dX4_init_10 : decode cX4_init 10 = .ok (.putfield 9, 3) := by decide +kernel
theorem dX4_init_13 : decode cX4_init 13 = .ok (.aload_n 0, 1) := by decide +kernel
theorem dX4_init_14 : decode cX4_init 14 = .ok (.iconst 5, 1) := by decide +kernel
theorem dX4_init_15 : decode cX4_init 15 = .ok (.newarray .int, 2) := by decide +kernel
theorem dX4_init_17 : decode cX4_init 17 = .ok (.putfield 15, 3) := by decide +kernel
theorem dX4_init_20 : decode cX4_init 20 = .ok (.return_, 1) := by decide +kernel
theorem dX4_add_0 : decode cX4_add 0 = .ok (.aload_n 0, 1) := by decide +kernel
theorem dX4_add_1 : decode cX4_add 1 = .ok (.getfield 18, 3) := by decide +kernel
theorem dX4_add_4 : decode cX4_add 4 = .ok (.sipush 200, 3) := by decide +kernel
theorem dX4_add_7 : decode cX4_add 7 = .ok (.if_icmp .ge 20, 3) := by decide +kernel
theorem dX4_add_10 : decode cX4_add 10 = .ok (.aload_n 0, 1) := by decide +kernel
theorem dX4_add_11 : decode cX4_add 11 = .ok (.getfield 9, 3) := by decide +kernel
theorem dX4_add_14 : decode cX4_add 14 = .ok (.aload_n 0, 1) := by decide +kernel
theorem dX4_add_15 : decode cX4_add 15 = .ok (.dup, 1) := by decide +kernel
theorem dX4_add_16 : decode cX4_add 16 = .ok (.getfield 18, 3) := by decide +kernel
theorem dX4_add_19 : decode cX4_add 19 = .ok (.dup_x1, 1) := by decide +kernel
theorem dX4_add_20 : decode cX4_add 20 = .ok (.iconst 1, 1) := by decide +kernel
theorem dX4_add_21 : decode cX4_add 21 = .ok (.iadd, 1) := by decide +kernel
theorem dX4_add_22 : decode cX4_add 22 = .ok (.putfield 18, 3) := by decide +kernel
theorem dX4_add_25 : decode cX4_add 25 = .ok (.iload_n 1, 1) := by decide +kernel
theorem dX4_add_26 : decode cX4_add 26 = .ok (.iastore, 1) := by decide +kernel
theorem dX4_add_27 : decode cX4_add 27 = .ok (.return_, 1) := by decide +kernel
theorem dX4_clear_0 : decode cX4_clear 0 = .ok (.aload_n 0, 1) := by decide +kernel
theorem dX4_clear_1 : decode cX4_clear 1 = .ok (.iconst 0, 1) := by decide +kernel
theorem dX4_clear_2 : decode cX4_clear 2 = .ok (.putfield 18, 3) := by decide +kernel
theorem dX4_clear_5 : decode cX4_clear 5 = .ok (.return_, 1) := by decide +kernel
set_option maxRecDepth 20000 in
theorem ggX4_readInto_X3_clear : GoodIn wsX4_readInto wsX3_clear := goodIn_r _ [8, 9, 10, 11, 12, 13, 14, 15, 56, 57, 58, 59, 60, 61, 62, 63, 64, 65, 66, 67, 68] rfl (by decide +kernel)
set_option maxRecDepth 20000 in
theorem gX4_readInto_X3_clear : GoodIn wsX4_readInto (wsV RX4 22 RX3 yX3_clear wsX3_clear) := goodIn_app (goodIn_of _ (by decide +kernel)) ggX4_readInto_X3_clear
set_option maxRecDepth 20000 in
theorem ggX4_readInto_X3_take : GoodIn wsX4_readInto wsX3_take := goodIn_r _ [19, 12, 14, 13, 20, 21, 22, 7, 23, 9, 24, 25, 26, 27, 28, 29, 30, 11, 31, 32, 33, 34, 35, 36, 37, 38, 39, 40, 41, 42, 43, 10, 56, 57, 58, 59, 60, 61, 62, 63, 64, 65, 66, 67, 68] rfl (by decide +kernel)
set_option maxRecDepth 20000 in
theorem gX4_readInto_X3_take : GoodIn wsX4_readInto (wsV RX4 27 RX3 yX3_take wsX3_take) := goodIn_app (goodIn_of _ (by decide +kernel)) ggX4_readInto_X3_take
set_option maxRecDepth 20000 in
theorem ggX4_readInto_X3_lineUp : GoodIn wsX4_readInto wsX3_lineUp := goodIn_r _ [47, 11, 48, 32, 15, 49, 50, 51, 7, 52, 33, 56, 57, 58, 59, 60, 61, 62, 63, 64, 65, 66, 67, 68] rfl (by decide +kernel)
set_option maxRecDepth 20000 in
theorem gX4_readInto_X3_lineUp : GoodIn wsX4_readInto (wsV RX4 31 RX3 yX3_lineUp wsX3_lineUp) := goodIn_app (goodIn_of _ (by decide +kernel)) ggX4_readInto_X3_lineUp
theorem dX4_readInto_0 : decode cX4_readInto 0 = .ok (.aload_n 1, 1) := by decide +kernel
theorem dX4_readInto_1 : decode cX4_readInto 1 = .ok (.invokevirtual 22, 3) := by decide +kernel
theorem dX4_readInto_4 : decode cX4_readInto 4 = .ok (.iconst 0, 1) := by decide +kernel
theorem dX4_readInto_5 : decode cX4_readInto 5 = .ok (.istore_n 2, 1) := by decide +kernel
theorem dX4_readInto_6 : decode cX4_readInto 6 = .ok (.iconst 0, 1) := by decide +kernel
theorem dX4_readInto_7 : decode cX4_readInto 7 = .ok (.istore_n 3, 1) := by decide +kernel
theorem dX4_readInto_8 : decode cX4_readInto 8 = .ok (.iconst 0, 1) := by decide +kernel
theorem dX4_readInto_9 : decode cX4_readInto 9 = .ok (.istore 4, 2) := by decide +kernel
theorem dX4_readInto_11 : decode cX4_readInto 11 = .ok (.iconst 0, 1) := by decide +kernel
theorem dX4_readInto_12 : decode cX4_readInto 12 = .ok (.istore 5, 2) := by decide +kernel
theorem dX4_readInto_14 : decode cX4_readInto 14 = .ok (.iload 5, 2) := by decide +kernel
theorem dX4_readInto_16 : decode cX4_readInto 16 = .ok (.aload_n 0, 1) := by decide +kernel
theorem dX4_readInto_17 : decode cX4_readInto 17 = .ok (.getfield 18, 3) := by decide +kernel
theorem dX4_readInto_20 : decode cX4_readInto 20 = .ok (.if_icmp .ge 149, 3) := by decide +kernel
theorem dX4_readInto_23 : decode cX4_readInto 23 = .ok (.aload_n 0, 1) := by decide +kernel
theorem dX4_readInto_24 : decode cX4_readInto 24 = .ok (.getfield 9, 3) := by decide +kernel
theorem dX4_readInto_27 : decode cX4_readInto 27 = .ok (.iload 5, 2) := by decide +kernel
theorem dX4_readInto_29 : decode cX4_readInto 29 = .ok (.iaload, 1) := by decide +kernel
theorem dX4_readInto_30 : decode cX4_readInto 30 = .ok (.istore 6, 2) := by decide +kernel
theorem dX4_readInto_32 : decode cX4_readInto 32 = .ok (.iload 5, 2) := by decide +kernel
theorem dX4_readInto_34 : decode cX4_readInto 34 = .ok (.iload_n 2, 1) := by decide +kernel
theorem dX4_readInto_35 : decode cX4_readInto 35 = .ok (.if_icmp .ne 6, 3) := by decide +kernel
theorem dX4_readInto_38 : decode cX4_readInto 38 = .ok (.goto 125, 3) := by decide +kernel
theorem dX4_readInto_41 : decode cX4_readInto 41 = .ok (.iload 6, 2) := by decide +kernel
theorem dX4_readInto_43 : decode cX4_readInto 43 = .ok (.bipush 48, 2) := by decide +kernel
theorem dX4_readInto_45 : decode cX4_readInto 45 = .ok (.if_icmp .lt 57, 3) := by decide +kernel
theorem dX4_readInto_48 : decode cX4_readInto 48 = .ok (.iload 6, 2) := by decide +kernel
theorem dX4_readInto_50 : decode cX4_readInto 50 = .ok (.bipush 57, 2) := by decide +kernel
theorem dX4_readInto_52 : decode cX4_readInto 52 = .ok (.if_icmp .gt 50, 3) := by decide +kernel
theorem dX4_readInto_55 : decode cX4_readInto 55 = .ok (.iload 4, 2) := by decide +kernel
theorem dX4_readInto_57 : decode cX4_readInto 57 = .ok (.iconst 2, 1) := by decide +kernel
theorem dX4_readInto_58 : decode cX4_readInto 58 = .ok (.if_icmp .ge 44, 3) := by decide +kernel
theorem dX4_readInto_61 : decode cX4_readInto 61 = .ok (.iload_n 3, 1) := by decide +kernel
theorem dX4_readInto_62 : decode cX4_readInto 62 = .ok (.iconst 5, 1) := by decide +kernel
theorem dX4_readInto_63 : decode cX4_readInto 63 = .ok (.if_icmp .ge 39, 3) := by decide +kernel
theorem dX4_readInto_66 : decode cX4_readInto 66 = .ok (.aload_n 0, 1) := by decide +kernel
theorem dX4_readInto_67 : decode cX4_readInto 67 = .ok (.getfield 15, 3) := by decide +kernel
theorem dX4_readInto_70 : decode cX4_readInto 70 = .ok (.iload_n 3, 1) := by decide +kernel
theorem dX4_readInto_71 : decode cX4_readInto 71 = .ok (.iload 4, 2) := by decide +kernel
theorem dX4_readInto_73 : decode cX4_readInto 73 = .ok (.ifCond .ne 7, 3) := by decide +kernel
theorem dX4_readInto_76 : decode cX4_readInto 76 = .ok (.iconst 0, 1) := by decide +kernel
theorem dX4_readInto_77 : decode cX4_readInto 77 = .ok (.goto 12, 3) := by decide +kernel
theorem dX4_readInto_80 : decode cX4_readInto 80 = .ok (.bipush 10, 2) := by decide +kernel
theorem dX4_readInto_82 : decode cX4_readInto 82 = .ok (.aload_n 0, 1) := by decide +kernel
theorem dX4_readInto_83 : decode cX4_readInto 83 = .ok (.getfield 15, 3) := by decide +kernel
theorem dX4_readInto_86 : decode cX4_readInto 86 = .ok (.iload_n 3, 1) := by decide +kernel
theorem dX4_readInto_87 : decode cX4_readInto 87 = .ok (.iaload, 1) := by decide +kernel
theorem dX4_readInto_88 : decode cX4_readInto 88 = .ok (.imul, 1) := by decide +kernel
theorem dX4_readInto_89 : decode cX4_readInto 89 = .ok (.iload 6, 2) := by decide +kernel
theorem dX4_readInto_91 : decode cX4_readInto 91 = .ok (.iadd, 1) := by decide +kernel
theorem dX4_readInto_92 : decode cX4_readInto 92 = .ok (.bipush 48, 2) := by decide +kernel
theorem dX4_readInto_94 : decode cX4_readInto 94 = .ok (.isub, 1) := by decide +kernel
theorem dX4_readInto_95 : decode cX4_readInto 95 = .ok (.iastore, 1) := by decide +kernel
theorem dX4_readInto_96 : decode cX4_readInto 96 = .ok (.iinc 4 1, 3) := by decide +kernel
theorem dX4_readInto_99 : decode cX4_readInto 99 = .ok (.goto 64, 3) := by decide +kernel
theorem dX4_readInto_102 : decode cX4_readInto 102 = .ok (.iload 4, 2) := by decide +kernel
theorem dX4_readInto_104 : decode cX4_readInto 104 = .ok (.ifCond .eq 17, 3) := by decide +kernel
theorem dX4_readInto_107 : decode cX4_readInto 107 = .ok (.iload 6, 2) := by decide +kernel
theorem dX4_readInto_109 : decode cX4_readInto 109 = .ok (.bipush 44, 2) := by decide +kernel
theorem dX4_readInto_111 : decode cX4_readInto 111 = .ok (.if_icmp .eq 12, 3) := by decide +kernel
theorem dX4_readInto_114 : decode cX4_readInto 114 = .ok (.iload 6, 2) := by decide +kernel
theorem dX4_readInto_116 : decode cX4_readInto 116 = .ok (.bipush 59, 2) := by decide +kernel
theorem dX4_readInto_118 : decode cX4_readInto 118 = .ok (.if_icmp .eq 5, 3) := by decide +kernel
theorem dX4_readInto_121 : decode cX4_readInto 121 = .ok (.iload_n 2, 1) := by decide +kernel
theorem dX4_readInto_122 : decode cX4_readInto 122 = .ok (.ireturn, 1) := by decide +kernel
theorem dX4_readInto_123 : decode cX4_readInto 123 = .ok (.iinc 3 1, 3) := by decide +kernel
theorem dX4_readInto_126 : decode cX4_readInto 126 = .ok (.iconst 0, 1) := by decide +kernel
theorem dX4_readInto_127 : decode cX4_readInto 127 = .ok (.istore 4, 2) := by decide +kernel
theorem dX4_readInto_129 : decode cX4_readInto 129 = .ok (.iload 6, 2) := by decide +kernel
theorem dX4_readInto_131 : decode cX4_readInto 131 = .ok (.bipush 59, 2) := by decide +kernel
theorem dX4_readInto_133 : decode cX4_readInto 133 = .ok (.if_icmp .ne 30, 3) := by decide +kernel
theorem dX4_readInto_136 : decode cX4_readInto 136 = .ok (.aload_n 1, 1) := by decide +kernel
theorem dX4_readInto_137 : decode cX4_readInto 137 = .ok (.aload_n 0, 1) := by decide +kernel
theorem dX4_readInto_138 : decode cX4_readInto 138 = .ok (.getfield 9, 3) := by decide +kernel
theorem dX4_readInto_141 : decode cX4_readInto 141 = .ok (.iload_n 2, 1) := by decide +kernel
theorem dX4_readInto_142 : decode cX4_readInto 142 = .ok (.iaload, 1) := by decide +kernel
theorem dX4_readInto_143 : decode cX4_readInto 143 = .ok (.aload_n 0, 1) := by decide +kernel
theorem dX4_readInto_144 : decode cX4_readInto 144 = .ok (.getfield 15, 3) := by decide +kernel
theorem dX4_readInto_147 : decode cX4_readInto 147 = .ok (.iload_n 3, 1) := by decide +kernel
theorem dX4_readInto_148 : decode cX4_readInto 148 = .ok (.invokevirtual 27, 3) := by decide +kernel
theorem dX4_readInto_151 : decode cX4_readInto 151 = .ok (.ifCond .ne 5, 3) := by decide +kernel
theorem dX4_readInto_154 : decode cX4_readInto 154 = .ok (.iload_n 2, 1) := by decide +kernel
theorem dX4_readInto_155 : decode cX4_readInto 155 = .ok (.ireturn, 1) := by decide +kernel
theorem dX4_readInto_156 : decode cX4_readInto 156 = .ok (.iload 5, 2) := by decide +kernel
theorem dX4_readInto_158 : decode cX4_readInto 158 = .ok (.iconst 1, 1) := by decide +kernel
theorem dX4_readInto_159 : decode cX4_readInto 159 = .ok (.iadd, 1) := by decide +kernel
theorem dX4_readInto_160 : decode cX4_readInto 160 = .ok (.istore_n 2, 1) := by decide +kernel
theorem dX4_readInto_161 : decode cX4_readInto 161 = .ok (.iconst 0, 1) := by decide +kernel
theorem dX4_readInto_162 : decode cX4_readInto 162 = .ok (.istore_n 3, 1) := by decide +kernel
theorem dX4_readInto_163 : decode cX4_readInto 163 = .ok (.iinc 5 1, 3) := by decide +kernel
theorem dX4_readInto_166 : decode cX4_readInto 166 = .ok (.goto (-152), 3) := by decide +kernel
theorem dX4_readInto_169 : decode cX4_readInto 169 = .ok (.aload_n 1, 1) := by decide +kernel
theorem dX4_readInto_170 : decode cX4_readInto 170 = .ok (.invokevirtual 31, 3) := by decide +kernel
theorem dX4_readInto_173 : decode cX4_readInto 173 = .ok (.iload_n 2, 1) := by decide +kernel
theorem dX4_readInto_174 : decode cX4_readInto 174 = .ok (.aload_n 0, 1) := by decide +kernel
theorem dX4_readInto_175 : decode cX4_readInto 175 = .ok (.getfield 18, 3) := by decide +kernel
theorem dX4_readInto_178 : decode cX4_readInto 178 = .ok (.if_icmp .ge 7, 3) := by decide +kernel
theorem dX4_readInto_181 : decode cX4_readInto 181 = .ok (.iload_n 2, 1) := by decide +kernel
theorem dX4_readInto_182 : decode cX4_readInto 182 = .ok (.goto 5, 3) := by decide +kernel
theorem dX4_readInto_185 : decode cX4_readInto 185 = .ok (.bipush (-4), 2) := by decide +kernel
theorem dX4_readInto_187 : decode cX4_readInto 187 = .ok (.ireturn, 1) := by decide +kernel
theorem dX5_init_0 : decode cX5_init 0 = .ok (.aload_n 0, 1) := by decide +kernel
theorem dX5_init_1 : decode cX5_init 1 = .ok (.invokespecial 3, 3) := by decide +kernel
theorem dX5_init_4 : decode cX5_init 4 = .ok (.aload_n 0, 1) := by decide +kernel
theorem dX5_init_5 : decode cX5_init 5 = .ok (.bipush 6, 2) := by decide +kernel
theorem dX5_init_7 : decode cX5_init 7 = .ok (.newarray .int, 2) := by decide +kernel
theorem dX5_init_9 : decode cX5_init 9 = .ok (.putfield 9, 3) := by decide +kernel
theorem dX5_init_12 : decode cX5_init 12 = .ok (.aload_n 0, 1) := by decide +kernel
theorem dX5_init_13 : decode cX5_init 13 = .ok (.bipush 6, 2) := by decide +kernel
theorem dX5_init_15 : decode cX5_init 15 = .ok (.newarray .int, 2) := by decide +kernel
theorem dX5_init_17 : decode cX5_init 17 = .ok (.putfield 15, 3) := by decide +kernel
theorem dX5_init_20 : decode cX5_init 20 = .ok (.return_, 1) := by decide +kernel
theorem dX5_clear_0 : decode cX5_clear 0 = .ok (.aload_n 0, 1) := by decide +kernel
theorem dX5_clear_1 : decode cX5_clear 1 = .ok (.iconst 0, 1) := by decide +kernel
theorem dX5_clear_2 : decode cX5_clear 2 = .ok (.putfield 18, 3) := by decide +kernel
theorem dX5_clear_5 : decode cX5_clear 5 = .ok (.return_, 1) := by decide +kernel
theorem dX5_add_0 : decode cX5_add 0 = .ok (.aload_n 0, 1) := by decide +kernel
theorem dX5_add_1 : decode cX5_add 1 = .ok (.getfield 18, 3) := by decide +kernel
theorem dX5_add_4 : decode cX5_add 4 = .ok (.bipush 6, 2) := by decide +kernel
theorem dX5_add_6 : decode cX5_add 6 = .ok (.if_icmp .ge 33, 3) := by decide +kernel
theorem dX5_add_9 : decode cX5_add 9 = .ok (.aload_n 0, 1) := by decide +kernel
theorem dX5_add_10 : decode cX5_add 10 = .ok (.getfield 9, 3) := by decide +kernel
theorem dX5_add_13 : decode cX5_add 13 = .ok (.aload_n 0, 1) := by decide +kernel
theorem dX5_add_14 : decode cX5_add 14 = .ok (.getfield 18, 3) := by decide +kernel
theorem dX5_add_17 : decode cX5_add 17 = .ok (.iload_n 1, 1) := by decide +kernel
theorem dX5_add_18 : decode cX5_add 18 = .ok (.iastore, 1) := by decide +kernel
theorem dX5_add_19 : decode cX5_add 19 = .ok (.aload_n 0, 1) := by decide +kernel
theorem dX5_add_20 : decode cX5_add 20 = .ok (.getfield 15, 3) := by decide +kernel
theorem dX5_add_23 : decode cX5_add 23 = .ok (.aload_n 0, 1) := by decide +kernel
theorem dX5_add_24 : decode cX5_add 24 = .ok (.getfield 18, 3) := by decide +kernel
theorem dX5_add_27 : decode cX5_add 27 = .ok (.iload_n 2, 1) := by decide +kernel
theorem dX5_add_28 : decode cX5_add 28 = .ok (.iastore, 1) := by decide +kernel
theorem dX5_add_29 : decode cX5_add 29 = .ok (.aload_n 0, 1) := by decide +kernel
theorem dX5_add_30 : decode cX5_add 30 = .ok (.dup, 1) := by decide +kernel
theorem dX5_add_31 : decode cX5_add 31 = .ok (.getfield 18, 3) := by decide +kernel
theorem dX5_add_34 : decode cX5_add 34 = .ok (.iconst 1, 1) := by decide +kernel
theorem dX5_add_35 : decode cX5_add 35 = .ok (.iadd, 1) := by decide +kernel
theorem dX5_add_36 : decode cX5_add 36 = .ok (.putfield 18, 3) := by decide +kernel
theorem dX5_add_39 : decode cX5_add 39 = .ok (.return_, 1) := by decide +kernel
theorem dX5_fits_0 : decode cX5_fits 0 = .ok (.iconst 0, 1) := by decide +kernel
theorem dX5_fits_1 : decode cX5_fits 1 = .ok (.istore_n 3, 1) := by decide +kernel
theorem dX5_fits_2 : decode cX5_fits 2 = .ok (.iload_n 3, 1) := by decide +kernel
theorem dX5_fits_3 : decode cX5_fits 3 = .ok (.aload_n 0, 1) := by decide +kernel
theorem dX5_fits_4 : decode cX5_fits 4 = .ok (.getfield 18, 3) := by decide +kernel
theorem dX5_fits_7 : decode cX5_fits 7 = .ok (.if_icmp .ge 31, 3) := by decide +kernel
theorem dX5_fits_10 : decode cX5_fits 10 = .ok (.aload_n 0, 1) := by decide +kernel
theorem dX5_fits_11 : decode cX5_fits 11 = .ok (.getfield 9, 3) := by decide +kernel
theorem dX5_fits_14 : decode cX5_fits 14 = .ok (.iload_n 3, 1) := by decide +kernel
theorem dX5_fits_15 : decode cX5_fits 15 = .ok (.iaload, 1) := by decide +kernel
theorem dX5_fits_16 : decode cX5_fits 16 = .ok (.iload_n 1, 1) := by decide +kernel
theorem dX5_fits_17 : decode cX5_fits 17 = .ok (.if_icmp .ne 15, 3) := by decide +kernel
theorem dX5_fits_20 : decode cX5_fits 20 = .ok (.aload_n 0, 1) := by decide +kernel
theorem dX5_fits_21 : decode cX5_fits 21 = .ok (.getfield 15, 3) := by decide +kernel
theorem dX5_fits_24 : decode cX5_fits 24 = .ok (.iload_n 3, 1) := by decide +kernel
theorem dX5_fits_25 : decode cX5_fits 25 = .ok (.iaload, 1) := by decide +kernel
theorem dX5_fits_26 : decode cX5_fits 26 = .ok (.iload_n 2, 1) := by decide +kernel
theorem dX5_fits_27 : decode cX5_fits 27 = .ok (.if_icmp .eq 5, 3) := by decide +kernel
theorem dX5_fits_30 : decode cX5_fits 30 = .ok (.iconst 0, 1) := by decide +kernel
theorem dX5_fits_31 : decode cX5_fits 31 = .ok (.ireturn, 1) := by decide +kernel
theorem dX5_fits_32 : decode cX5_fits 32 = .ok (.iinc 3 1, 3) := by decide +kernel
theorem dX5_fits_35 : decode cX5_fits 35 = .ok (.goto (-33), 3) := by decide +kernel
theorem dX5_fits_38 : decode cX5_fits 38 = .ok (.iconst 1, 1) := by decide +kernel
theorem dX5_fits_39 : decode cX5_fits 39 = .ok (.ireturn, 1) := by decide +kernel
set_option maxRecDepth 20000 in
theorem ggX6_init_X9_init : GoodIn wsX6_init wsX9_init := goodIn_r _ [16, 17, 2, 3, 9, 18, 19, 20, 21, 22, 23, 24, 25] rfl (by decide +kernel)
set_option maxRecDepth 20000 in
theorem gX6_init_X9_init_n11 : GoodIn wsX6_init (wsX9_init) := ggX6_init_X9_init
theorem dX6_init_0 : decode cX6_init 0 = .ok (.aload_n 0, 1) := by decide +kernel
theorem dX6_init_1 : decode cX6_init 1 = .ok (.invokespecial 3, 3) := by decide +kernel
theorem dX6_init_4 : decode cX6_init 4 = .ok (.aload_n 0, 1) := by decide +kernel
theorem dX6_init_5 : decode cX6_init 5 = .ok (.new 9, 3) := by decide +kernel
theorem dX6_init_8 : decode cX6_init 8 = .ok (.dup, 1) := by decide +kernel
theorem dX6_init_9 : decode cX6_init 9 = .ok (.invokespecial 11, 3) := by decide +kernel
theorem dX6_init_12 : decode cX6_init 12 = .ok (.putfield 12, 3) := by decide +kernel
theorem dX6_init_15 : decode cX6_init 15 = .ok (.aload_n 0, 1) := by decide +kernel
theorem dX6_init_16 : decode cX6_init 16 = .ok (.bipush 9, 2) := by decide +kernel
theorem dX6_init_18 : decode cX6_init 18 = .ok (.bipush 10, 2) := by decide +kernel
theorem dX6_init_20 : decode cX6_init 20 = .ok (.multianewarray 18 2, 4) := by decide +kernel
theorem dX6_init_24 : decode cX6_init 24 = .ok (.putfield 20, 3) := by decide +kernel
theorem dX6_init_27 : decode cX6_init 27 = .ok (.aload_n 0, 1) := by decide +kernel
theorem dX6_init_28 : decode cX6_init 28 = .ok (.bipush 9, 2) := by decide +kernel
theorem dX6_init_30 : decode cX6_init 30 = .ok (.bipush 100, 2) := by decide +kernel
theorem dX6_init_32 : decode cX6_init 32 = .ok (.multianewarray 18 2, 4) := by decide +kernel
theorem dX6_init_36 : decode cX6_init 36 = .ok (.putfield 23, 3) := by decide +kernel
theorem dX6_init_39 : decode cX6_init 39 = .ok (.aload_n 0, 1) := by decide +kernel
theorem dX6_init_40 : decode cX6_init 40 = .ok (.bipush 9, 2) := by decide +kernel
theorem dX6_init_42 : decode cX6_init 42 = .ok (.newarray .int, 2) := by decide +kernel
theorem dX6_init_44 : decode cX6_init 44 = .ok (.putfield 26, 3) := by decide +kernel
theorem dX6_init_47 : decode cX6_init 47 = .ok (.aload_n 0, 1) := by decide +kernel
theorem dX6_init_48 : decode cX6_init 48 = .ok (.aload_n 1, 1) := by decide +kernel
theorem dX6_init_49 : decode cX6_init 49 = .ok (.putfield 30, 3) := by decide +kernel
theorem dX6_init_52 : decode cX6_init 52 = .ok (.aload_n 0, 1) := by decide +kernel
theorem dX6_init_53 : decode cX6_init 53 = .ok (.aload_n 2, 1) := by decide +kernel
theorem dX6_init_54 : decode cX6_init 54 = .ok (.putfield 34, 3) := by decide +kernel
theorem dX6_init_57 : decode cX6_init 57 = .ok (.return_, 1) := by decide +kernel
set_option maxRecDepth 20000 in
theorem ggX6_dealOut_X6_stayBy : GoodIn wsX6_dealOut wsX6_stayBy := goodIn_r _ [8, 9, 1, 2, 10, 11, 12, 13, 14, 15, 16, 17, 18, 19, 20, 21, 22, 23, 24, 25, 26, 27, 28, 29, 30, 31, 32, 33, 34, 35, 36, 37, 38, 39, 40, 41, 42, 43, 44, 45, 46, 47, 48, 49, 50, 51, 52, 53, 54, 55, 56, 57, 58, 59, 60, 61, 62, 63, 64, 65, 66, 67, 68, 69, 70, 71, 72, 73, 74, 75, 76, 77, 78, 79, 94, 95, 96, 97, 98, 99, 100, 101, 102, 103, 104, 105, 106, 107, 108, 109, 110, 111, 112, 113, 114, 115, 116, 117, 118, 119, 120] rfl (by decide +kernel)
set_option maxRecDepth 20000 in
theorem gX6_dealOut_X6_stayBy : GoodIn wsX6_dealOut (wsV RX6 38 RX6 yX6_stayBy wsX6_stayBy) := goodIn_app (goodIn_of _ (by decide +kernel)) ggX6_dealOut_X6_stayBy
set_option maxRecDepth 20000 in
theorem ggX6_dealOut_X6_bestShare : GoodIn wsX6_dealOut wsX6_bestShare := goodIn_r _ [83, 84, 85, 86, 7, 87, 1, 2, 3, 11, 94, 95, 96, 97, 98, 99, 100, 101, 102, 103, 104, 105, 106, 107, 108, 109, 110, 111, 112, 113] rfl (by decide +kernel)
set_option maxRecDepth 20000 in
theorem gX6_dealOut_X6_bestShare : GoodIn wsX6_dealOut (wsV RX6 48 RX6 yX6_bestShare wsX6_bestShare) := goodIn_app (goodIn_of _ (by decide +kernel)) ggX6_dealOut_X6_bestShare
set_option maxRecDepth 20000 in
theorem ggX6_dealOut_X6_worthOf : GoodIn wsX6_dealOut wsX6_worthOf := goodIn_r _ [87, 1, 2, 3, 11, 94, 95, 96, 97, 98, 99, 100, 101, 102, 103, 104, 105, 106, 107, 108, 109, 110, 111, 112, 113] rfl (by decide +kernel)
set_option maxRecDepth 20000 in
theorem gX6_dealOut_X6_worthOf : GoodIn wsX6_dealOut (wsV RX6 52 RX6 yX6_worthOf wsX6_worthOf) := goodIn_app (goodIn_of _ (by decide +kernel)) ggX6_dealOut_X6_worthOf
set_option maxRecDepth 20000 in
theorem ggX6_dealOut_X6_deal : GoodIn wsX6_dealOut wsX6_deal := goodIn_r _ [91, 92, 1, 2, 93, 11, 80, 81, 82, 7, 83, 84, 85, 86, 87, 3, 94, 95, 96, 97, 98, 99, 100, 101, 102, 103, 104, 105, 106, 107, 108, 109, 110, 111, 112, 113] rfl (by decide +kernel)
set_option maxRecDepth 20000 in
theorem gX6_dealOut_X6_deal : GoodIn wsX6_dealOut (wsV RX6 56 RX6 yX6_deal wsX6_deal) := goodIn_app (goodIn_of _ (by decide +kernel)) ggX6_dealOut_X6_deal
theorem dX6_dealOut_0 : decode cX6_dealOut 0 = .ok (.iconst 0, 1) := by decide +kernel
theorem dX6_dealOut_1 : decode cX6_dealOut 1 = .ok (.istore 4, 2) := by decide +kernel
theorem dX6_dealOut_3 : decode cX6_dealOut 3 = .ok (.iload 4, 2) := by decide +kernel
theorem dX6_dealOut_5 : decode cX6_dealOut 5 = .ok (.bipush 9, 2) := by decide +kernel
theorem dX6_dealOut_7 : decode cX6_dealOut 7 = .ok (.if_icmp .gt 17, 3) := by decide +kernel
theorem dX6_dealOut_10 : decode cX6_dealOut 10 = .ok (.aload_n 0, 1) := by decide +kernel
theorem dX6_dealOut_11 : decode cX6_dealOut 11 = .ok (.aload_n 1, 1) := by decide +kernel
theorem dX6_dealOut_12 : decode cX6_dealOut 12 = .ok (.iload 4, 2) := by decide +kernel
theorem dX6_dealOut_14 : decode cX6_dealOut 14 = .ok (.iload_n 3, 1) := by decide +kernel
theorem dX6_dealOut_15 : decode cX6_dealOut 15 = .ok (.invokevirtual 38, 3) := by decide +kernel
theorem dX6_dealOut_18 : decode cX6_dealOut 18 = .ok (.iinc 4 1, 3) := by decide +kernel
theorem dX6_dealOut_21 : decode cX6_dealOut 21 = .ok (.goto (-18), 3) := by decide +kernel
theorem dX6_dealOut_24 : decode cX6_dealOut 24 = .ok (.aload_n 0, 1) := by decide +kernel
theorem dX6_dealOut_25 : decode cX6_dealOut 25 = .ok (.getfield 30, 3) := by decide +kernel
theorem dX6_dealOut_28 : decode cX6_dealOut 28 = .ok (.getfield 42, 3) := by decide +kernel
theorem dX6_dealOut_31 : decode cX6_dealOut 31 = .ok (.iconst 1, 1) := by decide +kernel
theorem dX6_dealOut_32 : decode cX6_dealOut 32 = .ok (.isub, 1) := by decide +kernel
theorem dX6_dealOut_33 : decode cX6_dealOut 33 = .ok (.istore 4, 2) := by decide +kernel
theorem dX6_dealOut_35 : decode cX6_dealOut 35 = .ok (.iload 4, 2) := by decide +kernel
theorem dX6_dealOut_37 : decode cX6_dealOut 37 = .ok (.ifCond .le 50, 3) := by decide +kernel
theorem dX6_dealOut_40 : decode cX6_dealOut 40 = .ok (.iconst 0, 1) := by decide +kernel
theorem dX6_dealOut_41 : decode cX6_dealOut 41 = .ok (.istore 5, 2) := by decide +kernel
theorem dX6_dealOut_43 : decode cX6_dealOut 43 = .ok (.iload 5, 2) := by decide +kernel
theorem dX6_dealOut_45 : decode cX6_dealOut 45 = .ok (.iload_n 2, 1) := by decide +kernel
theorem dX6_dealOut_46 : decode cX6_dealOut 46 = .ok (.if_icmp .gt 35, 3) := by decide +kernel
theorem dX6_dealOut_49 : decode cX6_dealOut 49 = .ok (.aload_n 0, 1) := by decide +kernel
theorem dX6_dealOut_50 : decode cX6_dealOut 50 = .ok (.getfield 23, 3) := by decide +kernel
theorem dX6_dealOut_53 : decode cX6_dealOut 53 = .ok (.iload 4, 2) := by decide +kernel
theorem dX6_dealOut_55 : decode cX6_dealOut 55 = .ok (.aaload, 1) := by decide +kernel
theorem dX6_dealOut_56 : decode cX6_dealOut 56 = .ok (.iload 5, 2) := by decide +kernel
theorem dX6_dealOut_58 : decode cX6_dealOut 58 = .ok (.aload_n 0, 1) := by decide +kernel
theorem dX6_dealOut_59 : decode cX6_dealOut 59 = .ok (.iload 4, 2) := by decide +kernel
theorem dX6_dealOut_61 : decode cX6_dealOut 61 = .ok (.iload 5, 2) := by decide +kernel
theorem dX6_dealOut_63 : decode cX6_dealOut 63 = .ok (.aload_n 0, 1) := by decide +kernel
theorem dX6_dealOut_64 : decode cX6_dealOut 64 = .ok (.iload 4, 2) := by decide +kernel
theorem dX6_dealOut_66 : decode cX6_dealOut 66 = .ok (.iload 5, 2) := by decide +kernel
theorem dX6_dealOut_68 : decode cX6_dealOut 68 = .ok (.invokevirtual 48, 3) := by decide +kernel
theorem dX6_dealOut_71 : decode cX6_dealOut 71 = .ok (.invokevirtual 52, 3) := by decide +kernel
theorem dX6_dealOut_74 : decode cX6_dealOut 74 = .ok (.iastore, 1) := by decide +kernel
theorem dX6_dealOut_75 : decode cX6_dealOut 75 = .ok (.iinc 5 1, 3) := by decide +kernel
theorem dX6_dealOut_78 : decode cX6_dealOut 78 = .ok (.goto (-35), 3) := by decide +kernel
theorem dX6_dealOut_81 : decode cX6_dealOut 81 = .ok (.iinc 4 (-1), 3) := by decide +kernel
theorem dX6_dealOut_84 : decode cX6_dealOut 84 = .ok (.goto (-49), 3) := by decide +kernel
theorem dX6_dealOut_87 : decode cX6_dealOut 87 = .ok (.aload_n 0, 1) := by decide +kernel
theorem dX6_dealOut_88 : decode cX6_dealOut 88 = .ok (.iload_n 2, 1) := by decide +kernel
theorem dX6_dealOut_89 : decode cX6_dealOut 89 = .ok (.invokevirtual 56, 3) := by decide +kernel
theorem dX6_dealOut_92 : decode cX6_dealOut 92 = .ok (.return_, 1) := by decide +kernel
set_option maxRecDepth 20000 in
theorem ggX6_stayBy_X9_become : GoodIn wsX6_stayBy wsX9_become := goodIn_r _ [10, 11, 12, 13, 14, 15, 94, 95, 96, 97, 98] rfl (by decide +kernel)
set_option maxRecDepth 20000 in
theorem gX6_stayBy_X9_become : GoodIn wsX6_stayBy (wsV RX6 60 RX9 yX9_become wsX9_become) := goodIn_app (goodIn_of _ (by decide +kernel)) ggX6_stayBy_X9_become
set_option maxRecDepth 20000 in
theorem ggX6_stayBy_X2_goByAt : GoodIn wsX6_stayBy wsX2_goByAt := goodIn_r _ [20, 21, 22, 23, 24, 25, 26, 27, 28, 29, 30, 31, 32, 33, 34, 35, 36, 19, 37, 38, 39, 40, 41, 42, 43, 44, 45, 46, 47, 48, 49, 50, 51, 52, 53, 54, 55, 56, 57, 58, 59, 9, 60, 14, 61, 62, 63, 64, 65, 94, 95, 96, 97, 98, 99, 100, 81, 82, 83, 84, 85, 86, 87, 88, 89, 90, 91, 92, 93] rfl (by decide +kernel)
set_option maxRecDepth 20000 in
theorem gX6_stayBy_X2_goByAt : GoodIn wsX6_stayBy (wsV RX6 64 RX2 yX2_goByAt wsX2_goByAt) := goodIn_app (goodIn_of _ (by decide +kernel)) ggX6_stayBy_X2_goByAt
set_option maxRecDepth 20000 in
theorem ggX6_stayBy_X2_notGoneAt : GoodIn wsX6_stayBy wsX2_notGoneAt := goodIn_r _ [42, 22, 23, 24, 25, 99, 100, 81, 82, 83, 84, 85, 86, 87, 88, 89, 90, 91, 92, 93, 94, 95, 96, 97, 98] rfl (by decide +kernel)
set_option maxRecDepth 20000 in
theorem gX6_stayBy_X2_notGoneAt : GoodIn wsX6_stayBy (wsV RX6 70 RX2 yX2_notGoneAt wsX2_notGoneAt) := goodIn_app (goodIn_of _ (by decide +kernel)) ggX6_stayBy_X2_notGoneAt
set_option maxRecDepth 20000 in
theorem ggX6_stayBy_J6_bitCount_0f7a4 : GoodIn wsX6_stayBy wsJ6_bitCount_0f7a4 := goodIn_r _ [70, 71, 72, 73] rfl (by decide +kernel)
set_option maxRecDepth 20000 in
theorem gX6_stayBy_J6_bitCount_0f7a4 : GoodIn wsX6_stayBy (va_wsS RX6 74 yJ6_bitCount_0f7a4 wsJ6_bitCount_0f7a4) := goodIn_app (goodIn_of _ (by decide +kernel)) ggX6_stayBy_J6_bitCount_0f7a4
theorem dX6_stayBy_0 : decode cX6_stayBy 0 = .ok (.aload_n 0, 1) := by decide +kernel
theorem dX6_stayBy_1 : decode cX6_stayBy 1 = .ok (.getfield 12, 3) := by decide +kernel
theorem dX6_stayBy_4 : decode cX6_stayBy 4 = .ok (.aload_n 1, 1) := by decide +kernel
theorem dX6_stayBy_5 : decode cX6_stayBy 5 = .ok (.invokevirtual 60, 3) := by decide +kernel
theorem dX6_stayBy_8 : decode cX6_stayBy 8 = .ok (.iconst 0, 1) := by decide +kernel
theorem dX6_stayBy_9 : decode cX6_stayBy 9 = .ok (.istore 4, 2) := by decide +kernel
theorem dX6_stayBy_11 : decode cX6_stayBy 11 = .ok (.iload 4, 2) := by decide +kernel
theorem dX6_stayBy_13 : decode cX6_stayBy 13 = .ok (.aload_n 0, 1) := by decide +kernel
theorem dX6_stayBy_14 : decode cX6_stayBy 14 = .ok (.getfield 30, 3) := by decide +kernel
theorem dX6_stayBy_17 : decode cX6_stayBy 17 = .ok (.getfield 42, 3) := by decide +kernel
theorem dX6_stayBy_20 : decode cX6_stayBy 20 = .ok (.if_icmp .ge 64, 3) := by decide +kernel
theorem dX6_stayBy_23 : decode cX6_stayBy 23 = .ok (.iconst 0, 1) := by decide +kernel
theorem dX6_stayBy_24 : decode cX6_stayBy 24 = .ok (.istore 5, 2) := by decide +kernel
theorem dX6_stayBy_26 : decode cX6_stayBy 26 = .ok (.iload 5, 2) := by decide +kernel
theorem dX6_stayBy_28 : decode cX6_stayBy 28 = .ok (.iload_n 3, 1) := by decide +kernel
theorem dX6_stayBy_29 : decode cX6_stayBy 29 = .ok (.if_icmp .ge 24, 3) := by decide +kernel
theorem dX6_stayBy_32 : decode cX6_stayBy 32 = .ok (.aload_n 0, 1) := by decide +kernel
theorem dX6_stayBy_33 : decode cX6_stayBy 33 = .ok (.getfield 34, 3) := by decide +kernel
theorem dX6_stayBy_36 : decode cX6_stayBy 36 = .ok (.aload_n 0, 1) := by decide +kernel
theorem dX6_stayBy_37 : decode cX6_stayBy 37 = .ok (.getfield 12, 3) := by decide +kernel
theorem dX6_stayBy_40 : decode cX6_stayBy 40 = .ok (.iload 4, 2) := by decide +kernel
theorem dX6_stayBy_42 : decode cX6_stayBy 42 = .ok (.iload_n 2, 1) := by decide +kernel
theorem dX6_stayBy_43 : decode cX6_stayBy 43 = .ok (.invokevirtual 64, 3) := by decide +kernel
theorem dX6_stayBy_46 : decode cX6_stayBy 46 = .ok (.pop, 1) := by decide +kernel
theorem dX6_stayBy_47 : decode cX6_stayBy 47 = .ok (.iinc 5 1, 3) := by decide +kernel
theorem dX6_stayBy_50 : decode cX6_stayBy 50 = .ok (.goto (-24), 3) := by decide +kernel
theorem dX6_stayBy_53 : decode cX6_stayBy 53 = .ok (.aload_n 0, 1) := by decide +kernel
theorem dX6_stayBy_54 : decode cX6_stayBy 54 = .ok (.getfield 20, 3) := by decide +kernel
theorem dX6_stayBy_57 : decode cX6_stayBy 57 = .ok (.iload 4, 2) := by decide +kernel
theorem dX6_stayBy_59 : decode cX6_stayBy 59 = .ok (.aaload, 1) := by decide +kernel
theorem dX6_stayBy_60 : decode cX6_stayBy 60 = .ok (.iload_n 2, 1) := by decide +kernel
theorem dX6_stayBy_61 : decode cX6_stayBy 61 = .ok (.aload_n 0, 1) := by decide +kernel
theorem dX6_stayBy_62 : decode cX6_stayBy 62 = .ok (.getfield 34, 3) := by decide +kernel
theorem dX6_stayBy_65 : decode cX6_stayBy 65 = .ok (.aload_n 0, 1) := by decide +kernel
theorem dX6_stayBy_66 : decode cX6_stayBy 66 = .ok (.getfield 12, 3) := by decide +kernel
theorem dX6_stayBy_69 : decode cX6_stayBy 69 = .ok (.iload 4, 2) := by decide +kernel
theorem dX6_stayBy_71 : decode cX6_stayBy 71 = .ok (.invokevirtual 70, 3) := by decide +kernel
theorem dX6_stayBy_74 : decode cX6_stayBy 74 = .ok (.invokestatic 74, 3) := by decide +kernel
theorem dX6_stayBy_77 : decode cX6_stayBy 77 = .ok (.iastore, 1) := by decide +kernel
theorem dX6_stayBy_78 : decode cX6_stayBy 78 = .ok (.iinc 4 1, 3) := by decide +kernel
theorem dX6_stayBy_81 : decode cX6_stayBy 81 = .ok (.goto (-70), 3) := by decide +kernel
theorem dX6_stayBy_84 : decode cX6_stayBy 84 = .ok (.return_, 1) := by decide +kernel
theorem dX6_worthOf_0 : decode cX6_worthOf 0 = .ok (.iload_n 1, 1) := by decide +kernel
theorem dX6_worthOf_1 : decode cX6_worthOf 1 = .ok (.iconst 1, 1) := by decide +kernel
theorem dX6_worthOf_2 : decode cX6_worthOf 2 = .ok (.iadd, 1) := by decide +kernel
theorem dX6_worthOf_3 : decode cX6_worthOf 3 = .ok (.aload_n 0, 1) := by decide +kernel
theorem dX6_worthOf_4 : decode cX6_worthOf 4 = .ok (.getfield 30, 3) := by decide +kernel
theorem dX6_worthOf_7 : decode cX6_worthOf 7 = .ok (.getfield 42, 3) := by decide +kernel
theorem dX6_worthOf_10 : decode cX6_worthOf 10 = .ok (.if_icmp .ge 18, 3) := by decide +kernel
theorem dX6_worthOf_13 : decode cX6_worthOf 13 = .ok (.aload_n 0, 1) := by decide +kernel
theorem dX6_worthOf_14 : decode cX6_worthOf 14 = .ok (.getfield 23, 3) := by decide +kernel
theorem dX6_worthOf_17 : decode cX6_worthOf 17 = .ok (.iload_n 1, 1) := by decide +kernel
theorem dX6_worthOf_18 : decode cX6_worthOf 18 = .ok (.iconst 1, 1) := by decide +kernel
theorem dX6_worthOf_19 : decode cX6_worthOf 19 = .ok (.iadd, 1) := by decide +kernel
theorem dX6_worthOf_20 : decode cX6_worthOf 20 = .ok (.aaload, 1) := by decide +kernel
theorem dX6_worthOf_21 : decode cX6_worthOf 21 = .ok (.iload_n 2, 1) := by decide +kernel
theorem dX6_worthOf_22 : decode cX6_worthOf 22 = .ok (.iload_n 3, 1) := by decide +kernel
theorem dX6_worthOf_23 : decode cX6_worthOf 23 = .ok (.isub, 1) := by decide +kernel
theorem dX6_worthOf_24 : decode cX6_worthOf 24 = .ok (.iaload, 1) := by decide +kernel
theorem dX6_worthOf_25 : decode cX6_worthOf 25 = .ok (.goto 4, 3) := by decide +kernel
theorem dX6_worthOf_28 : decode cX6_worthOf 28 = .ok (.iconst 0, 1) := by decide +kernel
theorem dX6_worthOf_29 : decode cX6_worthOf 29 = .ok (.istore 4, 2) := by decide +kernel
theorem dX6_worthOf_31 : decode cX6_worthOf 31 = .ok (.bipush 100, 2) := by decide +kernel
theorem dX6_worthOf_33 : decode cX6_worthOf 33 = .ok (.aload_n 0, 1) := by decide +kernel
theorem dX6_worthOf_34 : decode cX6_worthOf 34 = .ok (.getfield 20, 3) := by decide +kernel
theorem dX6_worthOf_37 : decode cX6_worthOf 37 = .ok (.iload_n 1, 1) := by decide +kernel
theorem dX6_worthOf_38 : decode cX6_worthOf 38 = .ok (.aaload, 1) := by decide +kernel
theorem dX6_worthOf_39 : decode cX6_worthOf 39 = .ok (.iload_n 3, 1) := by decide +kernel
theorem dX6_worthOf_40 : decode cX6_worthOf 40 = .ok (.iaload, 1) := by decide +kernel
theorem dX6_worthOf_41 : decode cX6_worthOf 41 = .ok (.imul, 1) := by decide +kernel
theorem dX6_worthOf_42 : decode cX6_worthOf 42 = .ok (.iload_n 3, 1) := by decide +kernel
theorem dX6_worthOf_43 : decode cX6_worthOf 43 = .ok (.isub, 1) := by decide +kernel
theorem dX6_worthOf_44 : decode cX6_worthOf 44 = .ok (.iload 4, 2) := by decide +kernel
theorem dX6_worthOf_46 : decode cX6_worthOf 46 = .ok (.iadd, 1) := by decide +kernel
theorem dX6_worthOf_47 : decode cX6_worthOf 47 = .ok (.ireturn, 1) := by decide +kernel
set_option maxRecDepth 20000 in
theorem ggX6_bestShare_X6_worthOf : GoodIn wsX6_bestShare wsX6_worthOf := goodIn_r _ [5, 6, 7, 8, 9, 10, 11, 12, 13, 14, 15, 16, 17, 18, 19, 20, 21, 22, 23, 24, 25, 26, 27, 28, 29] rfl (by decide +kernel)
set_option maxRecDepth 20000 in
theorem gX6_bestShare_X6_worthOf : GoodIn wsX6_bestShare (wsV RX6 52 RX6 yX6_worthOf wsX6_worthOf) := goodIn_app (goodIn_of _ (by decide +kernel)) ggX6_bestShare_X6_worthOf
theorem dX6_bestShare_0 : decode cX6_bestShare 0 = .ok (.iconst 0, 1) := by decide +kernel
theorem dX6_bestShare_1 : decode cX6_bestShare 1 = .ok (.istore_n 3, 1) := by decide +kernel
theorem dX6_bestShare_2 : decode cX6_bestShare 2 = .ok (.aload_n 0, 1) := by decide +kernel
theorem dX6_bestShare_3 : decode cX6_bestShare 3 = .ok (.iload_n 1, 1) := by decide +kernel
theorem dX6_bestShare_4 : decode cX6_bestShare 4 = .ok (.iload_n 2, 1) := by decide +kernel
theorem dX6_bestShare_5 : decode cX6_bestShare 5 = .ok (.iconst 0, 1) := by decide +kernel
theorem dX6_bestShare_6 : decode cX6_bestShare 6 = .ok (.invokevirtual 52, 3) := by decide +kernel
theorem dX6_bestShare_9 : decode cX6_bestShare 9 = .ok (.istore 4, 2) := by decide +kernel
theorem dX6_bestShare_11 : decode cX6_bestShare 11 = .ok (.iconst 1, 1) := by decide +kernel
theorem dX6_bestShare_12 : decode cX6_bestShare 12 = .ok (.istore 5, 2) := by decide +kernel
theorem dX6_bestShare_14 : decode cX6_bestShare 14 = .ok (.iload 5, 2) := by decide +kernel
theorem dX6_bestShare_16 : decode cX6_bestShare 16 = .ok (.bipush 9, 2) := by decide +kernel
theorem dX6_bestShare_18 : decode cX6_bestShare 18 = .ok (.if_icmp .gt 39, 3) := by decide +kernel
theorem dX6_bestShare_21 : decode cX6_bestShare 21 = .ok (.iload 5, 2) := by decide +kernel
theorem dX6_bestShare_23 : decode cX6_bestShare 23 = .ok (.iload_n 2, 1) := by decide +kernel
theorem dX6_bestShare_24 : decode cX6_bestShare 24 = .ok (.if_icmp .gt 33, 3) := by decide +kernel
theorem dX6_bestShare_27 : decode cX6_bestShare 27 = .ok (.aload_n 0, 1) := by decide +kernel
theorem dX6_bestShare_28 : decode cX6_bestShare 28 = .ok (.iload_n 1, 1) := by decide +kernel
theorem dX6_bestShare_29 : decode cX6_bestShare 29 = .ok (.iload_n 2, 1) := by decide +kernel
theorem dX6_bestShare_30 : decode cX6_bestShare 30 = .ok (.iload 5, 2) := by decide +kernel
theorem dX6_bestShare_32 : decode cX6_bestShare 32 = .ok (.invokevirtual 52, 3) := by decide +kernel
theorem dX6_bestShare_35 : decode cX6_bestShare 35 = .ok (.istore 6, 2) := by decide +kernel
theorem dX6_bestShare_37 : decode cX6_bestShare 37 = .ok (.iload 6, 2) := by decide +kernel
theorem dX6_bestShare_39 : decode cX6_bestShare 39 = .ok (.iload 4, 2) := by decide +kernel
theorem dX6_bestShare_41 : decode cX6_bestShare 41 = .ok (.if_icmp .le 10, 3) := by decide +kernel
theorem dX6_bestShare_44 : decode cX6_bestShare 44 = .ok (.iload 6, 2) := by decide +kernel
theorem dX6_bestShare_46 : decode cX6_bestShare 46 = .ok (.istore 4, 2) := by decide +kernel
theorem dX6_bestShare_48 : decode cX6_bestShare 48 = .ok (.iload 5, 2) := by decide +kernel
theorem dX6_bestShare_50 : decode cX6_bestShare 50 = .ok (.istore_n 3, 1) := by decide +kernel
theorem dX6_bestShare_51 : decode cX6_bestShare 51 = .ok (.iinc 5 1, 3) := by decide +kernel
theorem dX6_bestShare_54 : decode cX6_bestShare 54 = .ok (.goto (-40), 3) := by decide +kernel
theorem dX6_bestShare_57 : decode cX6_bestShare 57 = .ok (.iload_n 3, 1) := by decide +kernel
theorem dX6_bestShare_58 : decode cX6_bestShare 58 = .ok (.ireturn, 1) := by decide +kernel
set_option maxRecDepth 20000 in
theorem ggX6_deal_X6_bestShare : GoodIn wsX6_deal wsX6_bestShare := goodIn_r _ [10, 11, 12, 13, 9, 14, 2, 3, 15, 5, 16, 17, 18, 19, 20, 21, 22, 23, 24, 25, 26, 27, 28, 29, 30, 31, 32, 33, 34, 35] rfl (by decide +kernel)
set_option maxRecDepth 20000 in
theorem gX6_deal_X6_bestShare : GoodIn wsX6_deal (wsV RX6 48 RX6 yX6_bestShare wsX6_bestShare) := goodIn_app (goodIn_of _ (by decide +kernel)) ggX6_deal_X6_bestShare
theorem dX6_deal_0 : decode cX6_deal 0 = .ok (.iload_n 1, 1) := by decide +kernel
theorem dX6_deal_1 : decode cX6_deal 1 = .ok (.istore_n 2, 1) := by decide +kernel
theorem dX6_deal_2 : decode cX6_deal 2 = .ok (.aload_n 0, 1) := by decide +kernel
theorem dX6_deal_3 : decode cX6_deal 3 = .ok (.iconst 0, 1) := by decide +kernel
theorem dX6_deal_4 : decode cX6_deal 4 = .ok (.putfield 80, 3) := by decide +kernel
theorem dX6_deal_7 : decode cX6_deal 7 = .ok (.iconst 0, 1) := by decide +kernel
theorem dX6_deal_8 : decode cX6_deal 8 = .ok (.istore_n 3, 1) := by decide +kernel
theorem dX6_deal_9 : decode cX6_deal 9 = .ok (.iload_n 3, 1) := by decide +kernel
theorem dX6_deal_10 : decode cX6_deal 10 = .ok (.aload_n 0, 1) := by decide +kernel
theorem dX6_deal_11 : decode cX6_deal 11 = .ok (.getfield 30, 3) := by decide +kernel
theorem dX6_deal_14 : decode cX6_deal 14 = .ok (.getfield 42, 3) := by decide +kernel
theorem dX6_deal_17 : decode cX6_deal 17 = .ok (.if_icmp .ge 52, 3) := by decide +kernel
theorem dX6_deal_20 : decode cX6_deal 20 = .ok (.aload_n 0, 1) := by decide +kernel
theorem dX6_deal_21 : decode cX6_deal 21 = .ok (.getfield 26, 3) := by decide +kernel
theorem dX6_deal_24 : decode cX6_deal 24 = .ok (.iload_n 3, 1) := by decide +kernel
theorem dX6_deal_25 : decode cX6_deal 25 = .ok (.aload_n 0, 1) := by decide +kernel
theorem dX6_deal_26 : decode cX6_deal 26 = .ok (.iload_n 3, 1) := by decide +kernel
theorem dX6_deal_27 : decode cX6_deal 27 = .ok (.iload_n 2, 1) := by decide +kernel
theorem dX6_deal_28 : decode cX6_deal 28 = .ok (.invokevirtual 48, 3) := by decide +kernel
theorem dX6_deal_31 : decode cX6_deal 31 = .ok (.iastore, 1) := by decide +kernel
theorem dX6_deal_32 : decode cX6_deal 32 = .ok (.iload_n 2, 1) := by decide +kernel
theorem dX6_deal_33 : decode cX6_deal 33 = .ok (.aload_n 0, 1) := by decide +kernel
theorem dX6_deal_34 : decode cX6_deal 34 = .ok (.getfield 26, 3) := by decide +kernel
theorem dX6_deal_37 : decode cX6_deal 37 = .ok (.iload_n 3, 1) := by decide +kernel
theorem dX6_deal_38 : decode cX6_deal 38 = .ok (.iaload, 1) := by decide +kernel
theorem dX6_deal_39 : decode cX6_deal 39 = .ok (.isub, 1) := by decide +kernel
theorem dX6_deal_40 : decode cX6_deal 40 = .ok (.istore_n 2, 1) := by decide +kernel
theorem dX6_deal_41 : decode cX6_deal 41 = .ok (.aload_n 0, 1) := by decide +kernel
theorem dX6_deal_42 : decode cX6_deal 42 = .ok (.dup, 1) := by decide +kernel
theorem dX6_deal_43 : decode cX6_deal 43 = .ok (.getfield 80, 3) := by decide +kernel
theorem dX6_deal_46 : decode cX6_deal 46 = .ok (.aload_n 0, 1) := by decide +kernel
theorem dX6_deal_47 : decode cX6_deal 47 = .ok (.getfield 20, 3) := by decide +kernel
theorem dX6_deal_50 : decode cX6_deal 50 = .ok (.iload_n 3, 1) := by decide +kernel
theorem dX6_deal_51 : decode cX6_deal 51 = .ok (.aaload, 1) := by decide +kernel
theorem dX6_deal_52 : decode cX6_deal 52 = .ok (.aload_n 0, 1) := by decide +kernel
theorem dX6_deal_53 : decode cX6_deal 53 = .ok (.getfield 26, 3) := by decide +kernel
theorem dX6_deal_56 : decode cX6_deal 56 = .ok (.iload_n 3, 1) := by decide +kernel
theorem dX6_deal_57 : decode cX6_deal 57 = .ok (.iaload, 1) := by decide +kernel
theorem dX6_deal_58 : decode cX6_deal 58 = .ok (.iaload, 1) := by decide +kernel
theorem dX6_deal_59 : decode cX6_deal 59 = .ok (.iadd, 1) := by decide +kernel
theorem dX6_deal_60 : decode cX6_deal 60 = .ok (.putfield 80, 3) := by decide +kernel
theorem dX6_deal_63 : decode cX6_deal 63 = .ok (.iinc 3 1, 3) := by decide +kernel
theorem dX6_deal_66 : decode cX6_deal 66 = .ok (.goto (-57), 3) := by decide +kernel
theorem dX6_deal_69 : decode cX6_deal 69 = .ok (.return_, 1) := by decide +kernel
set_option maxRecDepth 20000 in
theorem ggX7_init_X9_init : GoodIn wsX7_init wsX9_init := goodIn_r _ [9, 10, 2, 3, 11, 12, 13, 14, 18, 19, 20, 21, 22] rfl (by decide +kernel)
set_option maxRecDepth 20000 in
theorem gX7_init_X9_init_n15 : GoodIn wsX7_init (wsX9_init) := ggX7_init_X9_init
theorem dX7_init_0 : decode cX7_init 0 = .ok (.aload_n 0, 1) := by decide +kernel
theorem dX7_init_1 : decode cX7_init 1 = .ok (.invokespecial 1, 3) := by decide +kernel
theorem dX7_init_4 : decode cX7_init 4 = .ok (.aload_n 0, 1) := by decide +kernel
theorem dX7_init_5 : decode cX7_init 5 = .ok (.iload_n 1, 1) := by decide +kernel
theorem dX7_init_6 : decode cX7_init 6 = .ok (.anewarray 7, 3) := by decide +kernel
theorem dX7_init_9 : decode cX7_init 9 = .ok (.putfield 9, 3) := by decide +kernel
theorem dX7_init_12 : decode cX7_init 12 = .ok (.iconst 0, 1) := by decide +kernel
theorem dX7_init_13 : decode cX7_init 13 = .ok (.istore_n 2, 1) := by decide +kernel
theorem dX7_init_14 : decode cX7_init 14 = .ok (.iload_n 2, 1) := by decide +kernel
theorem dX7_init_15 : decode cX7_init 15 = .ok (.iload_n 1, 1) := by decide +kernel
theorem dX7_init_16 : decode cX7_init 16 = .ok (.if_icmp .ge 22, 3) := by decide +kernel
theorem dX7_init_19 : decode cX7_init 19 = .ok (.aload_n 0, 1) := by decide +kernel
theorem dX7_init_20 : decode cX7_init 20 = .ok (.getfield 9, 3) := by decide +kernel
theorem dX7_init_23 : decode cX7_init 23 = .ok (.iload_n 2, 1) := by decide +kernel
theorem dX7_init_24 : decode cX7_init 24 = .ok (.new 7, 3) := by decide +kernel
theorem dX7_init_27 : decode cX7_init 27 = .ok (.dup, 1) := by decide +kernel
theorem dX7_init_28 : decode cX7_init 28 = .ok (.invokespecial 15, 3) := by decide +kernel
theorem dX7_init_31 : decode cX7_init 31 = .ok (.aastore, 1) := by decide +kernel
theorem dX7_init_32 : decode cX7_init 32 = .ok (.iinc 2 1, 3) := by decide +kernel
theorem dX7_init_35 : decode cX7_init 35 = .ok (.goto (-21), 3) := by decide +kernel
theorem dX7_init_38 : decode cX7_init 38 = .ok (.return_, 1) := by decide +kernel
theorem dX7_clear_0 : decode cX7_clear 0 = .ok (.aload_n 0, 1) := by decide +kernel
theorem dX7_clear_1 : decode cX7_clear 1 = .ok (.iconst 0, 1) := by decide +kernel
theorem dX7_clear_2 : decode cX7_clear 2 = .ok (.putfield 16, 3) := by decide +kernel
theorem dX7_clear_5 : decode cX7_clear 5 = .ok (.return_, 1) := by decide +kernel
set_option maxRecDepth 20000 in
theorem ggX7_push_X9_become : GoodIn wsX7_push wsX9_become := goodIn_r _ [12, 13, 14, 15, 16, 17, 21, 22, 23, 24, 25] rfl (by decide +kernel)
set_option maxRecDepth 20000 in
theorem gX7_push_X9_become : GoodIn wsX7_push (wsV RX7 23 RX9 yX9_become wsX9_become) := goodIn_app (goodIn_of _ (by decide +kernel)) ggX7_push_X9_become
theorem dX7_push_0 : decode cX7_push 0 = .ok (.aload_n 0, 1) := by decide +kernel
theorem dX7_push_1 : decode cX7_push 1 = .ok (.getfield 20, 3) := by decide +kernel
theorem dX7_push_4 : decode cX7_push 4 = .ok (.ifCond .lt 74, 3) := by decide +kernel
theorem dX7_push_7 : decode cX7_push 7 = .ok (.aload_n 0, 1) := by decide +kernel
theorem dX7_push_8 : decode cX7_push 8 = .ok (.getfield 20, 3) := by decide +kernel
theorem dX7_push_11 : decode cX7_push 11 = .ok (.aload_n 0, 1) := by decide +kernel
theorem dX7_push_12 : decode cX7_push 12 = .ok (.getfield 9, 3) := by decide +kernel
theorem dX7_push_15 : decode cX7_push 15 = .ok (.arraylength, 1) := by decide +kernel
theorem dX7_push_16 : decode cX7_push 16 = .ok (.if_icmp .ge 62, 3) := by decide +kernel
theorem dX7_push_19 : decode cX7_push 19 = .ok (.aload_n 0, 1) := by decide +kernel
theorem dX7_push_20 : decode cX7_push 20 = .ok (.getfield 9, 3) := by decide +kernel
theorem dX7_push_23 : decode cX7_push 23 = .ok (.aload_n 0, 1) := by decide +kernel
theorem dX7_push_24 : decode cX7_push 24 = .ok (.getfield 20, 3) := by decide +kernel
theorem dX7_push_27 : decode cX7_push 27 = .ok (.aaload, 1) := by decide +kernel
theorem dX7_push_28 : decode cX7_push 28 = .ok (.aload_n 1, 1) := by decide +kernel
theorem dX7_push_29 : decode cX7_push 29 = .ok (.invokevirtual 23, 3) := by decide +kernel
theorem dX7_push_32 : decode cX7_push 32 = .ok (.aload_n 0, 1) := by decide +kernel
theorem dX7_push_33 : decode cX7_push 33 = .ok (.aload_n 0, 1) := by decide +kernel
theorem dX7_push_34 : decode cX7_push 34 = .ok (.getfield 20, 3) := by decide +kernel
theorem dX7_push_37 : decode cX7_push 37 = .ok (.iconst 1, 1) := by decide +kernel
theorem dX7_push_38 : decode cX7_push 38 = .ok (.iadd, 1) := by decide +kernel
theorem dX7_push_39 : decode cX7_push 39 = .ok (.aload_n 0, 1) := by decide +kernel
theorem dX7_push_40 : decode cX7_push 40 = .ok (.getfield 9, 3) := by decide +kernel
theorem dX7_push_43 : decode cX7_push 43 = .ok (.arraylength, 1) := by decide +kernel
theorem dX7_push_44 : decode cX7_push 44 = .ok (.if_icmp .ne 7, 3) := by decide +kernel
theorem dX7_push_47 : decode cX7_push 47 = .ok (.iconst 0, 1) := by decide +kernel
theorem dX7_push_48 : decode cX7_push 48 = .ok (.goto 9, 3) := by decide +kernel
theorem dX7_push_51 : decode cX7_push 51 = .ok (.aload_n 0, 1) := by decide +kernel
theorem dX7_push_52 : decode cX7_push 52 = .ok (.getfield 20, 3) := by decide +kernel
theorem dX7_push_55 : decode cX7_push 55 = .ok (.iconst 1, 1) := by decide +kernel
theorem dX7_push_56 : decode cX7_push 56 = .ok (.iadd, 1) := by decide +kernel
theorem dX7_push_57 : decode cX7_push 57 = .ok (.putfield 20, 3) := by decide +kernel
theorem dX7_push_60 : decode cX7_push 60 = .ok (.aload_n 0, 1) := by decide +kernel
theorem dX7_push_61 : decode cX7_push 61 = .ok (.aload_n 0, 1) := by decide +kernel
theorem dX7_push_62 : decode cX7_push 62 = .ok (.getfield 16, 3) := by decide +kernel
theorem dX7_push_65 : decode cX7_push 65 = .ok (.iconst 1, 1) := by decide +kernel
theorem dX7_push_66 : decode cX7_push 66 = .ok (.iadd, 1) := by decide +kernel
theorem dX7_push_67 : decode cX7_push 67 = .ok (.aload_n 0, 1) := by decide +kernel
theorem dX7_push_68 : decode cX7_push 68 = .ok (.getfield 9, 3) := by decide +kernel
theorem dX7_push_71 : decode cX7_push 71 = .ok (.arraylength, 1) := by decide +kernel
theorem dX7_push_72 : decode cX7_push 72 = .ok (.invokestatic 27, 3) := by decide +kernel
theorem dX7_push_75 : decode cX7_push 75 = .ok (.putfield 16, 3) := by decide +kernel
theorem dX7_push_78 : decode cX7_push 78 = .ok (.return_, 1) := by decide +kernel
set_option maxRecDepth 20000 in
theorem ggX7_popInto_X9_become : GoodIn wsX7_popInto wsX9_become := goodIn_r _ [8, 9, 10, 11, 12, 13, 17, 18, 19, 20, 21] rfl (by decide +kernel)
set_option maxRecDepth 20000 in
theorem gX7_popInto_X9_become : GoodIn wsX7_popInto (wsV RX7 23 RX9 yX9_become wsX9_become) := goodIn_app (goodIn_of _ (by decide +kernel)) ggX7_popInto_X9_become
theorem dX7_popInto_0 : decode cX7_popInto 0 = .ok (.aload_n 0, 1) := by decide +kernel
theorem dX7_popInto_1 : decode cX7_popInto 1 = .ok (.getfield 20, 3) := by decide +kernel
theorem dX7_popInto_4 : decode cX7_popInto 4 = .ok (.ifCond .ne 13, 3) := by decide +kernel
theorem dX7_popInto_7 : decode cX7_popInto 7 = .ok (.aload_n 0, 1) := by decide +kernel
theorem dX7_popInto_8 : decode cX7_popInto 8 = .ok (.getfield 9, 3) := by decide +kernel
theorem dX7_popInto_11 : decode cX7_popInto 11 = .ok (.arraylength, 1) := by decide +kernel
theorem dX7_popInto_12 : decode cX7_popInto 12 = .ok (.iconst 1, 1) := by decide +kernel
theorem dX7_popInto_13 : decode cX7_popInto 13 = .ok (.isub, 1) := by decide +kernel
theorem dX7_popInto_14 : decode cX7_popInto 14 = .ok (.goto 9, 3) := by decide +kernel
theorem dX7_popInto_17 : decode cX7_popInto 17 = .ok (.aload_n 0, 1) := by decide +kernel
theorem dX7_popInto_18 : decode cX7_popInto 18 = .ok (.getfield 20, 3) := by decide +kernel
theorem dX7_popInto_21 : decode cX7_popInto 21 = .ok (.iconst 1, 1) := by decide +kernel
theorem dX7_popInto_22 : decode cX7_popInto 22 = .ok (.isub, 1) := by decide +kernel
theorem dX7_popInto_23 : decode cX7_popInto 23 = .ok (.istore_n 2, 1) := by decide +kernel
theorem dX7_popInto_24 : decode cX7_popInto 24 = .ok (.aload_n 0, 1) := by decide +kernel
theorem dX7_popInto_25 : decode cX7_popInto 25 = .ok (.getfield 16, 3) := by decide +kernel
theorem dX7_popInto_28 : decode cX7_popInto 28 = .ok (.ifCond .le 41, 3) := by decide +kernel
theorem dX7_popInto_31 : decode cX7_popInto 31 = .ok (.iload_n 2, 1) := by decide +kernel
theorem dX7_popInto_32 : decode cX7_popInto 32 = .ok (.ifCond .lt 37, 3) := by decide +kernel
theorem dX7_popInto_35 : decode cX7_popInto 35 = .ok (.iload_n 2, 1) := by decide +kernel
theorem dX7_popInto_36 : decode cX7_popInto 36 = .ok (.aload_n 0, 1) := by decide +kernel
theorem dX7_popInto_37 : decode cX7_popInto 37 = .ok (.getfield 9, 3) := by decide +kernel
theorem dX7_popInto_40 : decode cX7_popInto 40 = .ok (.arraylength, 1) := by decide +kernel
theorem dX7_popInto_41 : decode cX7_popInto 41 = .ok (.if_icmp .ge 28, 3) := by decide +kernel
theorem dX7_popInto_44 : decode cX7_popInto 44 = .ok (.aload_n 1, 1) := by decide +kernel
theorem dX7_popInto_45 : decode cX7_popInto 45 = .ok (.aload_n 0, 1) := by decide +kernel
theorem dX7_popInto_46 : decode cX7_popInto 46 = .ok (.getfield 9, 3) := by decide +kernel
theorem dX7_popInto_49 : decode cX7_popInto 49 = .ok (.iload_n 2, 1) := by decide +kernel
theorem dX7_popInto_50 : decode cX7_popInto 50 = .ok (.aaload, 1) := by decide +kernel
theorem dX7_popInto_51 : decode cX7_popInto 51 = .ok (.invokevirtual 23, 3) := by decide +kernel
theorem dX7_popInto_54 : decode cX7_popInto 54 = .ok (.aload_n 0, 1) := by decide +kernel
theorem dX7_popInto_55 : decode cX7_popInto 55 = .ok (.iload_n 2, 1) := by decide +kernel
theorem dX7_popInto_56 : decode cX7_popInto 56 = .ok (.putfield 20, 3) := by decide +kernel
theorem dX7_popInto_59 : decode cX7_popInto 59 = .ok (.aload_n 0, 1) := by decide +kernel
theorem dX7_popInto_60 : decode cX7_popInto 60 = .ok (.dup, 1) := by decide +kernel
theorem dX7_popInto_61 : decode cX7_popInto 61 = .ok (.getfield 16, 3) := by decide +kernel
theorem dX7_popInto_64 : decode cX7_popInto 64 = .ok (.iconst 1, 1) := by decide +kernel
theorem dX7_popInto_65 : decode cX7_popInto 65 = .ok (.isub, 1) := by decide +kernel
theorem dX7_popInto_66 : decode cX7_popInto 66 = .ok (.putfield 16, 3) := by decide +kernel
theorem dX7_popInto_69 : decode cX7_popInto 69 = .ok (.return_, 1) := by decide +kernel
set_option maxRecDepth 20000 in
theorem ggX8_init_X9_init : GoodIn wsX8_init wsX9_init := goodIn_r _ [13, 14, 2, 3, 6, 15, 16, 17, 22, 23, 24, 25, 26] rfl (by decide +kernel)
set_option maxRecDepth 20000 in
theorem gX8_init_X9_init_n29 : GoodIn wsX8_init (wsX9_init) := ggX8_init_X9_init
theorem dX8_init_0 : decode cX8_init 0 = .ok (.aload_n 0, 1) := by decide +kernel
theorem dX8_init_1 : decode cX8_init 1 = .ok (.invokespecial 3, 3) := by decide +kernel
theorem dX8_init_4 : decode cX8_init 4 = .ok (.aload_n 0, 1) := by decide +kernel
theorem dX8_init_5 : decode cX8_init 5 = .ok (.bipush 9, 2) := by decide +kernel
theorem dX8_init_7 : decode cX8_init 7 = .ok (.anewarray 9, 3) := by decide +kernel
theorem dX8_init_10 : decode cX8_init 10 = .ok (.putfield 11, 3) := by decide +kernel
theorem dX8_init_13 : decode cX8_init 13 = .ok (.aload_n 0, 1) := by decide +kernel
theorem dX8_init_14 : decode cX8_init 14 = .ok (.bipush 9, 2) := by decide +kernel
theorem dX8_init_16 : decode cX8_init 16 = .ok (.newarray .int, 2) := by decide +kernel
theorem dX8_init_18 : decode cX8_init 18 = .ok (.putfield 17, 3) := by decide +kernel
theorem dX8_init_21 : decode cX8_init 21 = .ok (.aload_n 0, 1) := by decide +kernel
theorem dX8_init_22 : decode cX8_init 22 = .ok (.aload_n 1, 1) := by decide +kernel
theorem dX8_init_23 : decode cX8_init 23 = .ok (.putfield 21, 3) := by decide +kernel
theorem dX8_init_26 : decode cX8_init 26 = .ok (.aload_n 0, 1) := by decide +kernel
theorem dX8_init_27 : decode cX8_init 27 = .ok (.aload_n 2, 1) := by decide +kernel
theorem dX8_init_28 : decode cX8_init 28 = .ok (.putfield 25, 3) := by decide +kernel
theorem dX8_init_31 : decode cX8_init 31 = .ok (.iconst 0, 1) := by decide +kernel
theorem dX8_init_32 : decode cX8_init 32 = .ok (.istore_n 3, 1) := by decide +kernel
theorem dX8_init_33 : decode cX8_init 33 = .ok (.iload_n 3, 1) := by decide +kernel
theorem dX8_init_34 : decode cX8_init 34 = .ok (.bipush 8, 2) := by decide +kernel
theorem dX8_init_36 : decode cX8_init 36 = .ok (.if_icmp .gt 22, 3) := by decide +kernel
theorem dX8_init_39 : decode cX8_init 39 = .ok (.aload_n 0, 1) := by decide +kernel
theorem dX8_init_40 : decode cX8_init 40 = .ok (.getfield 11, 3) := by decide +kernel
theorem dX8_init_43 : decode cX8_init 43 = .ok (.iload_n 3, 1) := by decide +kernel
theorem dX8_init_44 : decode cX8_init 44 = .ok (.new 9, 3) := by decide +kernel
theorem dX8_init_47 : decode cX8_init 47 = .ok (.dup, 1) := by decide +kernel
theorem dX8_init_48 : decode cX8_init 48 = .ok (.invokespecial 29, 3) := by decide +kernel
theorem dX8_init_51 : decode cX8_init 51 = .ok (.aastore, 1) := by decide +kernel
theorem dX8_init_52 : decode cX8_init 52 = .ok (.iinc 3 1, 3) := by decide +kernel
theorem dX8_init_55 : decode cX8_init 55 = .ok (.goto (-22), 3) := by decide +kernel
theorem dX8_init_58 : decode cX8_init 58 = .ok (.return_, 1) := by decide +kernel
set_option maxRecDepth 20000 in
theorem ggX8_waysKept_X9_become : GoodIn wsX8_waysKept wsX9_become := goodIn_r _ [10, 11, 12, 13, 14, 15, 93, 94, 95, 96, 97] rfl (by decide +kernel)
set_option maxRecDepth 20000 in
theorem gX8_waysKept_X9_become : GoodIn wsX8_waysKept (wsV RX8 30 RX9 yX9_become wsX9_become) := goodIn_app (goodIn_of _ (by decide +kernel)) ggX8_waysKept_X9_become
set_option maxRecDepth 20000 in
theorem ggX8_waysKept_X8_sameAhead : GoodIn wsX8_waysKept wsX8_sameAhead := goodIn_r _ [19, 20, 21, 22] rfl (by decide +kernel)
set_option maxRecDepth 20000 in
theorem gX8_waysKept_X8_sameAhead : GoodIn wsX8_waysKept (va_wsS RX8 34 yX8_sameAhead wsX8_sameAhead) := goodIn_app (goodIn_of _ (by decide +kernel)) ggX8_waysKept_X8_sameAhead
set_option maxRecDepth 20000 in
theorem ggX8_waysKept_X10_has : GoodIn wsX8_waysKept wsX10_has := goodIn_r _ [22] rfl (by decide +kernel)
set_option maxRecDepth 20000 in
theorem gX8_waysKept_X10_has_n43 : GoodIn wsX8_waysKept (wsX10_has) := ggX8_waysKept_X10_has
set_option maxRecDepth 20000 in
theorem ggX8_waysKept_X8_goBy : GoodIn wsX8_waysKept wsX8_goBy := goodIn_r _ [26, 1, 27, 28, 2, 6, 7, 8, 9, 10, 11, 12, 13, 14, 15, 29, 30, 31, 32, 33, 34, 35, 36, 37, 38, 39, 40, 41, 42, 43, 44, 45, 46, 47, 48, 49, 50, 51, 52, 53, 54, 55, 56, 57, 58, 59, 20, 21, 22, 60, 61, 62, 63, 64, 65, 66, 67, 68, 69, 70, 71, 72, 73, 74, 75, 76, 77, 78, 79, 93, 94, 95, 96, 97, 98, 99, 80, 81, 82, 83, 84, 85, 86, 87, 88, 89, 90, 91, 92] rfl (by decide +kernel)
set_option maxRecDepth 20000 in
theorem gX8_waysKept_X8_goBy : GoodIn wsX8_waysKept (wsV RX8 47 RX8 yX8_goBy wsX8_goBy) := goodIn_app (goodIn_of _ (by decide +kernel)) ggX8_waysKept_X8_goBy
theorem dX8_waysKept_0 : decode cX8_waysKept 0 = .ok (.aload_n 0, 1) := by decide +kernel
theorem dX8_waysKept_1 : decode cX8_waysKept 1 = .ok (.getfield 11, 3) := by decide +kernel
theorem dX8_waysKept_4 : decode cX8_waysKept 4 = .ok (.iconst 0, 1) := by decide +kernel
theorem dX8_waysKept_5 : decode cX8_waysKept 5 = .ok (.aaload, 1) := by decide +kernel
theorem dX8_waysKept_6 : decode cX8_waysKept 6 = .ok (.aload_n 1, 1) := by decide +kernel
theorem dX8_waysKept_7 : decode cX8_waysKept 7 = .ok (.invokevirtual 30, 3) := by decide +kernel
theorem dX8_waysKept_10 : decode cX8_waysKept 10 = .ok (.aload_n 0, 1) := by decide +kernel
theorem dX8_waysKept_11 : decode cX8_waysKept 11 = .ok (.getfield 17, 3) := by decide +kernel
theorem dX8_waysKept_14 : decode cX8_waysKept 14 = .ok (.iconst 0, 1) := by decide +kernel
theorem dX8_waysKept_15 : decode cX8_waysKept 15 = .ok (.iconst 1, 1) := by decide +kernel
theorem dX8_waysKept_16 : decode cX8_waysKept 16 = .ok (.iastore, 1) := by decide +kernel
theorem dX8_waysKept_17 : decode cX8_waysKept 17 = .ok (.iconst 0, 1) := by decide +kernel
theorem dX8_waysKept_18 : decode cX8_waysKept 18 = .ok (.istore 5, 2) := by decide +kernel
theorem dX8_waysKept_20 : decode cX8_waysKept 20 = .ok (.iconst 0, 1) := by decide +kernel
theorem dX8_waysKept_21 : decode cX8_waysKept 21 = .ok (.istore 6, 2) := by decide +kernel
theorem dX8_waysKept_23 : decode cX8_waysKept 23 = .ok (.iload 6, 2) := by decide +kernel
theorem dX8_waysKept_25 : decode cX8_waysKept 25 = .ok (.iconst 1, 1) := by decide +kernel
theorem dX8_waysKept_26 : decode cX8_waysKept 26 = .ok (.iload_n 3, 1) := by decide +kernel
theorem dX8_waysKept_27 : decode cX8_waysKept 27 = .ok (.ishl, 1) := by decide +kernel
theorem dX8_waysKept_28 : decode cX8_waysKept 28 = .ok (.if_icmp .ge 86, 3) := by decide +kernel
theorem dX8_waysKept_31 : decode cX8_waysKept 31 = .ok (.iload 6, 2) := by decide +kernel
theorem dX8_waysKept_33 : decode cX8_waysKept 33 = .ok (.iload_n 3, 1) := by decide +kernel
theorem dX8_waysKept_34 : decode cX8_waysKept 34 = .ok (.invokestatic 34, 3) := by decide +kernel
theorem dX8_waysKept_37 : decode cX8_waysKept 37 = .ok (.istore 7, 2) := by decide +kernel
theorem dX8_waysKept_39 : decode cX8_waysKept 39 = .ok (.iload 7, 2) := by decide +kernel
theorem dX8_waysKept_41 : decode cX8_waysKept 41 = .ok (.iload_n 3, 1) := by decide +kernel
theorem dX8_waysKept_42 : decode cX8_waysKept 42 = .ok (.if_icmp .ge 37, 3) := by decide +kernel
theorem dX8_waysKept_45 : decode cX8_waysKept 45 = .ok (.aload_n 0, 1) := by decide +kernel
theorem dX8_waysKept_46 : decode cX8_waysKept 46 = .ok (.iload 7, 2) := by decide +kernel
theorem dX8_waysKept_48 : decode cX8_waysKept 48 = .ok (.aload_n 0, 1) := by decide +kernel
theorem dX8_waysKept_49 : decode cX8_waysKept 49 = .ok (.getfield 21, 3) := by decide +kernel
theorem dX8_waysKept_52 : decode cX8_waysKept 52 = .ok (.getfield 38, 3) := by decide +kernel
theorem dX8_waysKept_55 : decode cX8_waysKept 55 = .ok (.iload_n 2, 1) := by decide +kernel
theorem dX8_waysKept_56 : decode cX8_waysKept 56 = .ok (.iaload, 1) := by decide +kernel
theorem dX8_waysKept_57 : decode cX8_waysKept 57 = .ok (.iload 6, 2) := by decide +kernel
theorem dX8_waysKept_59 : decode cX8_waysKept 59 = .ok (.iload_n 3, 1) := by decide +kernel
theorem dX8_waysKept_60 : decode cX8_waysKept 60 = .ok (.iconst 1, 1) := by decide +kernel
theorem dX8_waysKept_61 : decode cX8_waysKept 61 = .ok (.isub, 1) := by decide +kernel
theorem dX8_waysKept_62 : decode cX8_waysKept 62 = .ok (.iload 7, 2) := by decide +kernel
theorem dX8_waysKept_64 : decode cX8_waysKept 64 = .ok (.isub, 1) := by decide +kernel
theorem dX8_waysKept_65 : decode cX8_waysKept 65 = .ok (.invokestatic 43, 3) := by decide +kernel
theorem dX8_waysKept_68 : decode cX8_waysKept 68 = .ok (.iload 4, 2) := by decide +kernel
theorem dX8_waysKept_70 : decode cX8_waysKept 70 = .ok (.invokevirtual 47, 3) := by decide +kernel
theorem dX8_waysKept_73 : decode cX8_waysKept 73 = .ok (.iinc 7 1, 3) := by decide +kernel
theorem dX8_waysKept_76 : decode cX8_waysKept 76 = .ok (.goto (-37), 3) := by decide +kernel
theorem dX8_waysKept_79 : decode cX8_waysKept 79 = .ok (.iload 5, 2) := by decide +kernel
theorem dX8_waysKept_81 : decode cX8_waysKept 81 = .ok (.aload_n 0, 1) := by decide +kernel
theorem dX8_waysKept_82 : decode cX8_waysKept 82 = .ok (.getfield 11, 3) := by decide +kernel
theorem dX8_waysKept_85 : decode cX8_waysKept 85 = .ok (.iload_n 3, 1) := by decide +kernel
theorem dX8_waysKept_86 : decode cX8_waysKept 86 = .ok (.aaload, 1) := by decide +kernel
theorem dX8_waysKept_87 : decode cX8_waysKept 87 = .ok (.getfield 51, 3) := by decide +kernel
theorem dX8_waysKept_90 : decode cX8_waysKept 90 = .ok (.iload_n 2, 1) := by decide +kernel
theorem dX8_waysKept_91 : decode cX8_waysKept 91 = .ok (.iaload, 1) := by decide +kernel
theorem dX8_waysKept_92 : decode cX8_waysKept 92 = .ok (.ifCond .le 12, 3) := by decide +kernel
theorem dX8_waysKept_95 : decode cX8_waysKept 95 = .ok (.aload_n 0, 1) := by decide +kernel
theorem dX8_waysKept_96 : decode cX8_waysKept 96 = .ok (.getfield 17, 3) := by decide +kernel
theorem dX8_waysKept_99 : decode cX8_waysKept 99 = .ok (.iload_n 3, 1) := by decide +kernel
theorem dX8_waysKept_100 : decode cX8_waysKept 100 = .ok (.iaload, 1) := by decide +kernel
theorem dX8_waysKept_101 : decode cX8_waysKept 101 = .ok (.goto 4, 3) := by decide +kernel
theorem dX8_waysKept_104 : decode cX8_waysKept 104 = .ok (.iconst 0, 1) := by decide +kernel
theorem dX8_waysKept_105 : decode cX8_waysKept 105 = .ok (.iadd, 1) := by decide +kernel
theorem dX8_waysKept_106 : decode cX8_waysKept 106 = .ok (.istore 5, 2) := by decide +kernel
theorem dX8_waysKept_108 : decode cX8_waysKept 108 = .ok (.iinc 6 1, 3) := by decide +kernel
theorem dX8_waysKept_111 : decode cX8_waysKept 111 = .ok (.goto (-88), 3) := by decide +kernel
theorem dX8_waysKept_114 : decode cX8_waysKept 114 = .ok (.iload 5, 2) := by decide +kernel
theorem dX8_waysKept_116 : decode cX8_waysKept 116 = .ok (.ireturn, 1) := by decide +kernel
set_option maxRecDepth 20000 in
theorem ggX8_sameAhead_X10_has : GoodIn wsX8_sameAhead wsX10_has := goodIn_r _ [3] rfl (by decide +kernel)
set_option maxRecDepth 20000 in
theorem gX8_sameAhead_X10_has_n43 : GoodIn wsX8_sameAhead (wsX10_has) := ggX8_sameAhead_X10_has
theorem dX8_sameAhead_0 : decode cX8_sameAhead 0 = .ok (.iload_n 1, 1) := by decide +kernel
theorem dX8_sameAhead_1 : decode cX8_sameAhead 1 = .ok (.iconst 1, 1) := by decide +kernel
theorem dX8_sameAhead_2 : decode cX8_sameAhead 2 = .ok (.isub, 1) := by decide +kernel
theorem dX8_sameAhead_3 : decode cX8_sameAhead 3 = .ok (.istore_n 2, 1) := by decide +kernel
theorem dX8_sameAhead_4 : decode cX8_sameAhead 4 = .ok (.iload_n 2, 1) := by decide +kernel
theorem dX8_sameAhead_5 : decode cX8_sameAhead 5 = .ok (.ifCond .le 23, 3) := by decide +kernel
theorem dX8_sameAhead_8 : decode cX8_sameAhead 8 = .ok (.iload_n 0, 1) := by decide +kernel
theorem dX8_sameAhead_9 : decode cX8_sameAhead 9 = .ok (.iload_n 1, 1) := by decide +kernel
theorem dX8_sameAhead_10 : decode cX8_sameAhead 10 = .ok (.iconst 1, 1) := by decide +kernel
theorem dX8_sameAhead_11 : decode cX8_sameAhead 11 = .ok (.isub, 1) := by decide +kernel
theorem dX8_sameAhead_12 : decode cX8_sameAhead 12 = .ok (.iload_n 2, 1) := by decide +kernel
theorem dX8_sameAhead_13 : decode cX8_sameAhead 13 = .ok (.isub, 1) := by decide +kernel
theorem dX8_sameAhead_14 : decode cX8_sameAhead 14 = .ok (.invokestatic 43, 3) := by decide +kernel
theorem dX8_sameAhead_17 : decode cX8_sameAhead 17 = .ok (.ifCond .eq 5, 3) := by decide +kernel
theorem dX8_sameAhead_20 : decode cX8_sameAhead 20 = .ok (.iload_n 2, 1) := by decide +kernel
theorem dX8_sameAhead_21 : decode cX8_sameAhead 21 = .ok (.ireturn, 1) := by decide +kernel
theorem dX8_sameAhead_22 : decode cX8_sameAhead 22 = .ok (.iinc 2 (-1), 3) := by decide +kernel
theorem dX8_sameAhead_25 : decode cX8_sameAhead 25 = .ok (.goto (-21), 3) := by decide +kernel
theorem dX8_sameAhead_28 : decode cX8_sameAhead 28 = .ok (.iconst 0, 1) := by decide +kernel
theorem dX8_sameAhead_29 : decode cX8_sameAhead 29 = .ok (.ireturn, 1) := by decide +kernel
set_option maxRecDepth 20000 in
theorem ggX8_goBy_X9_become : GoodIn wsX8_goBy wsX9_become := goodIn_r _ [9, 10, 11, 12, 13, 14, 69, 70, 71, 72, 73] rfl (by decide +kernel)
set_option maxRecDepth 20000 in
theorem gX8_goBy_X9_become : GoodIn wsX8_goBy (wsV RX8 30 RX9 yX9_become wsX9_become) := goodIn_app (goodIn_of _ (by decide +kernel)) ggX8_goBy_X9_become
set_option maxRecDepth 20000 in
theorem ggX8_goBy_X2_goByAt : GoodIn wsX8_goBy wsX2_goByAt := goodIn_r _ [19, 20, 21, 22, 23, 24, 25, 26, 27, 28, 29, 30, 31, 32, 33, 34, 35, 18, 36, 37, 38, 39, 40, 41, 42, 43, 44, 45, 46, 47, 48, 49, 50, 51, 52, 53, 54, 55, 56, 57, 58, 8, 59, 13, 60, 61, 62, 63, 64, 69, 70, 71, 72, 73, 74, 75, 76, 77, 78, 79, 80, 81, 82, 83, 84, 85, 86, 87, 88] rfl (by decide +kernel)
set_option maxRecDepth 20000 in
theorem gX8_goBy_X2_goByAt : GoodIn wsX8_goBy (wsV RX8 57 RX2 yX2_goByAt wsX2_goByAt) := goodIn_app (goodIn_of _ (by decide +kernel)) ggX8_goBy_X2_goByAt
theorem dX8_goBy_0 : decode cX8_goBy 0 = .ok (.aload_n 0, 1) := by decide +kernel
theorem dX8_goBy_1 : decode cX8_goBy 1 = .ok (.getfield 11, 3) := by decide +kernel
theorem dX8_goBy_4 : decode cX8_goBy 4 = .ok (.iload_n 1, 1) := by decide +kernel
theorem dX8_goBy_5 : decode cX8_goBy 5 = .ok (.iconst 1, 1) := by decide +kernel
theorem dX8_goBy_6 : decode cX8_goBy 6 = .ok (.iadd, 1) := by decide +kernel
theorem dX8_goBy_7 : decode cX8_goBy 7 = .ok (.aaload, 1) := by decide +kernel
theorem dX8_goBy_8 : decode cX8_goBy 8 = .ok (.aload_n 0, 1) := by decide +kernel
theorem dX8_goBy_9 : decode cX8_goBy 9 = .ok (.getfield 11, 3) := by decide +kernel
theorem dX8_goBy_12 : decode cX8_goBy 12 = .ok (.iload_n 1, 1) := by decide +kernel
theorem dX8_goBy_13 : decode cX8_goBy 13 = .ok (.aaload, 1) := by decide +kernel
theorem dX8_goBy_14 : decode cX8_goBy 14 = .ok (.invokevirtual 30, 3) := by decide +kernel
theorem dX8_goBy_17 : decode cX8_goBy 17 = .ok (.aload_n 0, 1) := by decide +kernel
theorem dX8_goBy_18 : decode cX8_goBy 18 = .ok (.getfield 25, 3) := by decide +kernel
theorem dX8_goBy_21 : decode cX8_goBy 21 = .ok (.aload_n 0, 1) := by decide +kernel
theorem dX8_goBy_22 : decode cX8_goBy 22 = .ok (.getfield 11, 3) := by decide +kernel
theorem dX8_goBy_25 : decode cX8_goBy 25 = .ok (.iload_n 1, 1) := by decide +kernel
theorem dX8_goBy_26 : decode cX8_goBy 26 = .ok (.iconst 1, 1) := by decide +kernel
theorem dX8_goBy_27 : decode cX8_goBy 27 = .ok (.iadd, 1) := by decide +kernel
theorem dX8_goBy_28 : decode cX8_goBy 28 = .ok (.aaload, 1) := by decide +kernel
theorem dX8_goBy_29 : decode cX8_goBy 29 = .ok (.iload_n 2, 1) := by decide +kernel
theorem dX8_goBy_30 : decode cX8_goBy 30 = .ok (.iload_n 3, 1) := by decide +kernel
theorem dX8_goBy_31 : decode cX8_goBy 31 = .ok (.ifCond .eq 7, 3) := by decide +kernel
theorem dX8_goBy_34 : decode cX8_goBy 34 = .ok (.iconst 0, 1) := by decide +kernel
theorem dX8_goBy_35 : decode cX8_goBy 35 = .ok (.goto 14, 3) := by decide +kernel
theorem dX8_goBy_38 : decode cX8_goBy 38 = .ok (.aload_n 0, 1) := by decide +kernel
theorem dX8_goBy_39 : decode cX8_goBy 39 = .ok (.getfield 11, 3) := by decide +kernel
theorem dX8_goBy_42 : decode cX8_goBy 42 = .ok (.iload_n 1, 1) := by decide +kernel
theorem dX8_goBy_43 : decode cX8_goBy 43 = .ok (.aaload, 1) := by decide +kernel
theorem dX8_goBy_44 : decode cX8_goBy 44 = .ok (.getfield 54, 3) := by decide +kernel
theorem dX8_goBy_47 : decode cX8_goBy 47 = .ok (.iload_n 2, 1) := by decide +kernel
theorem dX8_goBy_48 : decode cX8_goBy 48 = .ok (.iaload, 1) := by decide +kernel
theorem dX8_goBy_49 : decode cX8_goBy 49 = .ok (.invokevirtual 57, 3) := by decide +kernel
theorem dX8_goBy_52 : decode cX8_goBy 52 = .ok (.pop, 1) := by decide +kernel
theorem dX8_goBy_53 : decode cX8_goBy 53 = .ok (.aload_n 0, 1) := by decide +kernel
theorem dX8_goBy_54 : decode cX8_goBy 54 = .ok (.getfield 17, 3) := by decide +kernel
theorem dX8_goBy_57 : decode cX8_goBy 57 = .ok (.iload_n 1, 1) := by decide +kernel
theorem dX8_goBy_58 : decode cX8_goBy 58 = .ok (.iconst 1, 1) := by decide +kernel
theorem dX8_goBy_59 : decode cX8_goBy 59 = .ok (.iadd, 1) := by decide +kernel
theorem dX8_goBy_60 : decode cX8_goBy 60 = .ok (.aload_n 0, 1) := by decide +kernel
theorem dX8_goBy_61 : decode cX8_goBy 61 = .ok (.getfield 17, 3) := by decide +kernel
theorem dX8_goBy_64 : decode cX8_goBy 64 = .ok (.iload_n 1, 1) := by decide +kernel
theorem dX8_goBy_65 : decode cX8_goBy 65 = .ok (.iaload, 1) := by decide +kernel
theorem dX8_goBy_66 : decode cX8_goBy 66 = .ok (.iload_n 3, 1) := by decide +kernel
theorem dX8_goBy_67 : decode cX8_goBy 67 = .ok (.ifCond .eq 8, 3) := by decide +kernel
theorem dX8_goBy_70 : decode cX8_goBy 70 = .ok (.iload 4, 2) := by decide +kernel
theorem dX8_goBy_72 : decode cX8_goBy 72 = .ok (.goto 8, 3) := by decide +kernel
theorem dX8_goBy_75 : decode cX8_goBy 75 = .ok (.bipush 10, 2) := by decide +kernel
theorem dX8_goBy_77 : decode cX8_goBy 77 = .ok (.iload 4, 2) := by decide +kernel
theorem dX8_goBy_79 : decode cX8_goBy 79 = .ok (.isub, 1) := by decide +kernel
theorem dX8_goBy_80 : decode cX8_goBy 80 = .ok (.imul, 1) := by decide +kernel
theorem dX8_goBy_81 : decode cX8_goBy 81 = .ok (.iastore, 1) := by decide +kernel
theorem dX8_goBy_82 : decode cX8_goBy 82 = .ok (.return_, 1) := by decide +kernel
theorem dX9_init_0 : decode cX9_init 0 = .ok (.aload_n 0, 1) := by decide +kernel
theorem dX9_init_1 : decode cX9_init 1 = .ok (.invokespecial 3, 3) := by decide +kernel
theorem dX9_init_4 : decode cX9_init 4 = .ok (.aload_n 0, 1) := by decide +kernel
theorem dX9_init_5 : decode cX9_init 5 = .ok (.bipush 9, 2) := by decide +kernel
theorem dX9_init_7 : decode cX9_init 7 = .ok (.newarray .int, 2) := by decide +kernel
theorem dX9_init_9 : decode cX9_init 9 = .ok (.putfield 9, 3) := by decide +kernel
theorem dX9_init_12 : decode cX9_init 12 = .ok (.aload_n 0, 1) := by decide +kernel
theorem dX9_init_13 : decode cX9_init 13 = .ok (.bipush 9, 2) := by decide +kernel
theorem dX9_init_15 : decode cX9_init 15 = .ok (.newarray .int, 2) := by decide +kernel
theorem dX9_init_17 : decode cX9_init 17 = .ok (.putfield 15, 3) := by decide +kernel
theorem dX9_init_20 : decode cX9_init 20 = .ok (.aload_n 0, 1) := by decide +kernel
theorem dX9_init_21 : decode cX9_init 21 = .ok (.bipush 8, 2) := by decide +kernel
theorem dX9_init_23 : decode cX9_init 23 = .ok (.newarray .int, 2) := by decide +kernel
theorem dX9_init_25 : decode cX9_init 25 = .ok (.putfield 18, 3) := by decide +kernel
theorem dX9_init_28 : decode cX9_init 28 = .ok (.return_, 1) := by decide +kernel
theorem dX9_startAs_0 : decode cX9_startAs 0 = .ok (.iconst 0, 1) := by decide +kernel
theorem dX9_startAs_1 : decode cX9_startAs 1 = .ok (.istore_n 2, 1) := by decide +kernel
theorem dX9_startAs_2 : decode cX9_startAs 2 = .ok (.iload_n 2, 1) := by decide +kernel
theorem dX9_startAs_3 : decode cX9_startAs 3 = .ok (.bipush 9, 2) := by decide +kernel
theorem dX9_startAs_5 : decode cX9_startAs 5 = .ok (.if_icmp .ge 33, 3) := by decide +kernel
theorem dX9_startAs_8 : decode cX9_startAs 8 = .ok (.aload_n 0, 1) := by decide +kernel
theorem dX9_startAs_9 : decode cX9_startAs 9 = .ok (.getfield 9, 3) := by decide +kernel
theorem dX9_startAs_12 : decode cX9_startAs 12 = .ok (.iload_n 2, 1) := by decide +kernel
theorem dX9_startAs_13 : decode cX9_startAs 13 = .ok (.aload_n 1, 1) := by decide +kernel
theorem dX9_startAs_14 : decode cX9_startAs 14 = .ok (.getfield 21, 3) := by decide +kernel
theorem dX9_startAs_17 : decode cX9_startAs 17 = .ok (.iload_n 2, 1) := by decide +kernel
theorem dX9_startAs_18 : decode cX9_startAs 18 = .ok (.iaload, 1) := by decide +kernel
theorem dX9_startAs_19 : decode cX9_startAs 19 = .ok (.iastore, 1) := by decide +kernel
theorem dX9_startAs_20 : decode cX9_startAs 20 = .ok (.aload_n 0, 1) := by decide +kernel
theorem dX9_startAs_21 : decode cX9_startAs 21 = .ok (.getfield 15, 3) := by decide +kernel
theorem dX9_startAs_24 : decode cX9_startAs 24 = .ok (.iload_n 2, 1) := by decide +kernel
theorem dX9_startAs_25 : decode cX9_startAs 25 = .ok (.aload_n 1, 1) := by decide +kernel
theorem dX9_startAs_26 : decode cX9_startAs 26 = .ok (.getfield 24, 3) := by decide +kernel
theorem dX9_startAs_29 : decode cX9_startAs 29 = .ok (.iload_n 2, 1) := by decide +kernel
theorem dX9_startAs_30 : decode cX9_startAs 30 = .ok (.iaload, 1) := by decide +kernel
theorem dX9_startAs_31 : decode cX9_startAs 31 = .ok (.iastore, 1) := by decide +kernel
theorem dX9_startAs_32 : decode cX9_startAs 32 = .ok (.iinc 2 1, 3) := by decide +kernel
theorem dX9_startAs_35 : decode cX9_startAs 35 = .ok (.goto (-33), 3) := by decide +kernel
theorem dX9_startAs_38 : decode cX9_startAs 38 = .ok (.iconst 0, 1) := by decide +kernel
theorem dX9_startAs_39 : decode cX9_startAs 39 = .ok (.istore_n 2, 1) := by decide +kernel
theorem dX9_startAs_40 : decode cX9_startAs 40 = .ok (.iload_n 2, 1) := by decide +kernel
theorem dX9_startAs_41 : decode cX9_startAs 41 = .ok (.bipush 8, 2) := by decide +kernel
theorem dX9_startAs_43 : decode cX9_startAs 43 = .ok (.if_icmp .ge 33, 3) := by decide +kernel
theorem dX9_startAs_46 : decode cX9_startAs 46 = .ok (.aload_n 0, 1) := by decide +kernel
theorem dX9_startAs_47 : decode cX9_startAs 47 = .ok (.getfield 18, 3) := by decide +kernel
theorem dX9_startAs_50 : decode cX9_startAs 50 = .ok (.iload_n 2, 1) := by decide +kernel
theorem dX9_startAs_51 : decode cX9_startAs 51 = .ok (.iload_n 2, 1) := by decide +kernel
theorem dX9_startAs_52 : decode cX9_startAs 52 = .ok (.aload_n 1, 1) := by decide +kernel
theorem dX9_startAs_53 : decode cX9_startAs 53 = .ok (.getfield 25, 3) := by decide +kernel
theorem dX9_startAs_56 : decode cX9_startAs 56 = .ok (.if_icmp .ge 12, 3) := by decide +kernel
theorem dX9_startAs_59 : decode cX9_startAs 59 = .ok (.aload_n 1, 1) := by decide +kernel
theorem dX9_startAs_60 : decode cX9_startAs 60 = .ok (.getfield 29, 3) := by decide +kernel
theorem dX9_startAs_63 : decode cX9_startAs 63 = .ok (.iload_n 2, 1) := by decide +kernel
theorem dX9_startAs_64 : decode cX9_startAs 64 = .ok (.iaload, 1) := by decide +kernel
theorem dX9_startAs_65 : decode cX9_startAs 65 = .ok (.goto 4, 3) := by decide +kernel
theorem dX9_startAs_68 : decode cX9_startAs 68 = .ok (.iconst 0, 1) := by decide +kernel
theorem dX9_startAs_69 : decode cX9_startAs 69 = .ok (.iastore, 1) := by decide +kernel
theorem dX9_startAs_70 : decode cX9_startAs 70 = .ok (.iinc 2 1, 3) := by decide +kernel
theorem dX9_startAs_73 : decode cX9_startAs 73 = .ok (.goto (-33), 3) := by decide +kernel
theorem dX9_startAs_76 : decode cX9_startAs 76 = .ok (.aload_n 0, 1) := by decide +kernel
theorem dX9_startAs_77 : decode cX9_startAs 77 = .ok (.iconst 0, 1) := by decide +kernel
theorem dX9_startAs_78 : decode cX9_startAs 78 = .ok (.putfield 30, 3) := by decide +kernel
theorem dX9_startAs_81 : decode cX9_startAs 81 = .ok (.aload_n 0, 1) := by decide +kernel
theorem dX9_startAs_82 : decode cX9_startAs 82 = .ok (.iconst 0, 1) := by decide +kernel
theorem dX9_startAs_83 : decode cX9_startAs 83 = .ok (.putfield 33, 3) := by decide +kernel
theorem dX9_startAs_86 : decode cX9_startAs 86 = .ok (.return_, 1) := by decide +kernel
theorem dX9_become_0 : decode cX9_become 0 = .ok (.iconst 0, 1) := by decide +kernel
theorem dX9_become_1 : decode cX9_become 1 = .ok (.istore_n 2, 1) := by decide +kernel
theorem dX9_become_2 : decode cX9_become 2 = .ok (.iload_n 2, 1) := by decide +kernel
theorem dX9_become_3 : decode cX9_become 3 = .ok (.bipush 9, 2) := by decide +kernel
theorem dX9_become_5 : decode cX9_become 5 = .ok (.if_icmp .ge 33, 3) := by decide +kernel
theorem dX9_become_8 : decode cX9_become 8 = .ok (.aload_n 0, 1) := by decide +kernel
theorem dX9_become_9 : decode cX9_become 9 = .ok (.getfield 9, 3) := by decide +kernel
theorem dX9_become_12 : decode cX9_become 12 = .ok (.iload_n 2, 1) := by decide +kernel
theorem dX9_become_13 : decode cX9_become 13 = .ok (.aload_n 1, 1) := by decide +kernel
theorem dX9_become_14 : decode cX9_become 14 = .ok (.getfield 9, 3) := by decide +kernel
theorem dX9_become_17 : decode cX9_become 17 = .ok (.iload_n 2, 1) := by decide +kernel
theorem dX9_become_18 : decode cX9_become 18 = .ok (.iaload, 1) := by decide +kernel
theorem dX9_become_19 : decode cX9_become 19 = .ok (.iastore, 1) := by decide +kernel
theorem dX9_become_20 : decode cX9_become 20 = .ok (.aload_n 0, 1) := by decide +kernel
theorem dX9_become_21 : decode cX9_become 21 = .ok (.getfield 15, 3) := by decide +kernel
theorem dX9_become_24 : decode cX9_become 24 = .ok (.iload_n 2, 1) := by decide +kernel
theorem dX9_become_25 : decode cX9_become 25 = .ok (.aload_n 1, 1) := by decide +kernel
theorem dX9_become_26 : decode cX9_become 26 = .ok (.getfield 15, 3) := by decide +kernel
theorem dX9_become_29 : decode cX9_become 29 = .ok (.iload_n 2, 1) := by decide +kernel
theorem dX9_become_30 : decode cX9_become 30 = .ok (.iaload, 1) := by decide +kernel
theorem dX9_become_31 : decode cX9_become 31 = .ok (.iastore, 1) := by decide +kernel
theorem dX9_become_32 : decode cX9_become 32 = .ok (.iinc 2 1, 3) := by decide +kernel
theorem dX9_become_35 : decode cX9_become 35 = .ok (.goto (-33), 3) := by decide +kernel
theorem dX9_become_38 : decode cX9_become 38 = .ok (.iconst 0, 1) := by decide +kernel
theorem dX9_become_39 : decode cX9_become 39 = .ok (.istore_n 2, 1) := by decide +kernel
theorem dX9_become_40 : decode cX9_become 40 = .ok (.iload_n 2, 1) := by decide +kernel
theorem dX9_become_41 : decode cX9_become 41 = .ok (.bipush 8, 2) := by decide +kernel
theorem dX9_become_43 : decode cX9_become 43 = .ok (.if_icmp .ge 21, 3) := by decide +kernel
theorem dX9_become_46 : decode cX9_become 46 = .ok (.aload_n 0, 1) := by decide +kernel
theorem dX9_become_47 : decode cX9_become 47 = .ok (.getfield 18, 3) := by decide +kernel
theorem dX9_become_50 : decode cX9_become 50 = .ok (.iload_n 2, 1) := by decide +kernel
theorem dX9_become_51 : decode cX9_become 51 = .ok (.aload_n 1, 1) := by decide +kernel
theorem dX9_become_52 : decode cX9_become 52 = .ok (.getfield 18, 3) := by decide +kernel
theorem dX9_become_55 : decode cX9_become 55 = .ok (.iload_n 2, 1) := by decide +kernel
theorem dX9_become_56 : decode cX9_become 56 = .ok (.iaload, 1) := by decide +kernel
theorem dX9_become_57 : decode cX9_become 57 = .ok (.iastore, 1) := by decide +kernel
theorem dX9_become_58 : decode cX9_become 58 = .ok (.iinc 2 1, 3) := by decide +kernel
theorem dX9_become_61 : decode cX9_become 61 = .ok (.goto (-21), 3) := by decide +kernel
theorem dX9_become_64 : decode cX9_become 64 = .ok (.aload_n 0, 1) := by decide +kernel
theorem dX9_become_65 : decode cX9_become 65 = .ok (.aload_n 1, 1) := by decide +kernel
theorem dX9_become_66 : decode cX9_become 66 = .ok (.getfield 30, 3) := by decide +kernel
theorem dX9_become_69 : decode cX9_become 69 = .ok (.putfield 30, 3) := by decide +kernel
theorem dX9_become_72 : decode cX9_become 72 = .ok (.aload_n 0, 1) := by decide +kernel
theorem dX9_become_73 : decode cX9_become 73 = .ok (.aload_n 1, 1) := by decide +kernel
theorem dX9_become_74 : decode cX9_become 74 = .ok (.getfield 33, 3) := by decide +kernel
theorem dX9_become_77 : decode cX9_become 77 = .ok (.putfield 33, 3) := by decide +kernel
theorem dX9_become_80 : decode cX9_become 80 = .ok (.return_, 1) := by decide +kernel
set_option maxRecDepth 20000 in
theorem ggX9_hasQuarrelled_X10_has : GoodIn wsX9_hasQuarrelled wsX10_has := goodIn_r _ [4] rfl (by decide +kernel)
set_option maxRecDepth 20000 in
theorem gX9_hasQuarrelled_X10_has_n36 : GoodIn wsX9_hasQuarrelled (wsX10_has) := ggX9_hasQuarrelled_X10_has
theorem dX9_hasQuarrelled_0 : decode cX9_hasQuarrelled 0 = .ok (.aload_n 0, 1) := by decide +kernel
theorem dX9_hasQuarrelled_1 : decode cX9_hasQuarrelled 1 = .ok (.getfield 30, 3) := by decide +kernel
theorem dX9_hasQuarrelled_4 : decode cX9_hasQuarrelled 4 = .ok (.iload_n 1, 1) := by decide +kernel
theorem dX9_hasQuarrelled_5 : decode cX9_hasQuarrelled 5 = .ok (.invokestatic 36, 3) := by decide +kernel
theorem dX9_hasQuarrelled_8 : decode cX9_hasQuarrelled 8 = .ok (.ireturn, 1) := by decide +kernel
theorem dX9_turn_0 : decode cX9_turn 0 = .ok (.aload_n 0, 1) := by decide +kernel
theorem dX9_turn_1 : decode cX9_turn 1 = .ok (.dup, 1) := by decide +kernel
theorem dX9_turn_2 : decode cX9_turn 2 = .ok (.getfield 30, 3) := by decide +kernel
theorem dX9_turn_5 : decode cX9_turn 5 = .ok (.iconst 1, 1) := by decide +kernel
theorem dX9_turn_6 : decode cX9_turn 6 = .ok (.iload_n 1, 1) := by decide +kernel
theorem dX9_turn_7 : decode cX9_turn 7 = .ok (.ishl, 1) := by decide +kernel
theorem dX9_turn_8 : decode cX9_turn 8 = .ok (.ixor, 1) := by decide +kernel
theorem dX9_turn_9 : decode cX9_turn 9 = .ok (.putfield 30, 3) := by decide +kernel
theorem dX9_turn_12 : decode cX9_turn 12 = .ok (.return_, 1) := by decide +kernel
theorem dX9_notGone_0 : decode cX9_notGone 0 = .ok (.iconst 0, 1) := by decide +kernel
theorem dX9_notGone_1 : decode cX9_notGone 1 = .ok (.istore_n 1, 1) := by decide +kernel
theorem dX9_notGone_2 : decode cX9_notGone 2 = .ok (.iconst 0, 1) := by decide +kernel
theorem dX9_notGone_3 : decode cX9_notGone 3 = .ok (.istore_n 2, 1) := by decide +kernel
theorem dX9_notGone_4 : decode cX9_notGone 4 = .ok (.iload_n 2, 1) := by decide +kernel
theorem dX9_notGone_5 : decode cX9_notGone 5 = .ok (.bipush 8, 2) := by decide +kernel
theorem dX9_notGone_7 : decode cX9_notGone 7 = .ok (.if_icmp .ge 26, 3) := by decide +kernel
theorem dX9_notGone_10 : decode cX9_notGone 10 = .ok (.iload_n 1, 1) := by decide +kernel
theorem dX9_notGone_11 : decode cX9_notGone 11 = .ok (.aload_n 0, 1) := by decide +kernel
theorem dX9_notGone_12 : decode cX9_notGone 12 = .ok (.getfield 18, 3) := by decide +kernel
theorem dX9_notGone_15 : decode cX9_notGone 15 = .ok (.iload_n 2, 1) := by decide +kernel
theorem dX9_notGone_16 : decode cX9_notGone 16 = .ok (.iaload, 1) := by decide +kernel
theorem dX9_notGone_17 : decode cX9_notGone 17 = .ok (.ifCond .le 7, 3) := by decide +kernel
theorem dX9_notGone_20 : decode cX9_notGone 20 = .ok (.iconst 1, 1) := by decide +kernel
theorem dX9_notGone_21 : decode cX9_notGone 21 = .ok (.goto 4, 3) := by decide +kernel
theorem dX9_notGone_24 : decode cX9_notGone 24 = .ok (.iconst 0, 1) := by decide +kernel
theorem dX9_notGone_25 : decode cX9_notGone 25 = .ok (.iadd, 1) := by decide +kernel
theorem dX9_notGone_26 : decode cX9_notGone 26 = .ok (.istore_n 1, 1) := by decide +kernel
theorem dX9_notGone_27 : decode cX9_notGone 27 = .ok (.iinc 2 1, 3) := by decide +kernel
theorem dX9_notGone_30 : decode cX9_notGone 30 = .ok (.goto (-26), 3) := by decide +kernel
theorem dX9_notGone_33 : decode cX9_notGone 33 = .ok (.iload_n 1, 1) := by decide +kernel
theorem dX9_notGone_34 : decode cX9_notGone 34 = .ok (.ireturn, 1) := by decide +kernel
theorem dJ6_bitCount_0f7a4_0 : decode cJ6_bitCount_0f7a4 0 = .ok (.iload_n 0, 1) := by decide +kernel
theorem dJ6_bitCount_0f7a4_1 : decode cJ6_bitCount_0f7a4 1 = .ok (.iload_n 0, 1) := by decide +kernel
theorem dJ6_bitCount_0f7a4_2 : decode cJ6_bitCount_0f7a4 2 = .ok (.iconst 1, 1) := by decide +kernel
theorem dJ6_bitCount_0f7a4_3 : decode cJ6_bitCount_0f7a4 3 = .ok (.iushr, 1) := by decide +kernel
theorem dJ6_bitCount_0f7a4_4 : decode cJ6_bitCount_0f7a4 4 = .ok (.ldc_w 265, 3) := by decide +kernel
theorem dJ6_bitCount_0f7a4_7 : decode cJ6_bitCount_0f7a4 7 = .ok (.iand, 1) := by decide +kernel
theorem dJ6_bitCount_0f7a4_8 : decode cJ6_bitCount_0f7a4 8 = .ok (.isub, 1) := by decide +kernel
theorem dJ6_bitCount_0f7a4_9 : decode cJ6_bitCount_0f7a4 9 = .ok (.istore_n 0, 1) := by decide +kernel
theorem dJ6_bitCount_0f7a4_10 : decode cJ6_bitCount_0f7a4 10 = .ok (.iload_n 0, 1) := by decide +kernel
theorem dJ6_bitCount_0f7a4_11 : decode cJ6_bitCount_0f7a4 11 = .ok (.ldc_w 266, 3) := by decide +kernel
theorem dJ6_bitCount_0f7a4_14 : decode cJ6_bitCount_0f7a4 14 = .ok (.iand, 1) := by decide +kernel
theorem dJ6_bitCount_0f7a4_15 : decode cJ6_bitCount_0f7a4 15 = .ok (.iload_n 0, 1) := by decide +kernel
theorem dJ6_bitCount_0f7a4_16 : decode cJ6_bitCount_0f7a4 16 = .ok (.iconst 2, 1) := by decide +kernel
theorem dJ6_bitCount_0f7a4_17 : decode cJ6_bitCount_0f7a4 17 = .ok (.iushr, 1) := by decide +kernel
theorem dJ6_bitCount_0f7a4_18 : decode cJ6_bitCount_0f7a4 18 = .ok (.ldc_w 266, 3) := by decide +kernel
theorem dJ6_bitCount_0f7a4_21 : decode cJ6_bitCount_0f7a4 21 = .ok (.iand, 1) := by decide +kernel
theorem dJ6_bitCount_0f7a4_22 : decode cJ6_bitCount_0f7a4 22 = .ok (.iadd, 1) := by decide +kernel
theorem dJ6_bitCount_0f7a4_23 : decode cJ6_bitCount_0f7a4 23 = .ok (.istore_n 0, 1) := by decide +kernel
theorem dJ6_bitCount_0f7a4_24 : decode cJ6_bitCount_0f7a4 24 = .ok (.iload_n 0, 1) := by decide +kernel
theorem dJ6_bitCount_0f7a4_25 : decode cJ6_bitCount_0f7a4 25 = .ok (.iload_n 0, 1) := by decide +kernel
theorem dJ6_bitCount_0f7a4_26 : decode cJ6_bitCount_0f7a4 26 = .ok (.iconst 4, 1) := by decide +kernel
theorem dJ6_bitCount_0f7a4_27 : decode cJ6_bitCount_0f7a4 27 = .ok (.iushr, 1) := by decide +kernel
theorem dJ6_bitCount_0f7a4_28 : decode cJ6_bitCount_0f7a4 28 = .ok (.iadd, 1) := by decide +kernel
theorem dJ6_bitCount_0f7a4_29 : decode cJ6_bitCount_0f7a4 29 = .ok (.ldc_w 267, 3) := by decide +kernel
theorem dJ6_bitCount_0f7a4_32 : decode cJ6_bitCount_0f7a4 32 = .ok (.iand, 1) := by decide +kernel
theorem dJ6_bitCount_0f7a4_33 : decode cJ6_bitCount_0f7a4 33 = .ok (.istore_n 0, 1) := by decide +kernel
theorem dJ6_bitCount_0f7a4_34 : decode cJ6_bitCount_0f7a4 34 = .ok (.iload_n 0, 1) := by decide +kernel
theorem dJ6_bitCount_0f7a4_35 : decode cJ6_bitCount_0f7a4 35 = .ok (.iload_n 0, 1) := by decide +kernel
theorem dJ6_bitCount_0f7a4_36 : decode cJ6_bitCount_0f7a4 36 = .ok (.bipush 8, 2) := by decide +kernel
theorem dJ6_bitCount_0f7a4_38 : decode cJ6_bitCount_0f7a4 38 = .ok (.iushr, 1) := by decide +kernel
theorem dJ6_bitCount_0f7a4_39 : decode cJ6_bitCount_0f7a4 39 = .ok (.iadd, 1) := by decide +kernel
theorem dJ6_bitCount_0f7a4_40 : decode cJ6_bitCount_0f7a4 40 = .ok (.istore_n 0, 1) := by decide +kernel
theorem dJ6_bitCount_0f7a4_41 : decode cJ6_bitCount_0f7a4 41 = .ok (.iload_n 0, 1) := by decide +kernel
theorem dJ6_bitCount_0f7a4_42 : decode cJ6_bitCount_0f7a4 42 = .ok (.iload_n 0, 1) := by decide +kernel
theorem dJ6_bitCount_0f7a4_43 : decode cJ6_bitCount_0f7a4 43 = .ok (.bipush 16, 2) := by decide +kernel
theorem dJ6_bitCount_0f7a4_45 : decode cJ6_bitCount_0f7a4 45 = .ok (.iushr, 1) := by decide +kernel
theorem dJ6_bitCount_0f7a4_46 : decode cJ6_bitCount_0f7a4 46 = .ok (.iadd, 1) := by decide +kernel
theorem dJ6_bitCount_0f7a4_47 : decode cJ6_bitCount_0f7a4 47 = .ok (.istore_n 0, 1) := by decide +kernel
theorem dJ6_bitCount_0f7a4_48 : decode cJ6_bitCount_0f7a4 48 = .ok (.iload_n 0, 1) := by decide +kernel
theorem dJ6_bitCount_0f7a4_49 : decode cJ6_bitCount_0f7a4 49 = .ok (.bipush 63, 2) := by decide +kernel
theorem dJ6_bitCount_0f7a4_51 : decode cJ6_bitCount_0f7a4 51 = .ok (.iand, 1) := by decide +kernel
theorem dJ6_bitCount_0f7a4_52 : decode cJ6_bitCount_0f7a4 52 = .ok (.ireturn, 1) := by decide +kernel
theorem dJ9_max_7cf53_0 : decode cJ9_max_7cf53 0 = .ok (.iload_n 0, 1) := by decide +kernel
theorem dJ9_max_7cf53_1 : decode cJ9_max_7cf53 1 = .ok (.iload_n 1, 1) := by decide +kernel
theorem dJ9_max_7cf53_2 : decode cJ9_max_7cf53 2 = .ok (.if_icmp .lt 7, 3) := by decide +kernel
theorem dJ9_max_7cf53_5 : decode cJ9_max_7cf53 5 = .ok (.iload_n 0, 1) := by decide +kernel
theorem dJ9_max_7cf53_6 : decode cJ9_max_7cf53 6 = .ok (.goto 4, 3) := by decide +kernel
theorem dJ9_max_7cf53_9 : decode cJ9_max_7cf53 9 = .ok (.iload_n 1, 1) := by decide +kernel
theorem dJ9_max_7cf53_10 : decode cJ9_max_7cf53 10 = .ok (.ireturn, 1) := by decide +kernel
theorem dJ9_min_7cf53_0 : decode cJ9_min_7cf53 0 = .ok (.iload_n 0, 1) := by decide +kernel
theorem dJ9_min_7cf53_1 : decode cJ9_min_7cf53 1 = .ok (.iload_n 1, 1) := by decide +kernel
theorem dJ9_min_7cf53_2 : decode cJ9_min_7cf53 2 = .ok (.if_icmp .gt 7, 3) := by decide +kernel
theorem dJ9_min_7cf53_5 : decode cJ9_min_7cf53 5 = .ok (.iload_n 0, 1) := by decide +kernel
theorem dJ9_min_7cf53_6 : decode cJ9_min_7cf53 6 = .ok (.goto 4, 3) := by decide +kernel
theorem dJ9_min_7cf53_9 : decode cJ9_min_7cf53 9 = .ok (.iload_n 1, 1) := by decide +kernel
theorem dJ9_min_7cf53_10 : decode cJ9_min_7cf53 10 = .ok (.ireturn, 1) := by decide +kernel
set_option maxRecDepth 20000 in
theorem ggJ0_length_8abf5_J0_coder_7d493 : GoodIn wsJ0_length_8abf5 wsJ0_coder_7d493 := goodIn_r _ [6, 7, 8] rfl (by decide +kernel)
set_option maxRecDepth 20000 in
theorem gJ0_length_8abf5_J0_coder_7d493 : GoodIn wsJ0_length_8abf5 (wsV RJ0 335 RJ0 yJ0_coder_7d493 wsJ0_coder_7d493) := goodIn_app (goodIn_of _ (by decide +kernel)) ggJ0_length_8abf5_J0_coder_7d493
theorem dJ0_length_8abf5_0 : decode cJ0_length_8abf5 0 = .ok (.aload_n 0, 1) := by decide +kernel
theorem dJ0_length_8abf5_1 : decode cJ0_length_8abf5 1 = .ok (.getfield 9, 3) := by decide +kernel
theorem dJ0_length_8abf5_4 : decode cJ0_length_8abf5 4 = .ok (.arraylength, 1) := by decide +kernel
theorem dJ0_length_8abf5_5 : decode cJ0_length_8abf5 5 = .ok (.aload_n 0, 1) := by decide +kernel
theorem dJ0_length_8abf5_6 : decode cJ0_length_8abf5 6 = .ok (.invokevirtual 335, 3) := by decide +kernel
theorem dJ0_length_8abf5_9 : decode cJ0_length_8abf5 9 = .ok (.ishr, 1) := by decide +kernel
theorem dJ0_length_8abf5_10 : decode cJ0_length_8abf5 10 = .ok (.ireturn, 1) := by decide +kernel
set_option maxRecDepth 20000 in
theorem ggJ0_charAt_5068e_J0_isLatin1_aae02 : GoodIn wsJ0_charAt_5068e wsJ0_isLatin1_aae02 := goodIn_r _ [6, 7, 8] rfl (by decide +kernel)
set_option maxRecDepth 20000 in
theorem gJ0_charAt_5068e_J0_isLatin1_aae02 : GoodIn wsJ0_charAt_5068e (wsV RJ0 492 RJ0 yJ0_isLatin1_aae02 wsJ0_isLatin1_aae02) := goodIn_app (goodIn_of _ (by decide +kernel)) ggJ0_charAt_5068e_J0_isLatin1_aae02
set_option maxRecDepth 20000 in
theorem ggJ0_charAt_5068e_J1_charAt_3b067 : GoodIn wsJ0_charAt_5068e wsJ1_charAt_3b067 := goodIn_r _ [12, 13, 14, 5, 15, 16, 17, 18, 19, 20] rfl (by decide +kernel)
set_option maxRecDepth 20000 in
theorem gJ0_charAt_5068e_J1_charAt_3b067 : GoodIn wsJ0_charAt_5068e (va_wsS RJ0 495 yJ1_charAt_3b067 wsJ1_charAt_3b067) := goodIn_app (goodIn_of _ (by decide +kernel)) ggJ0_charAt_5068e_J1_charAt_3b067
set_option maxRecDepth 20000 in
theorem ggJ0_charAt_5068e_J2_charAt_3b067 : GoodIn wsJ0_charAt_5068e wsJ2_charAt_3b067 := goodIn_r _ [24, 25, 26, 23, 27, 28, 29, 30, 31, 14, 5, 15, 16, 17, 18, 19, 20, 32, 33, 34, 35, 36, 37] rfl (by decide +kernel)
set_option maxRecDepth 20000 in
theorem gJ0_charAt_5068e_J2_charAt_3b067 : GoodIn wsJ0_charAt_5068e (va_wsS RJ0 498 yJ2_charAt_3b067 wsJ2_charAt_3b067) := goodIn_app (goodIn_of _ (by decide +kernel)) ggJ0_charAt_5068e_J2_charAt_3b067
theorem dJ0_charAt_5068e_0 : decode cJ0_charAt_5068e 0 = .ok (.aload_n 0, 1) := by decide +kernel
theorem dJ0_charAt_5068e_1 : decode cJ0_charAt_5068e 1 = .ok (.invokevirtual 492, 3) := by decide +kernel
theorem dJ0_charAt_5068e_4 : decode cJ0_charAt_5068e 4 = .ok (.ifCond .eq 12, 3) := by decide +kernel
theorem dJ0_charAt_5068e_7 : decode cJ0_charAt_5068e 7 = .ok (.aload_n 0, 1) := by decide +kernel
theorem dJ0_charAt_5068e_8 : decode cJ0_charAt_5068e 8 = .ok (.getfield 9, 3) := by decide +kernel
theorem dJ0_charAt_5068e_11 : decode cJ0_charAt_5068e 11 = .ok (.iload_n 1, 1) := by decide +kernel
theorem dJ0_charAt_5068e_12 : decode cJ0_charAt_5068e 12 = .ok (.invokestatic 495, 3) := by decide +kernel
theorem dJ0_charAt_5068e_15 : decode cJ0_charAt_5068e 15 = .ok (.ireturn, 1) := by decide +kernel
theorem dJ0_charAt_5068e_16 : decode cJ0_charAt_5068e 16 = .ok (.aload_n 0, 1) := by decide +kernel
theorem dJ0_charAt_5068e_17 : decode cJ0_charAt_5068e 17 = .ok (.getfield 9, 3) := by decide +kernel
theorem dJ0_charAt_5068e_20 : decode cJ0_charAt_5068e 20 = .ok (.iload_n 1, 1) := by decide +kernel
theorem dJ0_charAt_5068e_21 : decode cJ0_charAt_5068e 21 = .ok (.invokestatic 498, 3) := by decide +kernel
theorem dJ0_charAt_5068e_24 : decode cJ0_charAt_5068e 24 = .ok (.ireturn, 1) := by decide +kernel
theorem dJ0_coder_7d493_0 : decode cJ0_coder_7d493 0 = .ok (.getstatic 38, 3) := by decide +kernel
theorem dJ0_coder_7d493_3 : decode cJ0_coder_7d493 3 = .ok (.ifCond .eq 10, 3) := by decide +kernel
theorem dJ0_coder_7d493_6 : decode cJ0_coder_7d493 6 = .ok (.aload_n 0, 1) := by decide +kernel
theorem dJ0_coder_7d493_7 : decode cJ0_coder_7d493 7 = .ok (.getfield 15, 3) := by decide +kernel
theorem dJ0_coder_7d493_10 : decode cJ0_coder_7d493 10 = .ok (.goto 4, 3) := by decide +kernel
theorem dJ0_coder_7d493_13 : decode cJ0_coder_7d493 13 = .ok (.iconst 1, 1) := by decide +kernel
theorem dJ0_coder_7d493_14 : decode cJ0_coder_7d493 14 = .ok (.ireturn, 1) := by decide +kernel
theorem dJ0_isLatin1_aae02_0 : decode cJ0_isLatin1_aae02 0 = .ok (.getstatic 38, 3) := by decide +kernel
theorem dJ0_isLatin1_aae02_3 : decode cJ0_isLatin1_aae02 3 = .ok (.ifCond .eq 14, 3) := by decide +kernel
theorem dJ0_isLatin1_aae02_6 : decode cJ0_isLatin1_aae02 6 = .ok (.aload_n 0, 1) := by decide +kernel
theorem dJ0_isLatin1_aae02_7 : decode cJ0_isLatin1_aae02 7 = .ok (.getfield 15, 3) := by decide +kernel
theorem dJ0_isLatin1_aae02_10 : decode cJ0_isLatin1_aae02 10 = .ok (.ifCond .ne 7, 3) := by decide +kernel
theorem dJ0_isLatin1_aae02_13 : decode cJ0_isLatin1_aae02 13 = .ok (.iconst 1, 1) := by decide +kernel
theorem dJ0_isLatin1_aae02_14 : decode cJ0_isLatin1_aae02 14 = .ok (.goto 4, 3) := by decide +kernel
theorem dJ0_isLatin1_aae02_17 : decode cJ0_isLatin1_aae02 17 = .ok (.iconst 0, 1) := by decide +kernel
theorem dJ0_isLatin1_aae02_18 : decode cJ0_isLatin1_aae02 18 = .ok (.ireturn, 1) := by decide +kernel
set_option maxRecDepth 20000 in
theorem ggJ0_checkIndex_df160_J3_checkIndex_8e157 : GoodIn wsJ0_checkIndex_df160 wsJ3_checkIndex_8e157 := goodIn_r _ [5] rfl (by decide +kernel)
set_option maxRecDepth 20000 in
theorem gJ0_checkIndex_df160_J3_checkIndex_8e157 : GoodIn wsJ0_checkIndex_df160 (va_wsS RJ0 1059 yJ3_checkIndex_8e157 wsJ3_checkIndex_8e157) := goodIn_app (goodIn_of _ (by decide +kernel)) ggJ0_checkIndex_df160_J3_checkIndex_8e157
theorem dJ0_checkIndex_df160_0 : decode cJ0_checkIndex_df160 0 = .ok (.iload_n 0, 1) := by decide +kernel
theorem dJ0_checkIndex_df160_1 : decode cJ0_checkIndex_df160 1 = .ok (.iload_n 1, 1) := by decide +kernel
theorem dJ0_checkIndex_df160_2 : decode cJ0_checkIndex_df160 2 = .ok (.getstatic 1053, 3) := by decide +kernel
theorem dJ0_checkIndex_df160_5 : decode cJ0_checkIndex_df160 5 = .ok (.invokestatic 1059, 3) := by decide +kernel
theorem dJ0_checkIndex_df160_8 : decode cJ0_checkIndex_df160 8 = .ok (.pop, 1) := by decide +kernel
theorem dJ0_checkIndex_df160_9 : decode cJ0_checkIndex_df160 9 = .ok (.return_, 1) := by decide +kernel
set_option maxRecDepth 20000 in
theorem ggJ1_charAt_3b067_J0_checkIndex_df160 : GoodIn wsJ1_charAt_3b067 wsJ0_checkIndex_df160 := goodIn_r _ [4, 5, 6, 7, 8, 9] rfl (by decide +kernel)
set_option maxRecDepth 20000 in
theorem gJ1_charAt_3b067_J0_checkIndex_df160 : GoodIn wsJ1_charAt_3b067 (va_wsS RJ1 9 yJ0_checkIndex_df160 wsJ0_checkIndex_df160) := goodIn_app (goodIn_of _ (by decide +kernel)) ggJ1_charAt_3b067_J0_checkIndex_df160
theorem dJ1_charAt_3b067_0 : decode cJ1_charAt_3b067 0 = .ok (.iload_n 1, 1) := by decide +kernel
theorem dJ1_charAt_3b067_1 : decode cJ1_charAt_3b067 1 = .ok (.aload_n 0, 1) := by decide +kernel
theorem dJ1_charAt_3b067_2 : decode cJ1_charAt_3b067 2 = .ok (.arraylength, 1) := by decide +kernel
theorem dJ1_charAt_3b067_3 : decode cJ1_charAt_3b067 3 = .ok (.invokestatic 9, 3) := by decide +kernel
theorem dJ1_charAt_3b067_6 : decode cJ1_charAt_3b067 6 = .ok (.aload_n 0, 1) := by decide +kernel
theorem dJ1_charAt_3b067_7 : decode cJ1_charAt_3b067 7 = .ok (.iload_n 1, 1) := by decide +kernel
theorem dJ1_charAt_3b067_8 : decode cJ1_charAt_3b067 8 = .ok (.baload, 1) := by decide +kernel
theorem dJ1_charAt_3b067_9 : decode cJ1_charAt_3b067 9 = .ok (.sipush 255, 3) := by decide +kernel
theorem dJ1_charAt_3b067_12 : decode cJ1_charAt_3b067 12 = .ok (.iand, 1) := by decide +kernel
theorem dJ1_charAt_3b067_13 : decode cJ1_charAt_3b067 13 = .ok (.i2c, 1) := by decide +kernel
theorem dJ1_charAt_3b067_14 : decode cJ1_charAt_3b067 14 = .ok (.ireturn, 1) := by decide +kernel
set_option maxRecDepth 20000 in
theorem ggJ2_getChar_3b067_J2_length_9d52b : GoodIn wsJ2_getChar_3b067 wsJ2_length_9d52b := goodIn_r _ [7] rfl (by decide +kernel)
set_option maxRecDepth 20000 in
theorem gJ2_getChar_3b067_J2_length_9d52b : GoodIn wsJ2_getChar_3b067 (va_wsS RJ2 48 yJ2_length_9d52b wsJ2_length_9d52b) := goodIn_app (goodIn_of _ (by decide +kernel)) ggJ2_getChar_3b067_J2_length_9d52b
theorem dJ2_getChar_3b067_0 : decode cJ2_getChar_3b067 0 = .ok (.getstatic 44, 3) := by decide +kernel
theorem dJ2_getChar_3b067_3 : decode cJ2_getChar_3b067 3 = .ok (.ifCond .ne 25, 3) := by decide +kernel
theorem dJ2_getChar_3b067_6 : decode cJ2_getChar_3b067 6 = .ok (.iload_n 1, 1) := by decide +kernel
theorem dJ2_getChar_3b067_7 : decode cJ2_getChar_3b067 7 = .ok (.ifCond .lt 11, 3) := by decide +kernel
theorem dJ2_getChar_3b067_10 : decode cJ2_getChar_3b067 10 = .ok (.iload_n 1, 1) := by decide +kernel
theorem dJ2_getChar_3b067_11 : decode cJ2_getChar_3b067 11 = .ok (.aload_n 0, 1) := by decide +kernel
theorem dJ2_getChar_3b067_12 : decode cJ2_getChar_3b067 12 = .ok (.invokestatic 48, 3) := by decide +kernel
theorem dJ2_getChar_3b067_15 : decode cJ2_getChar_3b067 15 = .ok (.if_icmp .lt 13, 3) := by decide +kernel
theorem dJ2_getChar_3b067_18 : decode cJ2_getChar_3b067 18 = .ok (.new 52, 3) := by decide +kernel
theorem dJ2_getChar_3b067_21 : decode cJ2_getChar_3b067 21 = .ok (.dup, 1) := by decide +kernel
theorem dJ2_getChar_3b067_22 : decode cJ2_getChar_3b067 22 = .ok (.ldc 54, 2) := by decide +kernel
theorem dJ2_getChar_3b067_24 : decode cJ2_getChar_3b067 24 = .ok (.invokespecial 56, 3) := by decide +kernel
theorem dJ2_getChar_3b067_27 : decode cJ2_getChar_3b067 27 = .ok (.athrow, 1) := by decide +kernel
theorem dJ2_getChar_3b067_28 : decode cJ2_getChar_3b067 28 = .ok (.iload_n 1, 1) := by decide +kernel
theorem dJ2_getChar_3b067_29 : decode cJ2_getChar_3b067 29 = .ok (.iconst 1, 1) := by decide +kernel
theorem dJ2_getChar_3b067_30 : decode cJ2_getChar_3b067 30 = .ok (.ishl, 1) := by decide +kernel
theorem dJ2_getChar_3b067_31 : decode cJ2_getChar_3b067 31 = .ok (.istore_n 1, 1) := by decide +kernel
theorem dJ2_getChar_3b067_32 : decode cJ2_getChar_3b067 32 = .ok (.aload_n 0, 1) := by decide +kernel
theorem dJ2_getChar_3b067_33 : decode cJ2_getChar_3b067 33 = .ok (.iload_n 1, 1) := by decide +kernel
theorem dJ2_getChar_3b067_34 : decode cJ2_getChar_3b067 34 = .ok (.iinc 1 1, 3) := by decide +kernel
theorem dJ2_getChar_3b067_37 : decode cJ2_getChar_3b067 37 = .ok (.baload, 1) := by decide +kernel
theorem dJ2_getChar_3b067_38 : decode cJ2_getChar_3b067 38 = .ok (.sipush 255, 3) := by decide +kernel
theorem dJ2_getChar_3b067_41 : decode cJ2_getChar_3b067 41 = .ok (.iand, 1) := by decide +kernel
theorem dJ2_getChar_3b067_42 : decode cJ2_getChar_3b067 42 = .ok (.getstatic 59, 3) := by decide +kernel
theorem dJ2_getChar_3b067_45 : decode cJ2_getChar_3b067 45 = .ok (.ishl, 1) := by decide +kernel
theorem dJ2_getChar_3b067_46 : decode cJ2_getChar_3b067 46 = .ok (.aload_n 0, 1) := by decide +kernel
theorem dJ2_getChar_3b067_47 : decode cJ2_getChar_3b067 47 = .ok (.iload_n 1, 1) := by decide +kernel
theorem dJ2_getChar_3b067_48 : decode cJ2_getChar_3b067 48 = .ok (.baload, 1) := by decide +kernel
theorem dJ2_getChar_3b067_49 : decode cJ2_getChar_3b067 49 = .ok (.sipush 255, 3) := by decide +kernel
theorem dJ2_getChar_3b067_52 : decode cJ2_getChar_3b067 52 = .ok (.iand, 1) := by decide +kernel
theorem dJ2_getChar_3b067_53 : decode cJ2_getChar_3b067 53 = .ok (.getstatic 63, 3) := by decide +kernel
theorem dJ2_getChar_3b067_56 : decode cJ2_getChar_3b067 56 = .ok (.ishl, 1) := by decide +kernel
theorem dJ2_getChar_3b067_57 : decode cJ2_getChar_3b067 57 = .ok (.ior, 1) := by decide +kernel
theorem dJ2_getChar_3b067_58 : decode cJ2_getChar_3b067 58 = .ok (.i2c, 1) := by decide +kernel
theorem dJ2_getChar_3b067_59 : decode cJ2_getChar_3b067 59 = .ok (.ireturn, 1) := by decide +kernel
theorem dJ2_length_9d52b_0 : decode cJ2_length_9d52b 0 = .ok (.aload_n 0, 1) := by decide +kernel
theorem dJ2_length_9d52b_1 : decode cJ2_length_9d52b 1 = .ok (.arraylength, 1) := by decide +kernel
theorem dJ2_length_9d52b_2 : decode cJ2_length_9d52b 2 = .ok (.iconst 1, 1) := by decide +kernel
theorem dJ2_length_9d52b_3 : decode cJ2_length_9d52b 3 = .ok (.ishr, 1) := by decide +kernel
theorem dJ2_length_9d52b_4 : decode cJ2_length_9d52b 4 = .ok (.ireturn, 1) := by decide +kernel
set_option maxRecDepth 20000 in
theorem ggJ2_charAt_3b067_J2_checkIndex_2214a : GoodIn wsJ2_charAt_3b067 wsJ2_checkIndex_2214a := goodIn_r _ [4, 5, 6, 3, 7, 8, 9, 10, 11, 12, 13, 14, 15, 16] rfl (by decide +kernel)
set_option maxRecDepth 20000 in
theorem gJ2_charAt_3b067_J2_checkIndex_2214a : GoodIn wsJ2_charAt_3b067 (va_wsS RJ2 67 yJ2_checkIndex_2214a wsJ2_checkIndex_2214a) := goodIn_app (goodIn_of _ (by decide +kernel)) ggJ2_charAt_3b067_J2_checkIndex_2214a
set_option maxRecDepth 20000 in
theorem ggJ2_charAt_3b067_J2_getChar_3b067 : GoodIn wsJ2_charAt_3b067 wsJ2_getChar_3b067 := goodIn_r _ [19, 20, 21, 22, 5, 6, 3, 7] rfl (by decide +kernel)
set_option maxRecDepth 20000 in
theorem gJ2_charAt_3b067_J2_getChar_3b067 : GoodIn wsJ2_charAt_3b067 (va_wsS RJ2 71 yJ2_getChar_3b067 wsJ2_getChar_3b067) := goodIn_app (goodIn_of _ (by decide +kernel)) ggJ2_charAt_3b067_J2_getChar_3b067
theorem dJ2_charAt_3b067_0 : decode cJ2_charAt_3b067 0 = .ok (.iload_n 1, 1) := by decide +kernel
theorem dJ2_charAt_3b067_1 : decode cJ2_charAt_3b067 1 = .ok (.aload_n 0, 1) := by decide +kernel
theorem dJ2_charAt_3b067_2 : decode cJ2_charAt_3b067 2 = .ok (.invokestatic 67, 3) := by decide +kernel
theorem dJ2_charAt_3b067_5 : decode cJ2_charAt_3b067 5 = .ok (.aload_n 0, 1) := by decide +kernel
theorem dJ2_charAt_3b067_6 : decode cJ2_charAt_3b067 6 = .ok (.iload_n 1, 1) := by decide +kernel
theorem dJ2_charAt_3b067_7 : decode cJ2_charAt_3b067 7 = .ok (.invokestatic 71, 3) := by decide +kernel
theorem dJ2_charAt_3b067_10 : decode cJ2_charAt_3b067 10 = .ok (.ireturn, 1) := by decide +kernel
set_option maxRecDepth 20000 in
theorem ggJ2_checkIndex_2214a_J2_length_9d52b : GoodIn wsJ2_checkIndex_2214a wsJ2_length_9d52b := goodIn_r _ [4] rfl (by decide +kernel)
set_option maxRecDepth 20000 in
theorem gJ2_checkIndex_2214a_J2_length_9d52b : GoodIn wsJ2_checkIndex_2214a (va_wsS RJ2 48 yJ2_length_9d52b wsJ2_length_9d52b) := goodIn_app (goodIn_of _ (by decide +kernel)) ggJ2_checkIndex_2214a_J2_length_9d52b
set_option maxRecDepth 20000 in
theorem ggJ2_checkIndex_2214a_J0_checkIndex_df160 : GoodIn wsJ2_checkIndex_2214a wsJ0_checkIndex_df160 := goodIn_r _ [8, 9, 10, 11, 12, 13] rfl (by decide +kernel)
set_option maxRecDepth 20000 in
theorem gJ2_checkIndex_2214a_J0_checkIndex_df160 : GoodIn wsJ2_checkIndex_2214a (va_wsS RJ2 414 yJ0_checkIndex_df160 wsJ0_checkIndex_df160) := goodIn_app (goodIn_of _ (by decide +kernel)) ggJ2_checkIndex_2214a_J0_checkIndex_df160
theorem dJ2_checkIndex_2214a_0 : decode cJ2_checkIndex_2214a 0 = .ok (.iload_n 0, 1) := by decide +kernel
theorem dJ2_checkIndex_2214a_1 : decode cJ2_checkIndex_2214a 1 = .ok (.aload_n 1, 1) := by decide +kernel
theorem dJ2_checkIndex_2214a_2 : decode cJ2_checkIndex_2214a 2 = .ok (.invokestatic 48, 3) := by decide +kernel
theorem dJ2_checkIndex_2214a_5 : decode cJ2_checkIndex_2214a 5 = .ok (.invokestatic 414, 3) := by decide +kernel
theorem dJ2_checkIndex_2214a_8 : decode cJ2_checkIndex_2214a 8 = .ok (.return_, 1) := by decide +kernel
theorem dJ3_checkIndex_8e157_0 : decode cJ3_checkIndex_8e157 0 = .ok (.iload_n 0, 1) := by decide +kernel
theorem dJ3_checkIndex_8e157_1 : decode cJ3_checkIndex_8e157 1 = .ok (.ifCond .lt 8, 3) := by decide +kernel
theorem dJ3_checkIndex_8e157_4 : decode cJ3_checkIndex_8e157 4 = .ok (.iload_n 0, 1) := by decide +kernel
theorem dJ3_checkIndex_8e157_5 : decode cJ3_checkIndex_8e157 5 = .ok (.iload_n 1, 1) := by decide +kernel
theorem dJ3_checkIndex_8e157_6 : decode cJ3_checkIndex_8e157 6 = .ok (.if_icmp .lt 10, 3) := by decide +kernel
theorem dJ3_checkIndex_8e157_9 : decode cJ3_checkIndex_8e157 9 = .ok (.aload_n 2, 1) := by decide +kernel
theorem dJ3_checkIndex_8e157_10 : decode cJ3_checkIndex_8e157 10 = .ok (.iload_n 0, 1) := by decide +kernel
theorem dJ3_checkIndex_8e157_11 : decode cJ3_checkIndex_8e157 11 = .ok (.iload_n 1, 1) := by decide +kernel
theorem dJ3_checkIndex_8e157_12 : decode cJ3_checkIndex_8e157 12 = .ok (.invokestatic 95, 3) := by decide +kernel
theorem dJ3_checkIndex_8e157_15 : decode cJ3_checkIndex_8e157 15 = .ok (.athrow, 1) := by decide +kernel
theorem dJ3_checkIndex_8e157_16 : decode cJ3_checkIndex_8e157 16 = .ok (.iload_n 0, 1) := by decide +kernel
theorem dJ3_checkIndex_8e157_17 : decode cJ3_checkIndex_8e157 17 = .ok (.ireturn, 1) := by decide +kernel
