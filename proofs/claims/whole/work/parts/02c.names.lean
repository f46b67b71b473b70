theorem dX2_goBehind_55 : decode cX2_goBehind 55 = .ok (.iload_n 3, 1) := by decide +kernel
theorem dX2_goBehind_56 : decode cX2_goBehind 56 = .ok (.iadd, 1) := by decide +kernel
theorem dX2_goBehind_57 : decode cX2_goBehind 57 = .ok (.iaload, 1) := by decide +kernel
theorem dX2_goBehind_58 : decode cX2_goBehind 58 = .ok (.invokevirtual 46, 3) := by decide +kernel
theorem dX2_goBehind_61 : decode cX2_goBehind 61 = .ok (.invokevirtual 49, 3) := by decide +kernel
theorem dX2_goBehind_64 : decode cX2_goBehind 64 = .ok (.istore 4, 2) := by decide +kernel
theorem dX2_goBehind_66 : decode cX2_goBehind 66 = .ok (.iinc 5 1, 3) := by decide +kernel
theorem dX2_goBehind_69 : decode cX2_goBehind 69 = .ok (.goto (-49), 3) := by decide +kernel
theorem dX2_goBehind_72 : decode cX2_goBehind 72 = .ok (.aload_n 0, 1) := by decide +kernel
theorem dX2_goBehind_73 : decode cX2_goBehind 73 = .ok (.getfield 15, 3) := by decide +kernel
theorem dX2_goBehind_76 : decode cX2_goBehind 76 = .ok (.iconst 3, 1) := by decide +kernel
theorem dX2_goBehind_77 : decode cX2_goBehind 77 = .ok (.iload_n 2, 1) := by decide +kernel
theorem dX2_goBehind_78 : decode cX2_goBehind 78 = .ok (.imul, 1) := by decide +kernel
theorem dX2_goBehind_79 : decode cX2_goBehind 79 = .ok (.iload_n 3, 1) := by decide +kernel
theorem dX2_goBehind_80 : decode cX2_goBehind 80 = .ok (.iadd, 1) := by decide +kernel
theorem dX2_goBehind_81 : decode cX2_goBehind 81 = .ok (.iload 4, 2) := by decide +kernel
theorem dX2_goBehind_83 : decode cX2_goBehind 83 = .ok (.iastore, 1) := by decide +kernel
theorem dX2_goBehind_84 : decode cX2_goBehind 84 = .ok (.iinc 3 1, 3) := by decide +kernel
theorem dX2_goBehind_87 : decode cX2_goBehind 87 = .ok (.goto (-78), 3) := by decide +kernel
theorem dX2_goBehind_90 : decode cX2_goBehind 90 = .ok (.iinc 2 1, 3) := by decide +kernel
theorem dX2_goBehind_93 : decode cX2_goBehind 93 = .ok (.goto (-91), 3) := by decide +kernel
theorem dX2_goBehind_96 : decode cX2_goBehind 96 = .ok (.aload_n 0, 1) := by decide +kernel
theorem dX2_goBehind_97 : decode cX2_goBehind 97 = .ok (.invokevirtual 77, 3) := by decide +kernel
theorem dX2_goBehind_100 : decode cX2_goBehind 100 = .ok (.return_, 1) := by decide +kernel
set_option maxRecDepth 20000 in
theorem ggX2_takeMade_X6_scaleToTold : GoodIn wsX2_takeMade wsX6_scaleToTold := goodIn_r _ [6, 7, 8, 9, 10, 11, 12, 13, 19, 20, 21, 22, 23] (by decide +kernel) (by decide +kernel)
set_option maxRecDepth 20000 in
theorem gX2_takeMade_X6_scaleToTold_n87 : GoodIn wsX2_takeMade (wsX6_scaleToTold) := ggX2_takeMade_X6_scaleToTold
theorem dX2_takeMade_0 : decode cX2_takeMade 0 = .ok (.iconst 0, 1) := by decide +kernel
theorem dX2_takeMade_1 : decode cX2_takeMade 1 = .ok (.istore_n 1, 1) := by decide +kernel
theorem dX2_takeMade_2 : decode cX2_takeMade 2 = .ok (.iload_n 1, 1) := by decide +kernel
theorem dX2_takeMade_3 : decode cX2_takeMade 3 = .ok (.bipush 9, 2) := by decide +kernel
theorem dX2_takeMade_5 : decode cX2_takeMade 5 = .ok (.if_icmp .ge 21, 3) := by decide +kernel
theorem dX2_takeMade_8 : decode cX2_takeMade 8 = .ok (.aload_n 0, 1) := by decide +kernel
theorem dX2_takeMade_9 : decode cX2_takeMade 9 = .ok (.getfield 9, 3) := by decide +kernel
theorem dX2_takeMade_12 : decode cX2_takeMade 12 = .ok (.iload_n 1, 1) := by decide +kernel
theorem dX2_takeMade_13 : decode cX2_takeMade 13 = .ok (.aload_n 0, 1) := by decide +kernel
theorem dX2_takeMade_14 : decode cX2_takeMade 14 = .ok (.getfield 15, 3) := by decide +kernel
theorem dX2_takeMade_17 : decode cX2_takeMade 17 = .ok (.iload_n 1, 1) := by decide +kernel
theorem dX2_takeMade_18 : decode cX2_takeMade 18 = .ok (.iaload, 1) := by decide +kernel
theorem dX2_takeMade_19 : decode cX2_takeMade 19 = .ok (.iastore, 1) := by decide +kernel
theorem dX2_takeMade_20 : decode cX2_takeMade 20 = .ok (.iinc 1 1, 3) := by decide +kernel
theorem dX2_takeMade_23 : decode cX2_takeMade 23 = .ok (.goto (-21), 3) := by decide +kernel
theorem dX2_takeMade_26 : decode cX2_takeMade 26 = .ok (.aload_n 0, 1) := by decide +kernel
theorem dX2_takeMade_27 : decode cX2_takeMade 27 = .ok (.getfield 32, 3) := by decide +kernel
theorem dX2_takeMade_30 : decode cX2_takeMade 30 = .ok (.aload_n 0, 1) := by decide +kernel
theorem dX2_takeMade_31 : decode cX2_takeMade 31 = .ok (.getfield 9, 3) := by decide +kernel
theorem dX2_takeMade_34 : decode cX2_takeMade 34 = .ok (.invokestatic 87, 3) := by decide +kernel
theorem dX2_takeMade_37 : decode cX2_takeMade 37 = .ok (.return_, 1) := by decide +kernel
set_option maxRecDepth 20000 in
theorem ggX3_init_X3_build : GoodIn wsX3_init wsX3_build := goodIn_r _ [12, 7, 13, 14, 15, 16, 11, 17, 5, 18, 19, 20, 21, 6, 22, 23, 24, 25, 26, 27, 28, 29, 30, 31, 32, 33, 34, 35, 36, 37, 38, 39, 40, 41, 42, 43, 44, 45, 46, 47, 48, 49, 50, 51, 52, 53, 54, 55, 56, 57, 58, 59] (by decide +kernel) (by decide +kernel)
set_option maxRecDepth 20000 in
theorem gX3_init_X3_build : GoodIn wsX3_init (wsV RX3 22 RX3 yX3_build wsX3_build) := goodIn_app (goodIn_of _ (by decide +kernel)) ggX3_init_X3_build
theorem dX3_init_0 : decode cX3_init 0 = .ok (.aload_n 0, 1) := by decide +kernel
theorem dX3_init_1 : decode cX3_init 1 = .ok (.invokespecial 3, 3) := by decide +kernel
theorem dX3_init_4 : decode cX3_init 4 = .ok (.aload_n 0, 1) := by decide +kernel
theorem dX3_init_5 : decode cX3_init 5 = .ok (.sipush 273, 3) := by decide +kernel
theorem dX3_init_8 : decode cX3_init 8 = .ok (.newarray .int, 2) := by decide +kernel
theorem dX3_init_10 : decode cX3_init 10 = .ok (.putfield 9, 3) := by decide +kernel
theorem dX3_init_13 : decode cX3_init 13 = .ok (.aload_n 0, 1) := by decide +kernel
theorem dX3_init_14 : decode cX3_init 14 = .ok (.sipush 910, 3) := by decide +kernel
theorem dX3_init_17 : decode cX3_init 17 = .ok (.newarray .int, 2) := by decide +kernel
theorem dX3_init_19 : decode cX3_init 19 = .ok (.putfield 15, 3) := by decide +kernel
theorem dX3_init_22 : decode cX3_init 22 = .ok (.aload_n 0, 1) := by decide +kernel
theorem dX3_init_23 : decode cX3_init 23 = .ok (.aload_n 1, 1) := by decide +kernel
theorem dX3_init_24 : decode cX3_init 24 = .ok (.putfield 18, 3) := by decide +kernel
theorem dX3_init_27 : decode cX3_init 27 = .ok (.aload_n 0, 1) := by decide +kernel
theorem dX3_init_28 : decode cX3_init 28 = .ok (.invokevirtual 22, 3) := by decide +kernel
theorem dX3_init_31 : decode cX3_init 31 = .ok (.return_, 1) := by decide +kernel
set_option maxRecDepth 20000 in
theorem ggX3_build_X3_setTriple : GoodIn wsX3_build wsX3_setTriple := goodIn_r _ [7, 8, 43, 44, 45, 46] (by decide +kernel) (by decide +kernel)
set_option maxRecDepth 20000 in
theorem gX3_build_X3_setTriple : GoodIn wsX3_build (wsV RX3 34 RX3 yX3_setTriple wsX3_setTriple) := goodIn_app (goodIn_of _ (by decide +kernel)) ggX3_build_X3_setTriple
set_option maxRecDepth 20000 in
theorem ggX3_build_X3_listRow : GoodIn wsX3_build wsX3_listRow := goodIn_r _ [12, 13, 1, 14, 15, 16, 6, 17, 8, 18, 19, 20, 21, 22, 23, 24, 25, 26, 27, 28, 29, 30, 31, 32, 33, 34, 35, 36, 37, 38, 39, 40, 41, 42, 43, 44, 45, 46, 47, 48, 49, 50, 51] (by decide +kernel) (by decide +kernel)
set_option maxRecDepth 20000 in
theorem gX3_build_X3_listRow : GoodIn wsX3_build (wsV RX3 38 RX3 yX3_listRow wsX3_listRow) := goodIn_app (goodIn_of _ (by decide +kernel)) ggX3_build_X3_listRow
theorem dX3_build_0 : decode cX3_build 0 = .ok (.aload_n 0, 1) := by decide +kernel
theorem dX3_build_1 : decode cX3_build 1 = .ok (.getfield 18, 3) := by decide +kernel
theorem dX3_build_4 : decode cX3_build 4 = .ok (.getfield 25, 3) := by decide +kernel
theorem dX3_build_7 : decode cX3_build 7 = .ok (.istore_n 1, 1) := by decide +kernel
theorem dX3_build_8 : decode cX3_build 8 = .ok (.aload_n 0, 1) := by decide +kernel
theorem dX3_build_9 : decode cX3_build 9 = .ok (.iload_n 1, 1) := by decide +kernel
theorem dX3_build_10 : decode cX3_build 10 = .ok (.iload_n 1, 1) := by decide +kernel
theorem dX3_build_11 : decode cX3_build 11 = .ok (.imul, 1) := by decide +kernel
theorem dX3_build_12 : decode cX3_build 12 = .ok (.iload_n 1, 1) := by decide +kernel
theorem dX3_build_13 : decode cX3_build 13 = .ok (.iadd, 1) := by decide +kernel
theorem dX3_build_14 : decode cX3_build 14 = .ok (.iconst 1, 1) := by decide +kernel
theorem dX3_build_15 : decode cX3_build 15 = .ok (.iadd, 1) := by decide +kernel
theorem dX3_build_16 : decode cX3_build 16 = .ok (.putfield 31, 3) := by decide +kernel
theorem dX3_build_19 : decode cX3_build 19 = .ok (.aload_n 0, 1) := by decide +kernel
theorem dX3_build_20 : decode cX3_build 20 = .ok (.iconst 0, 1) := by decide +kernel
theorem dX3_build_21 : decode cX3_build 21 = .ok (.iconst 0, 1) := by decide +kernel
theorem dX3_build_22 : decode cX3_build 22 = .ok (.iconst 0, 1) := by decide +kernel
theorem dX3_build_23 : decode cX3_build 23 = .ok (.iconst 1, 1) := by decide +kernel
theorem dX3_build_24 : decode cX3_build 24 = .ok (.invokevirtual 34, 3) := by decide +kernel
theorem dX3_build_27 : decode cX3_build 27 = .ok (.iconst 0, 1) := by decide +kernel
theorem dX3_build_28 : decode cX3_build 28 = .ok (.istore_n 2, 1) := by decide +kernel
theorem dX3_build_29 : decode cX3_build 29 = .ok (.iload_n 2, 1) := by decide +kernel
theorem dX3_build_30 : decode cX3_build 30 = .ok (.iload_n 1, 1) := by decide +kernel
theorem dX3_build_31 : decode cX3_build 31 = .ok (.if_icmp .ge 19, 3) := by decide +kernel
theorem dX3_build_34 : decode cX3_build 34 = .ok (.aload_n 0, 1) := by decide +kernel
theorem dX3_build_35 : decode cX3_build 35 = .ok (.iconst 1, 1) := by decide +kernel
theorem dX3_build_36 : decode cX3_build 36 = .ok (.iload_n 2, 1) := by decide +kernel
theorem dX3_build_37 : decode cX3_build 37 = .ok (.iadd, 1) := by decide +kernel
theorem dX3_build_38 : decode cX3_build 38 = .ok (.iconst 0, 1) := by decide +kernel
theorem dX3_build_39 : decode cX3_build 39 = .ok (.iconst 1, 1) := by decide +kernel
theorem dX3_build_40 : decode cX3_build 40 = .ok (.iload_n 2, 1) := by decide +kernel
theorem dX3_build_41 : decode cX3_build 41 = .ok (.invokevirtual 34, 3) := by decide +kernel
theorem dX3_build_44 : decode cX3_build 44 = .ok (.iinc 2 1, 3) := by decide +kernel
theorem dX3_build_47 : decode cX3_build 47 = .ok (.goto (-18), 3) := by decide +kernel
theorem dX3_build_50 : decode cX3_build 50 = .ok (.iconst 0, 1) := by decide +kernel
theorem dX3_build_51 : decode cX3_build 51 = .ok (.istore_n 2, 1) := by decide +kernel
theorem dX3_build_52 : decode cX3_build 52 = .ok (.iload_n 2, 1) := by decide +kernel
theorem dX3_build_53 : decode cX3_build 53 = .ok (.iload_n 1, 1) := by decide +kernel
theorem dX3_build_54 : decode cX3_build 54 = .ok (.if_icmp .ge 38, 3) := by decide +kernel
theorem dX3_build_57 : decode cX3_build 57 = .ok (.iconst 0, 1) := by decide +kernel
theorem dX3_build_58 : decode cX3_build 58 = .ok (.istore_n 3, 1) := by decide +kernel
theorem dX3_build_59 : decode cX3_build 59 = .ok (.iload_n 3, 1) := by decide +kernel
theorem dX3_build_60 : decode cX3_build 60 = .ok (.iload_n 1, 1) := by decide +kernel
theorem dX3_build_61 : decode cX3_build 61 = .ok (.if_icmp .ge 25, 3) := by decide +kernel
theorem dX3_build_64 : decode cX3_build 64 = .ok (.aload_n 0, 1) := by decide +kernel
theorem dX3_build_65 : decode cX3_build 65 = .ok (.iconst 1, 1) := by decide +kernel
theorem dX3_build_66 : decode cX3_build 66 = .ok (.iload_n 1, 1) := by decide +kernel
theorem dX3_build_67 : decode cX3_build 67 = .ok (.iadd, 1) := by decide +kernel
theorem dX3_build_68 : decode cX3_build 68 = .ok (.iload_n 2, 1) := by decide +kernel
theorem dX3_build_69 : decode cX3_build 69 = .ok (.iload_n 1, 1) := by decide +kernel
theorem dX3_build_70 : decode cX3_build 70 = .ok (.imul, 1) := by decide +kernel
theorem dX3_build_71 : decode cX3_build 71 = .ok (.iadd, 1) := by decide +kernel
theorem dX3_build_72 : decode cX3_build 72 = .ok (.iload_n 3, 1) := by decide +kernel
theorem dX3_build_73 : decode cX3_build 73 = .ok (.iadd, 1) := by decide +kernel
theorem dX3_build_74 : decode cX3_build 74 = .ok (.iconst 1, 1) := by decide +kernel
theorem dX3_build_75 : decode cX3_build 75 = .ok (.iload_n 2, 1) := by decide +kernel
theorem dX3_build_76 : decode cX3_build 76 = .ok (.iload_n 3, 1) := by decide +kernel
theorem dX3_build_77 : decode cX3_build 77 = .ok (.invokevirtual 34, 3) := by decide +kernel
theorem dX3_build_80 : decode cX3_build 80 = .ok (.iinc 3 1, 3) := by decide +kernel
theorem dX3_build_83 : decode cX3_build 83 = .ok (.goto (-24), 3) := by decide +kernel
theorem dX3_build_86 : decode cX3_build 86 = .ok (.iinc 2 1, 3) := by decide +kernel
theorem dX3_build_89 : decode cX3_build 89 = .ok (.goto (-37), 3) := by decide +kernel
theorem dX3_build_92 : decode cX3_build 92 = .ok (.iconst 0, 1) := by decide +kernel
theorem dX3_build_93 : decode cX3_build 93 = .ok (.istore_n 2, 1) := by decide +kernel
theorem dX3_build_94 : decode cX3_build 94 = .ok (.iload_n 2, 1) := by decide +kernel
theorem dX3_build_95 : decode cX3_build 95 = .ok (.aload_n 0, 1) := by decide +kernel
theorem dX3_build_96 : decode cX3_build 96 = .ok (.getfield 31, 3) := by decide +kernel
theorem dX3_build_99 : decode cX3_build 99 = .ok (.if_icmp .ge 14, 3) := by decide +kernel
theorem dX3_build_102 : decode cX3_build 102 = .ok (.aload_n 0, 1) := by decide +kernel
theorem dX3_build_103 : decode cX3_build 103 = .ok (.iload_n 2, 1) := by decide +kernel
theorem dX3_build_104 : decode cX3_build 104 = .ok (.invokevirtual 38, 3) := by decide +kernel
theorem dX3_build_107 : decode cX3_build 107 = .ok (.iinc 2 1, 3) := by decide +kernel
theorem dX3_build_110 : decode cX3_build 110 = .ok (.goto (-16), 3) := by decide +kernel
theorem dX3_build_113 : decode cX3_build 113 = .ok (.return_, 1) := by decide +kernel
theorem dX3_setTriple_0 : decode cX3_setTriple 0 = .ok (.aload_n 0, 1) := by decide +kernel
theorem dX3_setTriple_1 : decode cX3_setTriple 1 = .ok (.getfield 9, 3) := by decide +kernel
theorem dX3_setTriple_4 : decode cX3_setTriple 4 = .ok (.iconst 3, 1) := by decide +kernel
theorem dX3_setTriple_5 : decode cX3_setTriple 5 = .ok (.iload_n 1, 1) := by decide +kernel
theorem dX3_setTriple_6 : decode cX3_setTriple 6 = .ok (.imul, 1) := by decide +kernel
theorem dX3_setTriple_7 : decode cX3_setTriple 7 = .ok (.iload_n 2, 1) := by decide +kernel
theorem dX3_setTriple_8 : decode cX3_setTriple 8 = .ok (.iastore, 1) := by decide +kernel
theorem dX3_setTriple_9 : decode cX3_setTriple 9 = .ok (.aload_n 0, 1) := by decide +kernel
theorem dX3_setTriple_10 : decode cX3_setTriple 10 = .ok (.getfield 9, 3) := by decide +kernel
theorem dX3_setTriple_13 : decode cX3_setTriple 13 = .ok (.iconst 3, 1) := by decide +kernel
theorem dX3_setTriple_14 : decode cX3_setTriple 14 = .ok (.iload_n 1, 1) := by decide +kernel
theorem dX3_setTriple_15 : decode cX3_setTriple 15 = .ok (.imul, 1) := by decide +kernel
theorem dX3_setTriple_16 : decode cX3_setTriple 16 = .ok (.iconst 1, 1) := by decide +kernel
theorem dX3_setTriple_17 : decode cX3_setTriple 17 = .ok (.iadd, 1) := by decide +kernel
theorem dX3_setTriple_18 : decode cX3_setTriple 18 = .ok (.iload_n 3, 1) := by decide +kernel
theorem dX3_setTriple_19 : decode cX3_setTriple 19 = .ok (.iastore, 1) := by decide +kernel
theorem dX3_setTriple_20 : decode cX3_setTriple 20 = .ok (.aload_n 0, 1) := by decide +kernel
theorem dX3_setTriple_21 : decode cX3_setTriple 21 = .ok (.getfield 9, 3) := by decide +kernel
theorem dX3_setTriple_24 : decode cX3_setTriple 24 = .ok (.iconst 3, 1) := by decide +kernel
theorem dX3_setTriple_25 : decode cX3_setTriple 25 = .ok (.iload_n 1, 1) := by decide +kernel
theorem dX3_setTriple_26 : decode cX3_setTriple 26 = .ok (.imul, 1) := by decide +kernel
theorem dX3_setTriple_27 : decode cX3_setTriple 27 = .ok (.iconst 2, 1) := by decide +kernel
theorem dX3_setTriple_28 : decode cX3_setTriple 28 = .ok (.iadd, 1) := by decide +kernel
theorem dX3_setTriple_29 : decode cX3_setTriple 29 = .ok (.iload 4, 2) := by decide +kernel
theorem dX3_setTriple_31 : decode cX3_setTriple 31 = .ok (.iastore, 1) := by decide +kernel
theorem dX3_setTriple_32 : decode cX3_setTriple 32 = .ok (.return_, 1) := by decide +kernel
set_option maxRecDepth 20000 in
theorem ggX3_listRow_X3_part : GoodIn wsX3_listRow wsX3_part := goodIn_r _ [7, 8, 34, 35, 36, 37] (by decide +kernel) (by decide +kernel)
set_option maxRecDepth 20000 in
theorem gX3_listRow_X3_part : GoodIn wsX3_listRow (wsV RX3 42 RX3 yX3_part wsX3_part) := goodIn_app (goodIn_of _ (by decide +kernel)) ggX3_listRow_X3_part
set_option maxRecDepth 20000 in
theorem ggX3_listRow_X3_dot : GoodIn wsX3_listRow wsX3_dot := goodIn_r _ [12, 2, 3, 4, 5, 6, 7, 8, 13, 14, 15, 16, 17, 18, 19, 20, 21, 22, 23, 34, 35, 36, 37, 38, 39, 40, 41, 42] (by decide +kernel) (by decide +kernel)
set_option maxRecDepth 20000 in
theorem gX3_listRow_X3_dot : GoodIn wsX3_listRow (wsV RX3 46 RX3 yX3_dot wsX3_dot) := goodIn_app (goodIn_of _ (by decide +kernel)) ggX3_listRow_X3_dot
set_option maxRecDepth 20000 in
theorem ggX3_listRow_X1_opposite : GoodIn wsX3_listRow wsX1_opposite := goodIn_r _ [27, 28, 38, 39, 40, 41, 42] (by decide +kernel) (by decide +kernel)
set_option maxRecDepth 20000 in
theorem gX3_listRow_X1_opposite : GoodIn wsX3_listRow (wsV RX3 49 RX1 yX1_opposite wsX1_opposite) := goodIn_app (goodIn_of _ (by decide +kernel)) ggX3_listRow_X1_opposite
set_option maxRecDepth 20000 in
theorem ggX3_listRow_X1_over : GoodIn wsX3_listRow wsX1_over := goodIn_r _ [32, 18, 33, 38, 39, 40, 41, 42] (by decide +kernel) (by decide +kernel)
set_option maxRecDepth 20000 in
theorem gX3_listRow_X1_over : GoodIn wsX3_listRow (wsV RX3 53 RX1 yX1_over wsX1_over) := goodIn_app (goodIn_of _ (by decide +kernel)) ggX3_listRow_X1_over
theorem dX3_listRow_0 : decode cX3_listRow 0 = .ok (.iload_n 1, 1) := by decide +kernel
theorem dX3_listRow_1 : decode cX3_listRow 1 = .ok (.bipush 10, 2) := by decide +kernel
theorem dX3_listRow_3 : decode cX3_listRow 3 = .ok (.imul, 1) := by decide +kernel
theorem dX3_listRow_4 : decode cX3_listRow 4 = .ok (.istore_n 2, 1) := by decide +kernel
theorem dX3_listRow_5 : decode cX3_listRow 5 = .ok (.aload_n 0, 1) := by decide +kernel
theorem dX3_listRow_6 : decode cX3_listRow 6 = .ok (.iload_n 1, 1) := by decide +kernel
theorem dX3_listRow_7 : decode cX3_listRow 7 = .ok (.iconst 2, 1) := by decide +kernel
theorem dX3_listRow_8 : decode cX3_listRow 8 = .ok (.invokevirtual 42, 3) := by decide +kernel
theorem dX3_listRow_11 : decode cX3_listRow 11 = .ok (.istore_n 3, 1) := by decide +kernel
theorem dX3_listRow_12 : decode cX3_listRow 12 = .ok (.iload_n 3, 1) := by decide +kernel
theorem dX3_listRow_13 : decode cX3_listRow 13 = .ok (.ifCond .ne 13, 3) := by decide +kernel
theorem dX3_listRow_16 : decode cX3_listRow 16 = .ok (.aload_n 0, 1) := by decide +kernel
theorem dX3_listRow_17 : decode cX3_listRow 17 = .ok (.getfield 15, 3) := by decide +kernel
theorem dX3_listRow_20 : decode cX3_listRow 20 = .ok (.iload_n 2, 1) := by decide +kernel
theorem dX3_listRow_21 : decode cX3_listRow 21 = .ok (.iconst 0, 1) := by decide +kernel
theorem dX3_listRow_22 : decode cX3_listRow 22 = .ok (.iastore, 1) := by decide +kernel
theorem dX3_listRow_23 : decode cX3_listRow 23 = .ok (.iinc 2 1, 3) := by decide +kernel
theorem dX3_listRow_26 : decode cX3_listRow 26 = .ok (.iconst 0, 1) := by decide +kernel
theorem dX3_listRow_27 : decode cX3_listRow 27 = .ok (.istore 4, 2) := by decide +kernel
theorem dX3_listRow_29 : decode cX3_listRow 29 = .ok (.iload 4, 2) := by decide +kernel
theorem dX3_listRow_31 : decode cX3_listRow 31 = .ok (.aload_n 0, 1) := by decide +kernel
theorem dX3_listRow_32 : decode cX3_listRow 32 = .ok (.getfield 18, 3) := by decide +kernel
theorem dX3_listRow_35 : decode cX3_listRow 35 = .ok (.getfield 25, 3) := by decide +kernel
theorem dX3_listRow_38 : decode cX3_listRow 38 = .ok (.if_icmp .gt 118, 3) := by decide +kernel
theorem dX3_listRow_41 : decode cX3_listRow 41 = .ok (.iconst 1, 1) := by decide +kernel
theorem dX3_listRow_42 : decode cX3_listRow 42 = .ok (.iload 4, 2) := by decide +kernel
theorem dX3_listRow_44 : decode cX3_listRow 44 = .ok (.aload_n 0, 1) := by decide +kernel
theorem dX3_listRow_45 : decode cX3_listRow 45 = .ok (.getfield 18, 3) := by decide +kernel
theorem dX3_listRow_48 : decode cX3_listRow 48 = .ok (.getfield 25, 3) := by decide +kernel
theorem dX3_listRow_51 : decode cX3_listRow 51 = .ok (.imul, 1) := by decide +kernel
theorem dX3_listRow_52 : decode cX3_listRow 52 = .ok (.iadd, 1) := by decide +kernel
theorem dX3_listRow_53 : decode cX3_listRow 53 = .ok (.istore 5, 2) := by decide +kernel
theorem dX3_listRow_55 : decode cX3_listRow 55 = .ok (.aload_n 0, 1) := by decide +kernel
theorem dX3_listRow_56 : decode cX3_listRow 56 = .ok (.iload_n 1, 1) := by decide +kernel
theorem dX3_listRow_57 : decode cX3_listRow 57 = .ok (.iload 5, 2) := by decide +kernel
theorem dX3_listRow_59 : decode cX3_listRow 59 = .ok (.invokevirtual 46, 3) := by decide +kernel
theorem dX3_listRow_62 : decode cX3_listRow 62 = .ok (.istore 6, 2) := by decide +kernel
theorem dX3_listRow_64 : decode cX3_listRow 64 = .ok (.iload_n 3, 1) := by decide +kernel
theorem dX3_listRow_65 : decode cX3_listRow 65 = .ok (.ifCond .eq 35, 3) := by decide +kernel
theorem dX3_listRow_68 : decode cX3_listRow 68 = .ok (.aload_n 0, 1) := by decide +kernel
theorem dX3_listRow_69 : decode cX3_listRow 69 = .ok (.getfield 15, 3) := by decide +kernel
theorem dX3_listRow_72 : decode cX3_listRow 72 = .ok (.iload_n 2, 1) := by decide +kernel
theorem dX3_listRow_73 : decode cX3_listRow 73 = .ok (.iload 5, 2) := by decide +kernel
theorem dX3_listRow_75 : decode cX3_listRow 75 = .ok (.aload_n 0, 1) := by decide +kernel
theorem dX3_listRow_76 : decode cX3_listRow 76 = .ok (.getfield 18, 3) := by decide +kernel
theorem dX3_listRow_79 : decode cX3_listRow 79 = .ok (.aload_n 0, 1) := by decide +kernel
theorem dX3_listRow_80 : decode cX3_listRow 80 = .ok (.getfield 18, 3) := by decide +kernel
theorem dX3_listRow_83 : decode cX3_listRow 83 = .ok (.iload 6, 2) := by decide +kernel
theorem dX3_listRow_85 : decode cX3_listRow 85 = .ok (.invokevirtual 49, 3) := by decide +kernel
theorem dX3_listRow_88 : decode cX3_listRow 88 = .ok (.iload_n 3, 1) := by decide +kernel
theorem dX3_listRow_89 : decode cX3_listRow 89 = .ok (.invokevirtual 53, 3) := by decide +kernel
theorem dX3_listRow_92 : decode cX3_listRow 92 = .ok (.iadd, 1) := by decide +kernel
theorem dX3_listRow_93 : decode cX3_listRow 93 = .ok (.iastore, 1) := by decide +kernel
theorem dX3_listRow_94 : decode cX3_listRow 94 = .ok (.iinc 2 1, 3) := by decide +kernel
theorem dX3_listRow_97 : decode cX3_listRow 97 = .ok (.goto 53, 3) := by decide +kernel
theorem dX3_listRow_100 : decode cX3_listRow 100 = .ok (.iload 6, 2) := by decide +kernel
theorem dX3_listRow_102 : decode cX3_listRow 102 = .ok (.ifCond .ne 48, 3) := by decide +kernel
theorem dX3_listRow_105 : decode cX3_listRow 105 = .ok (.iconst 0, 1) := by decide +kernel
theorem dX3_listRow_106 : decode cX3_listRow 106 = .ok (.istore 7, 2) := by decide +kernel
theorem dX3_listRow_108 : decode cX3_listRow 108 = .ok (.iload 7, 2) := by decide +kernel
theorem dX3_listRow_110 : decode cX3_listRow 110 = .ok (.aload_n 0, 1) := by decide +kernel
theorem dX3_listRow_111 : decode cX3_listRow 111 = .ok (.getfield 18, 3) := by decide +kernel
theorem dX3_listRow_114 : decode cX3_listRow 114 = .ok (.getfield 25, 3) := by decide +kernel
theorem dX3_listRow_117 : decode cX3_listRow 117 = .ok (.if_icmp .ge 23, 3) := by decide +kernel
theorem dX3_listRow_120 : decode cX3_listRow 120 = .ok (.aload_n 0, 1) := by decide +kernel
theorem dX3_listRow_121 : decode cX3_listRow 121 = .ok (.getfield 15, 3) := by decide +kernel
theorem dX3_listRow_124 : decode cX3_listRow 124 = .ok (.iload_n 2, 1) := by decide +kernel
theorem dX3_listRow_125 : decode cX3_listRow 125 = .ok (.iload 7, 2) := by decide +kernel
theorem dX3_listRow_127 : decode cX3_listRow 127 = .ok (.iadd, 1) := by decide +kernel
theorem dX3_listRow_128 : decode cX3_listRow 128 = .ok (.iload 5, 2) := by decide +kernel
theorem dX3_listRow_130 : decode cX3_listRow 130 = .ok (.iload 7, 2) := by decide +kernel
theorem dX3_listRow_132 : decode cX3_listRow 132 = .ok (.iadd, 1) := by decide +kernel
theorem dX3_listRow_133 : decode cX3_listRow 133 = .ok (.iastore, 1) := by decide +kernel
theorem dX3_listRow_134 : decode cX3_listRow 134 = .ok (.iinc 7 1, 3) := by decide +kernel
theorem dX3_listRow_137 : decode cX3_listRow 137 = .ok (.goto (-29), 3) := by decide +kernel
theorem dX3_listRow_140 : decode cX3_listRow 140 = .ok (.iload_n 2, 1) := by decide +kernel
theorem dX3_listRow_141 : decode cX3_listRow 141 = .ok (.aload_n 0, 1) := by decide +kernel
theorem dX3_listRow_142 : decode cX3_listRow 142 = .ok (.getfield 18, 3) := by decide +kernel
theorem dX3_listRow_145 : decode cX3_listRow 145 = .ok (.getfield 25, 3) := by decide +kernel
theorem dX3_listRow_148 : decode cX3_listRow 148 = .ok (.iadd, 1) := by decide +kernel
theorem dX3_listRow_149 : decode cX3_listRow 149 = .ok (.istore_n 2, 1) := by decide +kernel
theorem dX3_listRow_150 : decode cX3_listRow 150 = .ok (.iinc 4 1, 3) := by decide +kernel
theorem dX3_listRow_153 : decode cX3_listRow 153 = .ok (.goto (-124), 3) := by decide +kernel
theorem dX3_listRow_156 : decode cX3_listRow 156 = .ok (.return_, 1) := by decide +kernel
theorem dX3_has_0 : decode cX3_has 0 = .ok (.iload_n 1, 1) := by decide +kernel
theorem dX3_has_1 : decode cX3_has 1 = .ok (.ifCond .lt 15, 3) := by decide +kernel
theorem dX3_has_4 : decode cX3_has 4 = .ok (.iload_n 1, 1) := by decide +kernel
theorem dX3_has_5 : decode cX3_has 5 = .ok (.aload_n 0, 1) := by decide +kernel
theorem dX3_has_6 : decode cX3_has 6 = .ok (.getfield 31, 3) := by decide +kernel
theorem dX3_has_9 : decode cX3_has 9 = .ok (.if_icmp .ge 7, 3) := by decide +kernel
theorem dX3_has_12 : decode cX3_has 12 = .ok (.iconst 1, 1) := by decide +kernel
theorem dX3_has_13 : decode cX3_has 13 = .ok (.goto 4, 3) := by decide +kernel
theorem dX3_has_16 : decode cX3_has 16 = .ok (.iconst 0, 1) := by decide +kernel
theorem dX3_has_17 : decode cX3_has 17 = .ok (.ireturn, 1) := by decide +kernel
set_option maxRecDepth 20000 in
theorem ggX3_hasFour_X3_has : GoodIn wsX3_hasFour wsX3_has := goodIn_r _ [5, 6, 7, 8, 9, 10] (by decide +kernel) (by decide +kernel)
set_option maxRecDepth 20000 in
theorem gX3_hasFour_X3_has : GoodIn wsX3_hasFour (wsV RX3 56 RX3 yX3_has wsX3_has) := goodIn_app (goodIn_of _ (by decide +kernel)) ggX3_hasFour_X3_has
theorem dX3_hasFour_0 : decode cX3_hasFour 0 = .ok (.aload_n 0, 1) := by decide +kernel
theorem dX3_hasFour_1 : decode cX3_hasFour 1 = .ok (.iload_n 1, 1) := by decide +kernel
theorem dX3_hasFour_2 : decode cX3_hasFour 2 = .ok (.invokevirtual 56, 3) := by decide +kernel
theorem dX3_hasFour_5 : decode cX3_hasFour 5 = .ok (.ifCond .eq 32, 3) := by decide +kernel
theorem dX3_hasFour_8 : decode cX3_hasFour 8 = .ok (.aload_n 0, 1) := by decide +kernel
theorem dX3_hasFour_9 : decode cX3_hasFour 9 = .ok (.iload_n 2, 1) := by decide +kernel
theorem dX3_hasFour_10 : decode cX3_hasFour 10 = .ok (.invokevirtual 56, 3) := by decide +kernel
theorem dX3_hasFour_13 : decode cX3_hasFour 13 = .ok (.ifCond .eq 24, 3) := by decide +kernel
theorem dX3_hasFour_16 : decode cX3_hasFour 16 = .ok (.aload_n 0, 1) := by decide +kernel
theorem dX3_hasFour_17 : decode cX3_hasFour 17 = .ok (.iload_n 3, 1) := by decide +kernel
theorem dX3_hasFour_18 : decode cX3_hasFour 18 = .ok (.invokevirtual 56, 3) := by decide +kernel
theorem dX3_hasFour_21 : decode cX3_hasFour 21 = .ok (.ifCond .eq 16, 3) := by decide +kernel
theorem dX3_hasFour_24 : decode cX3_hasFour 24 = .ok (.aload_n 0, 1) := by decide +kernel
theorem dX3_hasFour_25 : decode cX3_hasFour 25 = .ok (.iload 4, 2) := by decide +kernel
theorem dX3_hasFour_27 : decode cX3_hasFour 27 = .ok (.invokevirtual 56, 3) := by decide +kernel
theorem dX3_hasFour_30 : decode cX3_hasFour 30 = .ok (.ifCond .eq 7, 3) := by decide +kernel
theorem dX3_hasFour_33 : decode cX3_hasFour 33 = .ok (.iconst 1, 1) := by decide +kernel
theorem dX3_hasFour_34 : decode cX3_hasFour 34 = .ok (.goto 4, 3) := by decide +kernel
theorem dX3_hasFour_37 : decode cX3_hasFour 37 = .ok (.iconst 0, 1) := by decide +kernel
theorem dX3_hasFour_38 : decode cX3_hasFour 38 = .ok (.ireturn, 1) := by decide +kernel
theorem dX3_part_0 : decode cX3_part 0 = .ok (.aload_n 0, 1) := by decide +kernel
theorem dX3_part_1 : decode cX3_part 1 = .ok (.getfield 9, 3) := by decide +kernel
theorem dX3_part_4 : decode cX3_part 4 = .ok (.iconst 3, 1) := by decide +kernel
theorem dX3_part_5 : decode cX3_part 5 = .ok (.iload_n 1, 1) := by decide +kernel
theorem dX3_part_6 : decode cX3_part 6 = .ok (.imul, 1) := by decide +kernel
theorem dX3_part_7 : decode cX3_part 7 = .ok (.iload_n 2, 1) := by decide +kernel
theorem dX3_part_8 : decode cX3_part 8 = .ok (.iadd, 1) := by decide +kernel
theorem dX3_part_9 : decode cX3_part 9 = .ok (.iaload, 1) := by decide +kernel
theorem dX3_part_10 : decode cX3_part 10 = .ok (.ireturn, 1) := by decide +kernel
theorem dX3_onRow_0 : decode cX3_onRow 0 = .ok (.aload_n 0, 1) := by decide +kernel
theorem dX3_onRow_1 : decode cX3_onRow 1 = .ok (.getfield 15, 3) := by decide +kernel
theorem dX3_onRow_4 : decode cX3_onRow 4 = .ok (.iload_n 1, 1) := by decide +kernel
theorem dX3_onRow_5 : decode cX3_onRow 5 = .ok (.bipush 10, 2) := by decide +kernel
theorem dX3_onRow_7 : decode cX3_onRow 7 = .ok (.imul, 1) := by decide +kernel
theorem dX3_onRow_8 : decode cX3_onRow 8 = .ok (.iload_n 2, 1) := by decide +kernel
theorem dX3_onRow_9 : decode cX3_onRow 9 = .ok (.iadd, 1) := by decide +kernel
theorem dX3_onRow_10 : decode cX3_onRow 10 = .ok (.iaload, 1) := by decide +kernel
theorem dX3_onRow_11 : decode cX3_onRow 11 = .ok (.ireturn, 1) := by decide +kernel
set_option maxRecDepth 20000 in
theorem ggX3_numberOf_X1_over : GoodIn wsX3_numberOf wsX1_over := goodIn_r _ [6, 7, 8, 13, 14, 15, 16, 17] (by decide +kernel) (by decide +kernel)
set_option maxRecDepth 20000 in
theorem gX3_numberOf_X1_over : GoodIn wsX3_numberOf (wsV RX3 53 RX1 yX1_over wsX1_over) := goodIn_app (goodIn_of _ (by decide +kernel)) ggX3_numberOf_X1_over
theorem dX3_numberOf_0 : decode cX3_numberOf 0 = .ok (.aload_n 0, 1) := by decide +kernel
theorem dX3_numberOf_1 : decode cX3_numberOf 1 = .ok (.getfield 18, 3) := by decide +kernel
theorem dX3_numberOf_4 : decode cX3_numberOf 4 = .ok (.getfield 25, 3) := by decide +kernel
theorem dX3_numberOf_7 : decode cX3_numberOf 7 = .ok (.istore 4, 2) := by decide +kernel
theorem dX3_numberOf_9 : decode cX3_numberOf 9 = .ok (.iload_n 1, 1) := by decide +kernel
theorem dX3_numberOf_10 : decode cX3_numberOf 10 = .ok (.ifCond .eq 31, 3) := by decide +kernel
theorem dX3_numberOf_13 : decode cX3_numberOf 13 = .ok (.iconst 1, 1) := by decide +kernel
theorem dX3_numberOf_14 : decode cX3_numberOf 14 = .ok (.iload 4, 2) := by decide +kernel
theorem dX3_numberOf_16 : decode cX3_numberOf 16 = .ok (.iadd, 1) := by decide +kernel
theorem dX3_numberOf_17 : decode cX3_numberOf 17 = .ok (.aload_n 0, 1) := by decide +kernel
theorem dX3_numberOf_18 : decode cX3_numberOf 18 = .ok (.getfield 18, 3) := by decide +kernel
theorem dX3_numberOf_21 : decode cX3_numberOf 21 = .ok (.iload_n 2, 1) := by decide +kernel
theorem dX3_numberOf_22 : decode cX3_numberOf 22 = .ok (.iload_n 1, 1) := by decide +kernel
theorem dX3_numberOf_23 : decode cX3_numberOf 23 = .ok (.invokevirtual 53, 3) := by decide +kernel
theorem dX3_numberOf_26 : decode cX3_numberOf 26 = .ok (.iload 4, 2) := by decide +kernel
theorem dX3_numberOf_28 : decode cX3_numberOf 28 = .ok (.imul, 1) := by decide +kernel
theorem dX3_numberOf_29 : decode cX3_numberOf 29 = .ok (.iadd, 1) := by decide +kernel
theorem dX3_numberOf_30 : decode cX3_numberOf 30 = .ok (.aload_n 0, 1) := by decide +kernel
theorem dX3_numberOf_31 : decode cX3_numberOf 31 = .ok (.getfield 18, 3) := by decide +kernel
theorem dX3_numberOf_34 : decode cX3_numberOf 34 = .ok (.iload_n 3, 1) := by decide +kernel
theorem dX3_numberOf_35 : decode cX3_numberOf 35 = .ok (.iload_n 1, 1) := by decide +kernel
theorem dX3_numberOf_36 : decode cX3_numberOf 36 = .ok (.invokevirtual 53, 3) := by decide +kernel
theorem dX3_numberOf_39 : decode cX3_numberOf 39 = .ok (.iadd, 1) := by decide +kernel
theorem dX3_numberOf_40 : decode cX3_numberOf 40 = .ok (.ireturn, 1) := by decide +kernel
theorem dX3_numberOf_41 : decode cX3_numberOf 41 = .ok (.iload_n 2, 1) := by decide +kernel
theorem dX3_numberOf_42 : decode cX3_numberOf 42 = .ok (.ifCond .eq 15, 3) := by decide +kernel
theorem dX3_numberOf_45 : decode cX3_numberOf 45 = .ok (.iconst 1, 1) := by decide +kernel
theorem dX3_numberOf_46 : decode cX3_numberOf 46 = .ok (.aload_n 0, 1) := by decide +kernel
theorem dX3_numberOf_47 : decode cX3_numberOf 47 = .ok (.getfield 18, 3) := by decide +kernel
theorem dX3_numberOf_50 : decode cX3_numberOf 50 = .ok (.iload_n 3, 1) := by decide +kernel
theorem dX3_numberOf_51 : decode cX3_numberOf 51 = .ok (.iload_n 2, 1) := by decide +kernel
theorem dX3_numberOf_52 : decode cX3_numberOf 52 = .ok (.invokevirtual 53, 3) := by decide +kernel
theorem dX3_numberOf_55 : decode cX3_numberOf 55 = .ok (.iadd, 1) := by decide +kernel
theorem dX3_numberOf_56 : decode cX3_numberOf 56 = .ok (.ireturn, 1) := by decide +kernel
theorem dX3_numberOf_57 : decode cX3_numberOf 57 = .ok (.iload_n 3, 1) := by decide +kernel
theorem dX3_numberOf_58 : decode cX3_numberOf 58 = .ok (.ifCond .eq 7, 3) := by decide +kernel
theorem dX3_numberOf_61 : decode cX3_numberOf 61 = .ok (.iconst 0, 1) := by decide +kernel
theorem dX3_numberOf_62 : decode cX3_numberOf 62 = .ok (.goto 5, 3) := by decide +kernel
theorem dX3_numberOf_65 : decode cX3_numberOf 65 = .ok (.bipush (-3), 2) := by decide +kernel
theorem dX3_numberOf_67 : decode cX3_numberOf 67 = .ok (.ireturn, 1) := by decide +kernel
set_option maxRecDepth 20000 in
theorem ggX3_dot_X3_part : GoodIn wsX3_dot wsX3_part := goodIn_r _ [6, 7, 19, 20, 21, 22] (by decide +kernel) (by decide +kernel)
set_option maxRecDepth 20000 in
theorem gX3_dot_X3_part : GoodIn wsX3_dot (wsV RX3 42 RX3 yX3_part wsX3_part) := goodIn_app (goodIn_of _ (by decide +kernel)) ggX3_dot_X3_part
set_option maxRecDepth 20000 in
theorem ggX3_dot_X1_times : GoodIn wsX3_dot wsX1_times := goodIn_r _ [12, 13, 23, 24, 25, 26, 27] (by decide +kernel) (by decide +kernel)
set_option maxRecDepth 20000 in
theorem gX3_dot_X1_times : GoodIn wsX3_dot (wsV RX3 60 RX1 yX1_times wsX1_times) := goodIn_app (goodIn_of _ (by decide +kernel)) ggX3_dot_X1_times
set_option maxRecDepth 20000 in
theorem ggX3_dot_X1_plus : GoodIn wsX3_dot wsX1_plus := goodIn_r _ [17, 18, 23, 24, 25, 26, 27] (by decide +kernel) (by decide +kernel)
set_option maxRecDepth 20000 in
theorem gX3_dot_X1_plus : GoodIn wsX3_dot (wsV RX3 63 RX1 yX1_plus wsX1_plus) := goodIn_app (goodIn_of _ (by decide +kernel)) ggX3_dot_X1_plus
theorem dX3_dot_0 : decode cX3_dot 0 = .ok (.iconst 0, 1) := by decide +kernel
theorem dX3_dot_1 : decode cX3_dot 1 = .ok (.istore_n 3, 1) := by decide +kernel
theorem dX3_dot_2 : decode cX3_dot 2 = .ok (.iconst 0, 1) := by decide +kernel
theorem dX3_dot_3 : decode cX3_dot 3 = .ok (.istore 4, 2) := by decide +kernel
theorem dX3_dot_5 : decode cX3_dot 5 = .ok (.iload 4, 2) := by decide +kernel
theorem dX3_dot_7 : decode cX3_dot 7 = .ok (.iconst 3, 1) := by decide +kernel
theorem dX3_dot_8 : decode cX3_dot 8 = .ok (.if_icmp .ge 39, 3) := by decide +kernel
theorem dX3_dot_11 : decode cX3_dot 11 = .ok (.aload_n 0, 1) := by decide +kernel
theorem dX3_dot_12 : decode cX3_dot 12 = .ok (.getfield 18, 3) := by decide +kernel
theorem dX3_dot_15 : decode cX3_dot 15 = .ok (.iload_n 3, 1) := by decide +kernel
theorem dX3_dot_16 : decode cX3_dot 16 = .ok (.aload_n 0, 1) := by decide +kernel
theorem dX3_dot_17 : decode cX3_dot 17 = .ok (.getfield 18, 3) := by decide +kernel
theorem dX3_dot_20 : decode cX3_dot 20 = .ok (.aload_n 0, 1) := by decide +kernel
theorem dX3_dot_21 : decode cX3_dot 21 = .ok (.iload_n 1, 1) := by decide +kernel
theorem dX3_dot_22 : decode cX3_dot 22 = .ok (.iload 4, 2) := by decide +kernel
theorem dX3_dot_24 : decode cX3_dot 24 = .ok (.invokevirtual 42, 3) := by decide +kernel
theorem dX3_dot_27 : decode cX3_dot 27 = .ok (.aload_n 0, 1) := by decide +kernel
theorem dX3_dot_28 : decode cX3_dot 28 = .ok (.iload_n 2, 1) := by decide +kernel
theorem dX3_dot_29 : decode cX3_dot 29 = .ok (.iload 4, 2) := by decide +kernel
theorem dX3_dot_31 : decode cX3_dot 31 = .ok (.invokevirtual 42, 3) := by decide +kernel
theorem dX3_dot_34 : decode cX3_dot 34 = .ok (.invokevirtual 60, 3) := by decide +kernel
theorem dX3_dot_37 : decode cX3_dot 37 = .ok (.invokevirtual 63, 3) := by decide +kernel
theorem dX3_dot_40 : decode cX3_dot 40 = .ok (.istore_n 3, 1) := by decide +kernel
theorem dX3_dot_41 : decode cX3_dot 41 = .ok (.iinc 4 1, 3) := by decide +kernel
theorem dX3_dot_44 : decode cX3_dot 44 = .ok (.goto (-39), 3) := by decide +kernel
theorem dX3_dot_47 : decode cX3_dot 47 = .ok (.iload_n 3, 1) := by decide +kernel
theorem dX3_dot_48 : decode cX3_dot 48 = .ok (.ireturn, 1) := by decide +kernel
set_option maxRecDepth 20000 in
theorem ggX3_isOn_X3_dot : GoodIn wsX3_isOn wsX3_dot := goodIn_r _ [5, 6, 7, 8, 9, 4, 10, 11, 12, 13, 14, 15, 16, 17, 18, 19, 20, 21, 22, 23, 24, 25, 26, 27, 28, 29, 30, 31] (by decide +kernel) (by decide +kernel)
set_option maxRecDepth 20000 in
theorem gX3_isOn_X3_dot : GoodIn wsX3_isOn (wsV RX3 46 RX3 yX3_dot wsX3_dot) := goodIn_app (goodIn_of _ (by decide +kernel)) ggX3_isOn_X3_dot
theorem dX3_isOn_0 : decode cX3_isOn 0 = .ok (.aload_n 0, 1) := by decide +kernel
theorem dX3_isOn_1 : decode cX3_isOn 1 = .ok (.iload_n 1, 1) := by decide +kernel
theorem dX3_isOn_2 : decode cX3_isOn 2 = .ok (.iload_n 2, 1) := by decide +kernel
theorem dX3_isOn_3 : decode cX3_isOn 3 = .ok (.invokevirtual 46, 3) := by decide +kernel
theorem dX3_isOn_6 : decode cX3_isOn 6 = .ok (.ifCond .ne 7, 3) := by decide +kernel
theorem dX3_isOn_9 : decode cX3_isOn 9 = .ok (.iconst 1, 1) := by decide +kernel
theorem dX3_isOn_10 : decode cX3_isOn 10 = .ok (.goto 4, 3) := by decide +kernel
theorem dX3_isOn_13 : decode cX3_isOn 13 = .ok (.iconst 0, 1) := by decide +kernel
theorem dX3_isOn_14 : decode cX3_isOn 14 = .ok (.ireturn, 1) := by decide +kernel
set_option maxRecDepth 20000 in
theorem ggX3_cross_X3_part : GoodIn wsX3_cross wsX3_part := goodIn_r _ [6, 7, 24, 25, 26, 27] (by decide +kernel) (by decide +kernel)
set_option maxRecDepth 20000 in
theorem gX3_cross_X3_part : GoodIn wsX3_cross (wsV RX3 42 RX3 yX3_part wsX3_part) := goodIn_app (goodIn_of _ (by decide +kernel)) ggX3_cross_X3_part
set_option maxRecDepth 20000 in
theorem ggX3_cross_X1_crosswise : GoodIn wsX3_cross wsX1_crosswise := goodIn_r _ [12, 13, 14, 15, 11, 16, 17, 18, 19, 20, 21, 22, 23, 28, 29, 30, 31, 32] (by decide +kernel) (by decide +kernel)
set_option maxRecDepth 20000 in
theorem gX3_cross_X1_crosswise : GoodIn wsX3_cross (wsV RX3 66 RX1 yX1_crosswise wsX1_crosswise) := goodIn_app (goodIn_of _ (by decide +kernel)) ggX3_cross_X1_crosswise
theorem dX3_cross_0 : decode cX3_cross 0 = .ok (.iload_n 3, 1) := by decide +kernel
theorem dX3_cross_1 : decode cX3_cross 1 = .ok (.iconst 1, 1) := by decide +kernel
theorem dX3_cross_2 : decode cX3_cross 2 = .ok (.iadd, 1) := by decide +kernel
theorem dX3_cross_3 : decode cX3_cross 3 = .ok (.iconst 3, 1) := by decide +kernel
theorem dX3_cross_4 : decode cX3_cross 4 = .ok (.irem, 1) := by decide +kernel
theorem dX3_cross_5 : decode cX3_cross 5 = .ok (.istore 4, 2) := by decide +kernel
theorem dX3_cross_7 : decode cX3_cross 7 = .ok (.iload_n 3, 1) := by decide +kernel
theorem dX3_cross_8 : decode cX3_cross 8 = .ok (.iconst 2, 1) := by decide +kernel
theorem dX3_cross_9 : decode cX3_cross 9 = .ok (.iadd, 1) := by decide +kernel
theorem dX3_cross_10 : decode cX3_cross 10 = .ok (.iconst 3, 1) := by decide +kernel
theorem dX3_cross_11 : decode cX3_cross 11 = .ok (.irem, 1) := by decide +kernel
theorem dX3_cross_12 : decode cX3_cross 12 = .ok (.istore 5, 2) := by decide +kernel
theorem dX3_cross_14 : decode cX3_cross 14 = .ok (.aload_n 0, 1) := by decide +kernel
theorem dX3_cross_15 : decode cX3_cross 15 = .ok (.getfield 18, 3) := by decide +kernel
theorem dX3_cross_18 : decode cX3_cross 18 = .ok (.aload_n 0, 1) := by decide +kernel
theorem dX3_cross_19 : decode cX3_cross 19 = .ok (.iload_n 1, 1) := by decide +kernel
theorem dX3_cross_20 : decode cX3_cross 20 = .ok (.iload 4, 2) := by decide +kernel
theorem dX3_cross_22 : decode cX3_cross 22 = .ok (.invokevirtual 42, 3) := by decide +kernel
theorem dX3_cross_25 : decode cX3_cross 25 = .ok (.aload_n 0, 1) := by decide +kernel
theorem dX3_cross_26 : decode cX3_cross 26 = .ok (.iload_n 1, 1) := by decide +kernel
theorem dX3_cross_27 : decode cX3_cross 27 = .ok (.iload 5, 2) := by decide +kernel
theorem dX3_cross_29 : decode cX3_cross 29 = .ok (.invokevirtual 42, 3) := by decide +kernel
theorem dX3_cross_32 : decode cX3_cross 32 = .ok (.aload_n 0, 1) := by decide +kernel
theorem dX3_cross_33 : decode cX3_cross 33 = .ok (.iload_n 2, 1) := by decide +kernel
theorem dX3_cross_34 : decode cX3_cross 34 = .ok (.iload 4, 2) := by decide +kernel
theorem dX3_cross_36 : decode cX3_cross 36 = .ok (.invokevirtual 42, 3) := by decide +kernel
theorem dX3_cross_39 : decode cX3_cross 39 = .ok (.aload_n 0, 1) := by decide +kernel
theorem dX3_cross_40 : decode cX3_cross 40 = .ok (.iload_n 2, 1) := by decide +kernel
theorem dX3_cross_41 : decode cX3_cross 41 = .ok (.iload 5, 2) := by decide +kernel
theorem dX3_cross_43 : decode cX3_cross 43 = .ok (.invokevirtual 42, 3) := by decide +kernel
theorem dX3_cross_46 : decode cX3_cross 46 = .ok (.invokevirtual 66, 3) := by decide +kernel
theorem dX3_cross_49 : decode cX3_cross 49 = .ok (.ireturn, 1) := by decide +kernel
set_option maxRecDepth 20000 in
theorem ggX3_det_X3_part : GoodIn wsX3_det wsX3_part := goodIn_r _ [6, 7, 33, 34, 35, 36] (by decide +kernel) (by decide +kernel)
set_option maxRecDepth 20000 in
theorem gX3_det_X3_part : GoodIn wsX3_det (wsV RX3 42 RX3 yX3_part wsX3_part) := goodIn_app (goodIn_of _ (by decide +kernel)) ggX3_det_X3_part
set_option maxRecDepth 20000 in
theorem ggX3_det_X3_cross : GoodIn wsX3_det wsX3_cross := goodIn_r _ [11, 1, 2, 3, 4, 5, 6, 7, 12, 13, 14, 15, 16, 17, 18, 19, 20, 21, 22, 23, 24, 25, 26, 27, 33, 34, 35, 36, 37, 38, 39, 40, 41] (by decide +kernel) (by decide +kernel)
set_option maxRecDepth 20000 in
theorem gX3_det_X3_cross : GoodIn wsX3_det (wsV RX3 70 RX3 yX3_cross wsX3_cross) := goodIn_app (goodIn_of _ (by decide +kernel)) ggX3_det_X3_cross
set_option maxRecDepth 20000 in
theorem ggX3_det_X1_times : GoodIn wsX3_det wsX1_times := goodIn_r _ [20, 21, 37, 38, 39, 40, 41] (by decide +kernel) (by decide +kernel)
set_option maxRecDepth 20000 in
theorem gX3_det_X1_times : GoodIn wsX3_det (wsV RX3 60 RX1 yX1_times wsX1_times) := goodIn_app (goodIn_of _ (by decide +kernel)) ggX3_det_X1_times
set_option maxRecDepth 20000 in
theorem ggX3_det_X1_plus : GoodIn wsX3_det wsX1_plus := goodIn_r _ [32, 26, 37, 38, 39, 40, 41] (by decide +kernel) (by decide +kernel)
set_option maxRecDepth 20000 in
theorem gX3_det_X1_plus : GoodIn wsX3_det (wsV RX3 63 RX1 yX1_plus wsX1_plus) := goodIn_app (goodIn_of _ (by decide +kernel)) ggX3_det_X1_plus
theorem dX3_det_0 : decode cX3_det 0 = .ok (.iconst 0, 1) := by decide +kernel
theorem dX3_det_1 : decode cX3_det 1 = .ok (.istore 4, 2) := by decide +kernel
theorem dX3_det_3 : decode cX3_det 3 = .ok (.iconst 0, 1) := by decide +kernel
theorem dX3_det_4 : decode cX3_det 4 = .ok (.istore 5, 2) := by decide +kernel
theorem dX3_det_6 : decode cX3_det 6 = .ok (.iload 5, 2) := by decide +kernel
theorem dX3_det_8 : decode cX3_det 8 = .ok (.iconst 3, 1) := by decide +kernel
theorem dX3_det_9 : decode cX3_det 9 = .ok (.if_icmp .ge 42, 3) := by decide +kernel
theorem dX3_det_12 : decode cX3_det 12 = .ok (.aload_n 0, 1) := by decide +kernel
theorem dX3_det_13 : decode cX3_det 13 = .ok (.getfield 18, 3) := by decide +kernel
theorem dX3_det_16 : decode cX3_det 16 = .ok (.iload 4, 2) := by decide +kernel
theorem dX3_det_18 : decode cX3_det 18 = .ok (.aload_n 0, 1) := by decide +kernel
theorem dX3_det_19 : decode cX3_det 19 = .ok (.getfield 18, 3) := by decide +kernel
theorem dX3_det_22 : decode cX3_det 22 = .ok (.aload_n 0, 1) := by decide +kernel
theorem dX3_det_23 : decode cX3_det 23 = .ok (.iload_n 1, 1) := by decide +kernel
theorem dX3_det_24 : decode cX3_det 24 = .ok (.iload 5, 2) := by decide +kernel
theorem dX3_det_26 : decode cX3_det 26 = .ok (.invokevirtual 42, 3) := by decide +kernel
theorem dX3_det_29 : decode cX3_det 29 = .ok (.aload_n 0, 1) := by decide +kernel
theorem dX3_det_30 : decode cX3_det 30 = .ok (.iload_n 2, 1) := by decide +kernel
theorem dX3_det_31 : decode cX3_det 31 = .ok (.iload_n 3, 1) := by decide +kernel
theorem dX3_det_32 : decode cX3_det 32 = .ok (.iload 5, 2) := by decide +kernel
theorem dX3_det_34 : decode cX3_det 34 = .ok (.invokevirtual 70, 3) := by decide +kernel
theorem dX3_det_37 : decode cX3_det 37 = .ok (.invokevirtual 60, 3) := by decide +kernel
theorem dX3_det_40 : decode cX3_det 40 = .ok (.invokevirtual 63, 3) := by decide +kernel
theorem dX3_det_43 : decode cX3_det 43 = .ok (.istore 4, 2) := by decide +kernel
theorem dX3_det_45 : decode cX3_det 45 = .ok (.iinc 5 1, 3) := by decide +kernel
theorem dX3_det_48 : decode cX3_det 48 = .ok (.goto (-42), 3) := by decide +kernel
theorem dX3_det_51 : decode cX3_det 51 = .ok (.iload 4, 2) := by decide +kernel
theorem dX3_det_53 : decode cX3_det 53 = .ok (.ireturn, 1) := by decide +kernel
set_option maxRecDepth 20000 in
theorem ggX3_isFrame_X3_det : GoodIn wsX3_isFrame wsX3_det := goodIn_r _ [5, 6, 7, 8, 9, 4, 10, 11, 12, 13, 14, 15, 16, 17, 18, 19, 20, 21, 22, 23, 24, 25, 26, 27, 28, 29, 30, 31, 32, 33, 34, 35, 36, 37, 38, 39, 40, 41, 42, 43, 44, 45] (by decide +kernel) (by decide +kernel)
set_option maxRecDepth 20000 in
theorem gX3_isFrame_X3_det : GoodIn wsX3_isFrame (wsV RX3 74 RX3 yX3_det wsX3_det) := goodIn_app (goodIn_of _ (by decide +kernel)) ggX3_isFrame_X3_det
theorem dX3_isFrame_0 : decode cX3_isFrame 0 = .ok (.aload_n 0, 1) := by decide +kernel
theorem dX3_isFrame_1 : decode cX3_isFrame 1 = .ok (.iload_n 1, 1) := by decide +kernel
theorem dX3_isFrame_2 : decode cX3_isFrame 2 = .ok (.iload_n 2, 1) := by decide +kernel
theorem dX3_isFrame_3 : decode cX3_isFrame 3 = .ok (.iload_n 3, 1) := by decide +kernel
theorem dX3_isFrame_4 : decode cX3_isFrame 4 = .ok (.invokevirtual 74, 3) := by decide +kernel
theorem dX3_isFrame_7 : decode cX3_isFrame 7 = .ok (.ifCond .eq 40, 3) := by decide +kernel
theorem dX3_isFrame_10 : decode cX3_isFrame 10 = .ok (.aload_n 0, 1) := by decide +kernel
theorem dX3_isFrame_11 : decode cX3_isFrame 11 = .ok (.iload_n 1, 1) := by decide +kernel
theorem dX3_isFrame_12 : decode cX3_isFrame 12 = .ok (.iload_n 2, 1) := by decide +kernel
theorem dX3_isFrame_13 : decode cX3_isFrame 13 = .ok (.iload 4, 2) := by decide +kernel
theorem dX3_isFrame_15 : decode cX3_isFrame 15 = .ok (.invokevirtual 74, 3) := by decide +kernel
theorem dX3_isFrame_18 : decode cX3_isFrame 18 = .ok (.ifCond .eq 29, 3) := by decide +kernel
theorem dX3_isFrame_21 : decode cX3_isFrame 21 = .ok (.aload_n 0, 1) := by decide +kernel
theorem dX3_isFrame_22 : decode cX3_isFrame 22 = .ok (.iload_n 1, 1) := by decide +kernel
theorem dX3_isFrame_23 : decode cX3_isFrame 23 = .ok (.iload_n 3, 1) := by decide +kernel
theorem dX3_isFrame_24 : decode cX3_isFrame 24 = .ok (.iload 4, 2) := by decide +kernel
theorem dX3_isFrame_26 : decode cX3_isFrame 26 = .ok (.invokevirtual 74, 3) := by decide +kernel
theorem dX3_isFrame_29 : decode cX3_isFrame 29 = .ok (.ifCond .eq 18, 3) := by decide +kernel
theorem dX3_isFrame_32 : decode cX3_isFrame 32 = .ok (.aload_n 0, 1) := by decide +kernel
theorem dX3_isFrame_33 : decode cX3_isFrame 33 = .ok (.iload_n 2, 1) := by decide +kernel
theorem dX3_isFrame_34 : decode cX3_isFrame 34 = .ok (.iload_n 3, 1) := by decide +kernel
theorem dX3_isFrame_35 : decode cX3_isFrame 35 = .ok (.iload 4, 2) := by decide +kernel
theorem dX3_isFrame_37 : decode cX3_isFrame 37 = .ok (.invokevirtual 74, 3) := by decide +kernel
theorem dX3_isFrame_40 : decode cX3_isFrame 40 = .ok (.ifCond .eq 7, 3) := by decide +kernel
theorem dX3_isFrame_43 : decode cX3_isFrame 43 = .ok (.iconst 1, 1) := by decide +kernel
theorem dX3_isFrame_44 : decode cX3_isFrame 44 = .ok (.goto 4, 3) := by decide +kernel
theorem dX3_isFrame_47 : decode cX3_isFrame 47 = .ok (.iconst 0, 1) := by decide +kernel
theorem dX3_isFrame_48 : decode cX3_isFrame 48 = .ok (.ireturn, 1) := by decide +kernel
set_option maxRecDepth 20000 in
theorem ggX3_ratioOf_X3_cross : GoodIn wsX3_ratioOf wsX3_cross := goodIn_r _ [6, 1, 7, 8, 9, 5, 10, 11, 12, 13, 14, 15, 16, 17, 18, 19, 20, 21, 22, 23, 24, 25, 26, 27, 34, 35, 36, 37, 38, 39, 40, 41, 42] (by decide +kernel) (by decide +kernel)
set_option maxRecDepth 20000 in
theorem gX3_ratioOf_X3_cross : GoodIn wsX3_ratioOf (wsV RX3 70 RX3 yX3_cross wsX3_cross) := goodIn_app (goodIn_of _ (by decide +kernel)) ggX3_ratioOf_X3_cross
set_option maxRecDepth 20000 in
theorem ggX3_ratioOf_X1_times : GoodIn wsX3_ratioOf wsX1_times := goodIn_r _ [20, 21, 38, 39, 40, 41, 42] (by decide +kernel) (by decide +kernel)
set_option maxRecDepth 20000 in
theorem gX3_ratioOf_X1_times : GoodIn wsX3_ratioOf (wsV RX3 60 RX1 yX1_times wsX1_times) := goodIn_app (goodIn_of _ (by decide +kernel)) ggX3_ratioOf_X1_times
set_option maxRecDepth 20000 in
theorem ggX3_ratioOf_X1_over : GoodIn wsX3_ratioOf wsX1_over := goodIn_r _ [32, 21, 33, 38, 39, 40, 41, 42] (by decide +kernel) (by decide +kernel)
set_option maxRecDepth 20000 in
theorem gX3_ratioOf_X1_over : GoodIn wsX3_ratioOf (wsV RX3 53 RX1 yX1_over wsX1_over) := goodIn_app (goodIn_of _ (by decide +kernel)) ggX3_ratioOf_X1_over
theorem dX3_ratioOf_0 : decode cX3_ratioOf 0 = .ok (.aload_n 0, 1) := by decide +kernel
theorem dX3_ratioOf_1 : decode cX3_ratioOf 1 = .ok (.iload_n 1, 1) := by decide +kernel
theorem dX3_ratioOf_2 : decode cX3_ratioOf 2 = .ok (.iload_n 2, 1) := by decide +kernel
theorem dX3_ratioOf_3 : decode cX3_ratioOf 3 = .ok (.iconst 0, 1) := by decide +kernel
theorem dX3_ratioOf_4 : decode cX3_ratioOf 4 = .ok (.invokevirtual 70, 3) := by decide +kernel
theorem dX3_ratioOf_7 : decode cX3_ratioOf 7 = .ok (.ifCond .eq 7, 3) := by decide +kernel
theorem dX3_ratioOf_10 : decode cX3_ratioOf 10 = .ok (.iconst 0, 1) := by decide +kernel
theorem dX3_ratioOf_11 : decode cX3_ratioOf 11 = .ok (.goto 18, 3) := by decide +kernel
theorem dX3_ratioOf_14 : decode cX3_ratioOf 14 = .ok (.aload_n 0, 1) := by decide +kernel
theorem dX3_ratioOf_15 : decode cX3_ratioOf 15 = .ok (.iload_n 1, 1) := by decide +kernel
theorem dX3_ratioOf_16 : decode cX3_ratioOf 16 = .ok (.iload_n 2, 1) := by decide +kernel
theorem dX3_ratioOf_17 : decode cX3_ratioOf 17 = .ok (.iconst 1, 1) := by decide +kernel
theorem dX3_ratioOf_18 : decode cX3_ratioOf 18 = .ok (.invokevirtual 70, 3) := by decide +kernel
theorem dX3_ratioOf_21 : decode cX3_ratioOf 21 = .ok (.ifCond .eq 7, 3) := by decide +kernel
theorem dX3_ratioOf_24 : decode cX3_ratioOf 24 = .ok (.iconst 1, 1) := by decide +kernel
theorem dX3_ratioOf_25 : decode cX3_ratioOf 25 = .ok (.goto 4, 3) := by decide +kernel
theorem dX3_ratioOf_28 : decode cX3_ratioOf 28 = .ok (.iconst 2, 1) := by decide +kernel
theorem dX3_ratioOf_29 : decode cX3_ratioOf 29 = .ok (.istore 5, 2) := by decide +kernel
theorem dX3_ratioOf_31 : decode cX3_ratioOf 31 = .ok (.aload_n 0, 1) := by decide +kernel
theorem dX3_ratioOf_32 : decode cX3_ratioOf 32 = .ok (.getfield 18, 3) := by decide +kernel
theorem dX3_ratioOf_35 : decode cX3_ratioOf 35 = .ok (.aload_n 0, 1) := by decide +kernel
theorem dX3_ratioOf_36 : decode cX3_ratioOf 36 = .ok (.iload_n 1, 1) := by decide +kernel
theorem dX3_ratioOf_37 : decode cX3_ratioOf 37 = .ok (.iload 4, 2) := by decide +kernel
theorem dX3_ratioOf_39 : decode cX3_ratioOf 39 = .ok (.iload 5, 2) := by decide +kernel
theorem dX3_ratioOf_41 : decode cX3_ratioOf 41 = .ok (.invokevirtual 70, 3) := by decide +kernel
theorem dX3_ratioOf_44 : decode cX3_ratioOf 44 = .ok (.aload_n 0, 1) := by decide +kernel
theorem dX3_ratioOf_45 : decode cX3_ratioOf 45 = .ok (.iload_n 3, 1) := by decide +kernel
theorem dX3_ratioOf_46 : decode cX3_ratioOf 46 = .ok (.iload_n 2, 1) := by decide +kernel
theorem dX3_ratioOf_47 : decode cX3_ratioOf 47 = .ok (.iload 5, 2) := by decide +kernel
theorem dX3_ratioOf_49 : decode cX3_ratioOf 49 = .ok (.invokevirtual 70, 3) := by decide +kernel
theorem dX3_ratioOf_52 : decode cX3_ratioOf 52 = .ok (.invokevirtual 60, 3) := by decide +kernel
theorem dX3_ratioOf_55 : decode cX3_ratioOf 55 = .ok (.istore 6, 2) := by decide +kernel
theorem dX3_ratioOf_57 : decode cX3_ratioOf 57 = .ok (.iload 6, 2) := by decide +kernel
theorem dX3_ratioOf_59 : decode cX3_ratioOf 59 = .ok (.ifCond .ne 11, 3) := by decide +kernel
theorem dX3_ratioOf_62 : decode cX3_ratioOf 62 = .ok (.aload_n 0, 1) := by decide +kernel
theorem dX3_ratioOf_63 : decode cX3_ratioOf 63 = .ok (.getfield 18, 3) := by decide +kernel
theorem dX3_ratioOf_66 : decode cX3_ratioOf 66 = .ok (.getfield 25, 3) := by decide +kernel
theorem dX3_ratioOf_69 : decode cX3_ratioOf 69 = .ok (.ireturn, 1) := by decide +kernel
theorem dX3_ratioOf_70 : decode cX3_ratioOf 70 = .ok (.aload_n 0, 1) := by decide +kernel
theorem dX3_ratioOf_71 : decode cX3_ratioOf 71 = .ok (.getfield 18, 3) := by decide +kernel
theorem dX3_ratioOf_74 : decode cX3_ratioOf 74 = .ok (.aload_n 0, 1) := by decide +kernel
theorem dX3_ratioOf_75 : decode cX3_ratioOf 75 = .ok (.getfield 18, 3) := by decide +kernel
theorem dX3_ratioOf_78 : decode cX3_ratioOf 78 = .ok (.aload_n 0, 1) := by decide +kernel
theorem dX3_ratioOf_79 : decode cX3_ratioOf 79 = .ok (.iload 4, 2) := by decide +kernel
theorem dX3_ratioOf_81 : decode cX3_ratioOf 81 = .ok (.iload_n 2, 1) := by decide +kernel
theorem dX3_ratioOf_82 : decode cX3_ratioOf 82 = .ok (.iload 5, 2) := by decide +kernel
theorem dX3_ratioOf_84 : decode cX3_ratioOf 84 = .ok (.invokevirtual 70, 3) := by decide +kernel
theorem dX3_ratioOf_87 : decode cX3_ratioOf 87 = .ok (.aload_n 0, 1) := by decide +kernel
theorem dX3_ratioOf_88 : decode cX3_ratioOf 88 = .ok (.iload_n 1, 1) := by decide +kernel
theorem dX3_ratioOf_89 : decode cX3_ratioOf 89 = .ok (.iload_n 3, 1) := by decide +kernel
theorem dX3_ratioOf_90 : decode cX3_ratioOf 90 = .ok (.iload 5, 2) := by decide +kernel
theorem dX3_ratioOf_92 : decode cX3_ratioOf 92 = .ok (.invokevirtual 70, 3) := by decide +kernel
theorem dX3_ratioOf_95 : decode cX3_ratioOf 95 = .ok (.invokevirtual 60, 3) := by decide +kernel
theorem dX3_ratioOf_98 : decode cX3_ratioOf 98 = .ok (.iload 6, 2) := by decide +kernel
theorem dX3_ratioOf_100 : decode cX3_ratioOf 100 = .ok (.invokevirtual 53, 3) := by decide +kernel
theorem dX3_ratioOf_103 : decode cX3_ratioOf 103 = .ok (.ireturn, 1) := by decide +kernel
theorem dX3_sizeOf_0 : decode cX3_sizeOf 0 = .ok (.iconst 0, 1) := by decide +kernel
theorem dX3_sizeOf_1 : decode cX3_sizeOf 1 = .ok (.istore_n 2, 1) := by decide +kernel
theorem dX3_sizeOf_2 : decode cX3_sizeOf 2 = .ok (.iconst 0, 1) := by decide +kernel
theorem dX3_sizeOf_3 : decode cX3_sizeOf 3 = .ok (.istore_n 3, 1) := by decide +kernel
theorem dX3_sizeOf_4 : decode cX3_sizeOf 4 = .ok (.iload_n 3, 1) := by decide +kernel
theorem dX3_sizeOf_5 : decode cX3_sizeOf 5 = .ok (.aload_n 0, 1) := by decide +kernel
theorem dX3_sizeOf_6 : decode cX3_sizeOf 6 = .ok (.getfield 31, 3) := by decide +kernel
theorem dX3_sizeOf_9 : decode cX3_sizeOf 9 = .ok (.if_icmp .ge 18, 3) := by decide +kernel
theorem dX3_sizeOf_12 : decode cX3_sizeOf 12 = .ok (.aload_n 1, 1) := by decide +kernel
theorem dX3_sizeOf_13 : decode cX3_sizeOf 13 = .ok (.iload_n 3, 1) := by decide +kernel
theorem dX3_sizeOf_14 : decode cX3_sizeOf 14 = .ok (.baload, 1) := by decide +kernel
theorem dX3_sizeOf_15 : decode cX3_sizeOf 15 = .ok (.ifCond .eq 6, 3) := by decide +kernel
theorem dX3_sizeOf_18 : decode cX3_sizeOf 18 = .ok (.iinc 2 1, 3) := by decide +kernel
theorem dX3_sizeOf_21 : decode cX3_sizeOf 21 = .ok (.iinc 3 1, 3) := by decide +kernel
theorem dX3_sizeOf_24 : decode cX3_sizeOf 24 = .ok (.goto (-20), 3) := by decide +kernel
theorem dX3_sizeOf_27 : decode cX3_sizeOf 27 = .ok (.iload_n 2, 1) := by decide +kernel
theorem dX3_sizeOf_28 : decode cX3_sizeOf 28 = .ok (.ireturn, 1) := by decide +kernel
theorem dX3_pick_0 : decode cX3_pick 0 = .ok (.iconst 0, 1) := by decide +kernel
theorem dX3_pick_1 : decode cX3_pick 1 = .ok (.istore_n 3, 1) := by decide +kernel
theorem dX3_pick_2 : decode cX3_pick 2 = .ok (.iconst 0, 1) := by decide +kernel
theorem dX3_pick_3 : decode cX3_pick 3 = .ok (.istore 4, 2) := by decide +kernel
theorem dX3_pick_5 : decode cX3_pick 5 = .ok (.iload 4, 2) := by decide +kernel
theorem dX3_pick_7 : decode cX3_pick 7 = .ok (.aload_n 0, 1) := by decide +kernel
theorem dX3_pick_8 : decode cX3_pick 8 = .ok (.getfield 31, 3) := by decide +kernel
theorem dX3_pick_11 : decode cX3_pick 11 = .ok (.if_icmp .ge 27, 3) := by decide +kernel
theorem dX3_pick_14 : decode cX3_pick 14 = .ok (.aload_n 1, 1) := by decide +kernel
theorem dX3_pick_15 : decode cX3_pick 15 = .ok (.iload 4, 2) := by decide +kernel
theorem dX3_pick_17 : decode cX3_pick 17 = .ok (.baload, 1) := by decide +kernel
theorem dX3_pick_18 : decode cX3_pick 18 = .ok (.ifCond .eq 14, 3) := by decide +kernel
theorem dX3_pick_21 : decode cX3_pick 21 = .ok (.iload_n 3, 1) := by decide +kernel
theorem dX3_pick_22 : decode cX3_pick 22 = .ok (.iload_n 2, 1) := by decide +kernel
theorem dX3_pick_23 : decode cX3_pick 23 = .ok (.if_icmp .ne 6, 3) := by decide +kernel
theorem dX3_pick_26 : decode cX3_pick 26 = .ok (.iload 4, 2) := by decide +kernel
theorem dX3_pick_28 : decode cX3_pick 28 = .ok (.ireturn, 1) := by decide +kernel
theorem dX3_pick_29 : decode cX3_pick 29 = .ok (.iinc 3 1, 3) := by decide +kernel
theorem dX3_pick_32 : decode cX3_pick 32 = .ok (.iinc 4 1, 3) := by decide +kernel
theorem dX3_pick_35 : decode cX3_pick 35 = .ok (.goto (-30), 3) := by decide +kernel
theorem dX3_pick_38 : decode cX3_pick 38 = .ok (.iconst (-1), 1) := by decide +kernel
theorem dX3_pick_39 : decode cX3_pick 39 = .ok (.ireturn, 1) := by decide +kernel
set_option maxRecDepth 20000 in
theorem ggX3_tally_X3_onRow : GoodIn wsX3_tally wsX3_onRow := goodIn_r _ [7, 8, 9, 10, 11, 12] (by decide +kernel) (by decide +kernel)
set_option maxRecDepth 20000 in
theorem gX3_tally_X3_onRow : GoodIn wsX3_tally (wsV RX3 77 RX3 yX3_onRow wsX3_onRow) := goodIn_app (goodIn_of _ (by decide +kernel)) ggX3_tally_X3_onRow
theorem dX3_tally_0 : decode cX3_tally 0 = .ok (.iconst 0, 1) := by decide +kernel
theorem dX3_tally_1 : decode cX3_tally 1 = .ok (.istore_n 3, 1) := by decide +kernel
theorem dX3_tally_2 : decode cX3_tally 2 = .ok (.iload_n 3, 1) := by decide +kernel
theorem dX3_tally_3 : decode cX3_tally 3 = .ok (.aload_n 0, 1) := by decide +kernel
theorem dX3_tally_4 : decode cX3_tally 4 = .ok (.getfield 31, 3) := by decide +kernel
theorem dX3_tally_7 : decode cX3_tally 7 = .ok (.if_icmp .ge 53, 3) := by decide +kernel
theorem dX3_tally_10 : decode cX3_tally 10 = .ok (.iconst 0, 1) := by decide +kernel
theorem dX3_tally_11 : decode cX3_tally 11 = .ok (.istore 4, 2) := by decide +kernel
theorem dX3_tally_13 : decode cX3_tally 13 = .ok (.iconst 0, 1) := by decide +kernel
theorem dX3_tally_14 : decode cX3_tally 14 = .ok (.istore 5, 2) := by decide +kernel
theorem dX3_tally_16 : decode cX3_tally 16 = .ok (.iload 5, 2) := by decide +kernel
theorem dX3_tally_18 : decode cX3_tally 18 = .ok (.aload_n 0, 1) := by decide +kernel
theorem dX3_tally_19 : decode cX3_tally 19 = .ok (.getfield 18, 3) := by decide +kernel
theorem dX3_tally_22 : decode cX3_tally 22 = .ok (.getfield 25, 3) := by decide +kernel
theorem dX3_tally_25 : decode cX3_tally 25 = .ok (.if_icmp .gt 24, 3) := by decide +kernel
theorem dX3_tally_28 : decode cX3_tally 28 = .ok (.aload_n 1, 1) := by decide +kernel
theorem dX3_tally_29 : decode cX3_tally 29 = .ok (.aload_n 0, 1) := by decide +kernel
theorem dX3_tally_30 : decode cX3_tally 30 = .ok (.iload_n 3, 1) := by decide +kernel
theorem dX3_tally_31 : decode cX3_tally 31 = .ok (.iload 5, 2) := by decide +kernel
theorem dX3_tally_33 : decode cX3_tally 33 = .ok (.invokevirtual 77, 3) := by decide +kernel
theorem dX3_tally_36 : decode cX3_tally 36 = .ok (.baload, 1) := by decide +kernel
theorem dX3_tally_37 : decode cX3_tally 37 = .ok (.ifCond .eq 6, 3) := by decide +kernel
theorem dX3_tally_40 : decode cX3_tally 40 = .ok (.iinc 4 1, 3) := by decide +kernel
theorem dX3_tally_43 : decode cX3_tally 43 = .ok (.iinc 5 1, 3) := by decide +kernel
theorem dX3_tally_46 : decode cX3_tally 46 = .ok (.goto (-30), 3) := by decide +kernel
theorem dX3_tally_49 : decode cX3_tally 49 = .ok (.aload_n 2, 1) := by decide +kernel
theorem dX3_tally_50 : decode cX3_tally 50 = .ok (.iload_n 3, 1) := by decide +kernel
theorem dX3_tally_51 : decode cX3_tally 51 = .ok (.iload 4, 2) := by decide +kernel
theorem dX3_tally_53 : decode cX3_tally 53 = .ok (.iastore, 1) := by decide +kernel
theorem dX3_tally_54 : decode cX3_tally 54 = .ok (.iinc 3 1, 3) := by decide +kernel
theorem dX3_tally_57 : decode cX3_tally 57 = .ok (.goto (-55), 3) := by decide +kernel
theorem dX3_tally_60 : decode cX3_tally 60 = .ok (.return_, 1) := by decide +kernel
set_option maxRecDepth 20000 in
theorem ggX3_secants_X3_onRow : GoodIn wsX3_secants wsX3_onRow := goodIn_r _ [6, 7, 8, 9, 10, 11] (by decide +kernel) (by decide +kernel)
set_option maxRecDepth 20000 in
theorem gX3_secants_X3_onRow : GoodIn wsX3_secants (wsV RX3 77 RX3 yX3_onRow wsX3_onRow) := goodIn_app (goodIn_of _ (by decide +kernel)) ggX3_secants_X3_onRow
theorem dX3_secants_0 : decode cX3_secants 0 = .ok (.iconst 0, 1) := by decide +kernel
theorem dX3_secants_1 : decode cX3_secants 1 = .ok (.istore_n 3, 1) := by decide +kernel
theorem dX3_secants_2 : decode cX3_secants 2 = .ok (.iconst 0, 1) := by decide +kernel
theorem dX3_secants_3 : decode cX3_secants 3 = .ok (.istore 4, 2) := by decide +kernel
theorem dX3_secants_5 : decode cX3_secants 5 = .ok (.iload 4, 2) := by decide +kernel
theorem dX3_secants_7 : decode cX3_secants 7 = .ok (.aload_n 0, 1) := by decide +kernel
theorem dX3_secants_8 : decode cX3_secants 8 = .ok (.getfield 18, 3) := by decide +kernel
theorem dX3_secants_11 : decode cX3_secants 11 = .ok (.getfield 25, 3) := by decide +kernel
theorem dX3_secants_14 : decode cX3_secants 14 = .ok (.if_icmp .gt 25, 3) := by decide +kernel
theorem dX3_secants_17 : decode cX3_secants 17 = .ok (.aload_n 2, 1) := by decide +kernel
theorem dX3_secants_18 : decode cX3_secants 18 = .ok (.aload_n 0, 1) := by decide +kernel
theorem dX3_secants_19 : decode cX3_secants 19 = .ok (.iload_n 1, 1) := by decide +kernel
theorem dX3_secants_20 : decode cX3_secants 20 = .ok (.iload 4, 2) := by decide +kernel
theorem dX3_secants_22 : decode cX3_secants 22 = .ok (.invokevirtual 77, 3) := by decide +kernel
theorem dX3_secants_25 : decode cX3_secants 25 = .ok (.iaload, 1) := by decide +kernel
theorem dX3_secants_26 : decode cX3_secants 26 = .ok (.iconst 2, 1) := by decide +kernel
theorem dX3_secants_27 : decode cX3_secants 27 = .ok (.if_icmp .lt 6, 3) := by decide +kernel
theorem dX3_secants_30 : decode cX3_secants 30 = .ok (.iinc 3 1, 3) := by decide +kernel
theorem dX3_secants_33 : decode cX3_secants 33 = .ok (.iinc 4 1, 3) := by decide +kernel
theorem dX3_secants_36 : decode cX3_secants 36 = .ok (.goto (-31), 3) := by decide +kernel
theorem dX3_secants_39 : decode cX3_secants 39 = .ok (.iload_n 3, 1) := by decide +kernel
theorem dX3_secants_40 : decode cX3_secants 40 = .ok (.ireturn, 1) := by decide +kernel
theorem dX4_init_0 : decode cX4_init 0 = .ok (.aload_n 0, 1) := by decide +kernel
theorem dX4_init_1 : decode cX4_init 1 = .ok (.invokespecial 3, 3) := by decide +kernel
theorem dX4_init_4 : decode cX4_init 4 = .ok (.aload_n 0, 1) := by decide +kernel
theorem dX4_init_5 : decode cX4_init 5 = .ok (.bipush 91, 2) := by decide +kernel
theorem dX4_init_7 : decode cX4_init 7 = .ok (.newarray .boolean, 2) := by decide +kernel
theorem dX4_init_9 : decode cX4_init 9 = .ok (.putfield 9, 3) := by decide +kernel
theorem dX4_init_12 : decode cX4_init 12 = .ok (.aload_n 0, 1) := by decide +kernel
theorem dX4_init_13 : decode cX4_init 13 = .ok (.bipush 91, 2) := by decide +kernel
theorem dX4_init_15 : decode cX4_init 15 = .ok (.newarray .boolean, 2) := by decide +kernel
theorem dX4_init_17 : decode cX4_init 17 = .ok (.putfield 15, 3) := by decide +kernel
theorem dX4_init_20 : decode cX4_init 20 = .ok (.aload_n 0, 1) := by decide +kernel
theorem dX4_init_21 : decode cX4_init 21 = .ok (.bipush 91, 2) := by decide +kernel
theorem dX4_init_23 : decode cX4_init 23 = .ok (.newarray .int, 2) := by decide +kernel
theorem dX4_init_25 : decode cX4_init 25 = .ok (.putfield 18, 3) := by decide +kernel
theorem dX4_init_28 : decode cX4_init 28 = .ok (.aload_n 0, 1) := by decide +kernel
theorem dX4_init_29 : decode cX4_init 29 = .ok (.aload_n 1, 1) := by decide +kernel
theorem dX4_init_30 : decode cX4_init 30 = .ok (.putfield 22, 3) := by decide +kernel
theorem dX4_init_33 : decode cX4_init 33 = .ok (.return_, 1) := by decide +kernel
theorem dX4_clear_0 : decode cX4_clear 0 = .ok (.iconst 0, 1) := by decide +kernel
theorem dX4_clear_1 : decode cX4_clear 1 = .ok (.istore_n 1, 1) := by decide +kernel
theorem dX4_clear_2 : decode cX4_clear 2 = .ok (.iload_n 1, 1) := by decide +kernel
theorem dX4_clear_3 : decode cX4_clear 3 = .ok (.bipush 91, 2) := by decide +kernel
theorem dX4_clear_5 : decode cX4_clear 5 = .ok (.if_icmp .ge 16, 3) := by decide +kernel
theorem dX4_clear_8 : decode cX4_clear 8 = .ok (.aload_n 0, 1) := by decide +kernel
theorem dX4_clear_9 : decode cX4_clear 9 = .ok (.getfield 9, 3) := by decide +kernel
theorem dX4_clear_12 : decode cX4_clear 12 = .ok (.iload_n 1, 1) := by decide +kernel
theorem dX4_clear_13 : decode cX4_clear 13 = .ok (.iconst 0, 1) := by decide +kernel
theorem dX4_clear_14 : decode cX4_clear 14 = .ok (.bastore, 1) := by decide +kernel
theorem dX4_clear_15 : decode cX4_clear 15 = .ok (.iinc 1 1, 3) := by decide +kernel
theorem dX4_clear_18 : decode cX4_clear 18 = .ok (.goto (-16), 3) := by decide +kernel
theorem dX4_clear_21 : decode cX4_clear 21 = .ok (.return_, 1) := by decide +kernel
set_option maxRecDepth 20000 in
theorem ggX4_linesWith_X3_tally : GoodIn wsX4_linesWith wsX3_tally := goodIn_r _ [8, 9, 10, 11, 12, 13, 7, 14, 15, 20, 21, 22, 23, 24, 25, 26, 27, 28] (by decide +kernel) (by decide +kernel)
set_option maxRecDepth 20000 in
theorem gX4_linesWith_X3_tally : GoodIn wsX4_linesWith (wsV RX4 26 RX3 yX3_tally wsX3_tally) := goodIn_app (goodIn_of _ (by decide +kernel)) ggX4_linesWith_X3_tally
theorem dX4_linesWith_0 : decode cX4_linesWith 0 = .ok (.aload_n 0, 1) := by decide +kernel
theorem dX4_linesWith_1 : decode cX4_linesWith 1 = .ok (.getfield 22, 3) := by decide +kernel
theorem dX4_linesWith_4 : decode cX4_linesWith 4 = .ok (.aload_n 0, 1) := by decide +kernel
theorem dX4_linesWith_5 : decode cX4_linesWith 5 = .ok (.getfield 9, 3) := by decide +kernel
theorem dX4_linesWith_8 : decode cX4_linesWith 8 = .ok (.aload_n 0, 1) := by decide +kernel
theorem dX4_linesWith_9 : decode cX4_linesWith 9 = .ok (.getfield 18, 3) := by decide +kernel
theorem dX4_linesWith_12 : decode cX4_linesWith 12 = .ok (.invokevirtual 26, 3) := by decide +kernel
theorem dX4_linesWith_15 : decode cX4_linesWith 15 = .ok (.iconst 0, 1) := by decide +kernel
theorem dX4_linesWith_16 : decode cX4_linesWith 16 = .ok (.istore_n 2, 1) := by decide +kernel
theorem dX4_linesWith_17 : decode cX4_linesWith 17 = .ok (.iconst 0, 1) := by decide +kernel
theorem dX4_linesWith_18 : decode cX4_linesWith 18 = .ok (.istore_n 3, 1) := by decide +kernel
theorem dX4_linesWith_19 : decode cX4_linesWith 19 = .ok (.iload_n 3, 1) := by decide +kernel
theorem dX4_linesWith_20 : decode cX4_linesWith 20 = .ok (.aload_n 0, 1) := by decide +kernel
theorem dX4_linesWith_21 : decode cX4_linesWith 21 = .ok (.getfield 22, 3) := by decide +kernel
theorem dX4_linesWith_24 : decode cX4_linesWith 24 = .ok (.getfield 32, 3) := by decide +kernel
theorem dX4_linesWith_27 : decode cX4_linesWith 27 = .ok (.if_icmp .ge 22, 3) := by decide +kernel
theorem dX4_linesWith_30 : decode cX4_linesWith 30 = .ok (.aload_n 0, 1) := by decide +kernel
theorem dX4_linesWith_31 : decode cX4_linesWith 31 = .ok (.getfield 18, 3) := by decide +kernel
theorem dX4_linesWith_34 : decode cX4_linesWith 34 = .ok (.iload_n 3, 1) := by decide +kernel
theorem dX4_linesWith_35 : decode cX4_linesWith 35 = .ok (.iaload, 1) := by decide +kernel
theorem dX4_linesWith_36 : decode cX4_linesWith 36 = .ok (.iload_n 1, 1) := by decide +kernel
theorem dX4_linesWith_37 : decode cX4_linesWith 37 = .ok (.if_icmp .ne 6, 3) := by decide +kernel
theorem dX4_linesWith_40 : decode cX4_linesWith 40 = .ok (.iinc 2 1, 3) := by decide +kernel
theorem dX4_linesWith_43 : decode cX4_linesWith 43 = .ok (.iinc 3 1, 3) := by decide +kernel
theorem dX4_linesWith_46 : decode cX4_linesWith 46 = .ok (.goto (-27), 3) := by decide +kernel
theorem dX4_linesWith_49 : decode cX4_linesWith 49 = .ok (.iload_n 2, 1) := by decide +kernel
theorem dX4_linesWith_50 : decode cX4_linesWith 50 = .ok (.ireturn, 1) := by decide +kernel
set_option maxRecDepth 20000 in
theorem ggX4_mostOnLine_X3_tally : GoodIn wsX4_mostOnLine wsX3_tally := goodIn_r _ [12, 13, 14, 15, 16, 17, 11, 18, 19, 24, 25, 26, 27, 28, 29, 30, 31, 32] (by decide +kernel) (by decide +kernel)
set_option maxRecDepth 20000 in
theorem gX4_mostOnLine_X3_tally : GoodIn wsX4_mostOnLine (wsV RX4 26 RX3 yX3_tally wsX3_tally) := goodIn_app (goodIn_of _ (by decide +kernel)) ggX4_mostOnLine_X3_tally
theorem dX4_mostOnLine_0 : decode cX4_mostOnLine 0 = .ok (.aload_n 0, 1) := by decide +kernel
theorem dX4_mostOnLine_1 : decode cX4_mostOnLine 1 = .ok (.getfield 22, 3) := by decide +kernel
theorem dX4_mostOnLine_4 : decode cX4_mostOnLine 4 = .ok (.aload_n 0, 1) := by decide +kernel
theorem dX4_mostOnLine_5 : decode cX4_mostOnLine 5 = .ok (.getfield 9, 3) := by decide +kernel
theorem dX4_mostOnLine_8 : decode cX4_mostOnLine 8 = .ok (.aload_n 0, 1) := by decide +kernel
theorem dX4_mostOnLine_9 : decode cX4_mostOnLine 9 = .ok (.getfield 18, 3) := by decide +kernel
theorem dX4_mostOnLine_12 : decode cX4_mostOnLine 12 = .ok (.invokevirtual 26, 3) := by decide +kernel
theorem dX4_mostOnLine_15 : decode cX4_mostOnLine 15 = .ok (.iconst 0, 1) := by decide +kernel
theorem dX4_mostOnLine_16 : decode cX4_mostOnLine 16 = .ok (.istore_n 1, 1) := by decide +kernel
theorem dX4_mostOnLine_17 : decode cX4_mostOnLine 17 = .ok (.iconst 0, 1) := by decide +kernel
theorem dX4_mostOnLine_18 : decode cX4_mostOnLine 18 = .ok (.istore_n 2, 1) := by decide +kernel
theorem dX4_mostOnLine_19 : decode cX4_mostOnLine 19 = .ok (.iload_n 2, 1) := by decide +kernel
theorem dX4_mostOnLine_20 : decode cX4_mostOnLine 20 = .ok (.aload_n 0, 1) := by decide +kernel
theorem dX4_mostOnLine_21 : decode cX4_mostOnLine 21 = .ok (.getfield 22, 3) := by decide +kernel
theorem dX4_mostOnLine_24 : decode cX4_mostOnLine 24 = .ok (.getfield 32, 3) := by decide +kernel
theorem dX4_mostOnLine_27 : decode cX4_mostOnLine 27 = .ok (.if_icmp .ge 20, 3) := by decide +kernel
theorem dX4_mostOnLine_30 : decode cX4_mostOnLine 30 = .ok (.iload_n 1, 1) := by decide +kernel
theorem dX4_mostOnLine_31 : decode cX4_mostOnLine 31 = .ok (.aload_n 0, 1) := by decide +kernel
theorem dX4_mostOnLine_32 : decode cX4_mostOnLine 32 = .ok (.getfield 18, 3) := by decide +kernel
theorem dX4_mostOnLine_35 : decode cX4_mostOnLine 35 = .ok (.iload_n 2, 1) := by decide +kernel
theorem dX4_mostOnLine_36 : decode cX4_mostOnLine 36 = .ok (.iaload, 1) := by decide +kernel
theorem dX4_mostOnLine_37 : decode cX4_mostOnLine 37 = .ok (.invokestatic 36, 3) := by decide +kernel
theorem dX4_mostOnLine_40 : decode cX4_mostOnLine 40 = .ok (.istore_n 1, 1) := by decide +kernel
theorem dX4_mostOnLine_41 : decode cX4_mostOnLine 41 = .ok (.iinc 2 1, 3) := by decide +kernel
theorem dX4_mostOnLine_44 : decode cX4_mostOnLine 44 = .ok (.goto (-25), 3) := by decide +kernel
theorem dX4_mostOnLine_47 : decode cX4_mostOnLine 47 = .ok (.iload_n 1, 1) := by decide +kernel
theorem dX4_mostOnLine_48 : decode cX4_mostOnLine 48 = .ok (.ireturn, 1) := by decide +kernel
set_option maxRecDepth 20000 in
theorem ggX4_isArc_X4_mostOnLine : GoodIn wsX4_isArc wsX4_mostOnLine := goodIn_r _ [5, 6, 7, 8, 9, 10, 11, 12, 13, 14, 15, 16, 17, 18, 19, 20, 21, 22, 23, 24, 25, 26, 27, 28, 29, 30, 31, 32, 33, 34, 35, 36, 37] (by decide +kernel) (by decide +kernel)
set_option maxRecDepth 20000 in
theorem gX4_isArc_X4_mostOnLine : GoodIn wsX4_isArc (wsV RX4 42 RX4 yX4_mostOnLine wsX4_mostOnLine) := goodIn_app (goodIn_of _ (by decide +kernel)) ggX4_isArc_X4_mostOnLine
theorem dX4_isArc_0 : decode cX4_isArc 0 = .ok (.aload_n 0, 1) := by decide +kernel
theorem dX4_isArc_1 : decode cX4_isArc 1 = .ok (.invokevirtual 42, 3) := by decide +kernel
theorem dX4_isArc_4 : decode cX4_isArc 4 = .ok (.iconst 2, 1) := by decide +kernel
theorem dX4_isArc_5 : decode cX4_isArc 5 = .ok (.if_icmp .gt 7, 3) := by decide +kernel
theorem dX4_isArc_8 : decode cX4_isArc 8 = .ok (.iconst 1, 1) := by decide +kernel
theorem dX4_isArc_9 : decode cX4_isArc 9 = .ok (.goto 4, 3) := by decide +kernel
theorem dX4_isArc_12 : decode cX4_isArc 12 = .ok (.iconst 0, 1) := by decide +kernel
theorem dX4_isArc_13 : decode cX4_isArc 13 = .ok (.ireturn, 1) := by decide +kernel
set_option maxRecDepth 20000 in
theorem ggX4_blocks_X4_linesWith : GoodIn wsX4_blocks wsX4_linesWith := goodIn_r _ [5, 6, 7, 8, 9, 10, 11, 12, 13, 14, 15, 16, 17, 18, 19, 20, 21, 22, 23, 24, 25, 26, 27, 28, 29, 30, 31, 32, 33] (by decide +kernel) (by decide +kernel)
set_option maxRecDepth 20000 in
theorem gX4_blocks_X4_linesWith : GoodIn wsX4_blocks (wsV RX4 46 RX4 yX4_linesWith wsX4_linesWith) := goodIn_app (goodIn_of _ (by decide +kernel)) ggX4_blocks_X4_linesWith
theorem dX4_blocks_0 : decode cX4_blocks 0 = .ok (.aload_n 0, 1) := by decide +kernel
theorem dX4_blocks_1 : decode cX4_blocks 1 = .ok (.iconst 0, 1) := by decide +kernel
theorem dX4_blocks_2 : decode cX4_blocks 2 = .ok (.invokevirtual 46, 3) := by decide +kernel
theorem dX4_blocks_5 : decode cX4_blocks 5 = .ok (.ifCond .ne 7, 3) := by decide +kernel
theorem dX4_blocks_8 : decode cX4_blocks 8 = .ok (.iconst 1, 1) := by decide +kernel
theorem dX4_blocks_9 : decode cX4_blocks 9 = .ok (.goto 4, 3) := by decide +kernel
theorem dX4_blocks_12 : decode cX4_blocks 12 = .ok (.iconst 0, 1) := by decide +kernel
theorem dX4_blocks_13 : decode cX4_blocks 13 = .ok (.ireturn, 1) := by decide +kernel
set_option maxRecDepth 20000 in
theorem ggX4_spares_X4_blocks : GoodIn wsX4_spares wsX4_blocks := goodIn_r _ [8, 9, 10, 11, 7, 12, 1, 2, 3, 13, 14, 15, 16, 17, 18, 19, 20, 21, 22, 23, 24, 29, 30, 31, 32, 33, 34, 35, 36, 37, 38, 39, 40, 41] (by decide +kernel) (by decide +kernel)
set_option maxRecDepth 20000 in
theorem gX4_spares_X4_blocks : GoodIn wsX4_spares (wsV RX4 50 RX4 yX4_blocks wsX4_blocks) := goodIn_app (goodIn_of _ (by decide +kernel)) ggX4_spares_X4_blocks
set_option maxRecDepth 20000 in
theorem ggX4_spares_X3_secants : GoodIn wsX4_spares wsX3_secants := goodIn_r _ [28, 19, 20, 21, 22, 16, 23, 24, 33, 34, 35, 36, 37, 38, 39, 40, 41] (by decide +kernel) (by decide +kernel)
set_option maxRecDepth 20000 in
theorem gX4_spares_X3_secants : GoodIn wsX4_spares (wsV RX4 54 RX3 yX3_secants wsX3_secants) := goodIn_app (goodIn_of _ (by decide +kernel)) ggX4_spares_X3_secants
theorem dX4_spares_0 : decode cX4_spares 0 = .ok (.aload_n 0, 1) := by decide +kernel
theorem dX4_spares_1 : decode cX4_spares 1 = .ok (.invokevirtual 50, 3) := by decide +kernel
theorem dX4_spares_4 : decode cX4_spares 4 = .ok (.ifCond .ne 5, 3) := by decide +kernel
theorem dX4_spares_7 : decode cX4_spares 7 = .ok (.iconst 0, 1) := by decide +kernel
theorem dX4_spares_8 : decode cX4_spares 8 = .ok (.ireturn, 1) := by decide +kernel
theorem dX4_spares_9 : decode cX4_spares 9 = .ok (.iconst 0, 1) := by decide +kernel
theorem dX4_spares_10 : decode cX4_spares 10 = .ok (.istore_n 1, 1) := by decide +kernel
theorem dX4_spares_11 : decode cX4_spares 11 = .ok (.iconst 0, 1) := by decide +kernel
theorem dX4_spares_12 : decode cX4_spares 12 = .ok (.istore_n 2, 1) := by decide +kernel
theorem dX4_spares_13 : decode cX4_spares 13 = .ok (.iload_n 2, 1) := by decide +kernel
theorem dX4_spares_14 : decode cX4_spares 14 = .ok (.aload_n 0, 1) := by decide +kernel
theorem dX4_spares_15 : decode cX4_spares 15 = .ok (.getfield 22, 3) := by decide +kernel
theorem dX4_spares_18 : decode cX4_spares 18 = .ok (.getfield 32, 3) := by decide +kernel
theorem dX4_spares_21 : decode cX4_spares 21 = .ok (.if_icmp .ge 48, 3) := by decide +kernel
theorem dX4_spares_24 : decode cX4_spares 24 = .ok (.aload_n 0, 1) := by decide +kernel
theorem dX4_spares_25 : decode cX4_spares 25 = .ok (.getfield 9, 3) := by decide +kernel
theorem dX4_spares_28 : decode cX4_spares 28 = .ok (.iload_n 2, 1) := by decide +kernel
theorem dX4_spares_29 : decode cX4_spares 29 = .ok (.baload, 1) := by decide +kernel
theorem dX4_spares_30 : decode cX4_spares 30 = .ok (.ifCond .eq 33, 3) := by decide +kernel
theorem dX4_spares_33 : decode cX4_spares 33 = .ok (.aload_n 0, 1) := by decide +kernel
theorem dX4_spares_34 : decode cX4_spares 34 = .ok (.getfield 22, 3) := by decide +kernel
theorem dX4_spares_37 : decode cX4_spares 37 = .ok (.iload_n 2, 1) := by decide +kernel
theorem dX4_spares_38 : decode cX4_spares 38 = .ok (.aload_n 0, 1) := by decide +kernel
theorem dX4_spares_39 : decode cX4_spares 39 = .ok (.getfield 18, 3) := by decide +kernel
theorem dX4_spares_42 : decode cX4_spares 42 = .ok (.invokevirtual 54, 3) := by decide +kernel
theorem dX4_spares_45 : decode cX4_spares 45 = .ok (.aload_n 0, 1) := by decide +kernel
theorem dX4_spares_46 : decode cX4_spares 46 = .ok (.getfield 22, 3) := by decide +kernel
theorem dX4_spares_49 : decode cX4_spares 49 = .ok (.getfield 58, 3) := by decide +kernel
theorem dX4_spares_52 : decode cX4_spares 52 = .ok (.getfield 62, 3) := by decide +kernel
theorem dX4_spares_55 : decode cX4_spares 55 = .ok (.iconst 1, 1) := by decide +kernel
theorem dX4_spares_56 : decode cX4_spares 56 = .ok (.iadd, 1) := by decide +kernel
theorem dX4_spares_57 : decode cX4_spares 57 = .ok (.if_icmp .ne 6, 3) := by decide +kernel
theorem dX4_spares_60 : decode cX4_spares 60 = .ok (.iinc 1 1, 3) := by decide +kernel
theorem dX4_spares_63 : decode cX4_spares 63 = .ok (.iinc 2 1, 3) := by decide +kernel
theorem dX4_spares_66 : decode cX4_spares 66 = .ok (.goto (-53), 3) := by decide +kernel
theorem dX4_spares_69 : decode cX4_spares 69 = .ok (.iload_n 1, 1) := by decide +kernel
theorem dX4_spares_70 : decode cX4_spares 70 = .ok (.ireturn, 1) := by decide +kernel
set_option maxRecDepth 20000 in
theorem ggX4_arcNewcomers_X4_isArc : GoodIn wsX4_arcNewcomers wsX4_isArc := goodIn_r _ [8, 9, 10, 11, 7, 12, 1, 2, 3, 13, 14, 15, 16, 17, 18, 19, 20, 21, 22, 23, 24, 25, 26, 27, 28, 33, 34, 35, 36, 37, 38, 39, 40, 41, 42, 43, 44, 45] (by decide +kernel) (by decide +kernel)
set_option maxRecDepth 20000 in
theorem gX4_arcNewcomers_X4_isArc : GoodIn wsX4_arcNewcomers (wsV RX4 67 RX4 yX4_isArc wsX4_isArc) := goodIn_app (goodIn_of _ (by decide +kernel)) ggX4_arcNewcomers_X4_isArc
set_option maxRecDepth 20000 in
theorem ggX4_arcNewcomers_X3_secants : GoodIn wsX4_arcNewcomers wsX3_secants := goodIn_r _ [32, 23, 24, 25, 26, 20, 27, 28, 37, 38, 39, 40, 41, 42, 43, 44, 45] (by decide +kernel) (by decide +kernel)
set_option maxRecDepth 20000 in
theorem gX4_arcNewcomers_X3_secants : GoodIn wsX4_arcNewcomers (wsV RX4 54 RX3 yX3_secants wsX3_secants) := goodIn_app (goodIn_of _ (by decide +kernel)) ggX4_arcNewcomers_X3_secants
theorem dX4_arcNewcomers_0 : decode cX4_arcNewcomers 0 = .ok (.aload_n 0, 1) := by decide +kernel
theorem dX4_arcNewcomers_1 : decode cX4_arcNewcomers 1 = .ok (.invokevirtual 67, 3) := by decide +kernel
theorem dX4_arcNewcomers_4 : decode cX4_arcNewcomers 4 = .ok (.ifCond .ne 5, 3) := by decide +kernel
theorem dX4_arcNewcomers_7 : decode cX4_arcNewcomers 7 = .ok (.iconst 0, 1) := by decide +kernel
theorem dX4_arcNewcomers_8 : decode cX4_arcNewcomers 8 = .ok (.ireturn, 1) := by decide +kernel
theorem dX4_arcNewcomers_9 : decode cX4_arcNewcomers 9 = .ok (.iconst 0, 1) := by decide +kernel
theorem dX4_arcNewcomers_10 : decode cX4_arcNewcomers 10 = .ok (.istore_n 1, 1) := by decide +kernel
theorem dX4_arcNewcomers_11 : decode cX4_arcNewcomers 11 = .ok (.iconst 0, 1) := by decide +kernel
theorem dX4_arcNewcomers_12 : decode cX4_arcNewcomers 12 = .ok (.istore_n 2, 1) := by decide +kernel
theorem dX4_arcNewcomers_13 : decode cX4_arcNewcomers 13 = .ok (.iload_n 2, 1) := by decide +kernel
theorem dX4_arcNewcomers_14 : decode cX4_arcNewcomers 14 = .ok (.aload_n 0, 1) := by decide +kernel
theorem dX4_arcNewcomers_15 : decode cX4_arcNewcomers 15 = .ok (.getfield 22, 3) := by decide +kernel
theorem dX4_arcNewcomers_18 : decode cX4_arcNewcomers 18 = .ok (.getfield 32, 3) := by decide +kernel
theorem dX4_arcNewcomers_21 : decode cX4_arcNewcomers 21 = .ok (.if_icmp .ge 36, 3) := by decide +kernel
theorem dX4_arcNewcomers_24 : decode cX4_arcNewcomers 24 = .ok (.aload_n 0, 1) := by decide +kernel
theorem dX4_arcNewcomers_25 : decode cX4_arcNewcomers 25 = .ok (.getfield 9, 3) := by decide +kernel
theorem dX4_arcNewcomers_28 : decode cX4_arcNewcomers 28 = .ok (.iload_n 2, 1) := by decide +kernel
theorem dX4_arcNewcomers_29 : decode cX4_arcNewcomers 29 = .ok (.baload, 1) := by decide +kernel
theorem dX4_arcNewcomers_30 : decode cX4_arcNewcomers 30 = .ok (.ifCond .ne 21, 3) := by decide +kernel
theorem dX4_arcNewcomers_33 : decode cX4_arcNewcomers 33 = .ok (.aload_n 0, 1) := by decide +kernel
theorem dX4_arcNewcomers_34 : decode cX4_arcNewcomers 34 = .ok (.getfield 22, 3) := by decide +kernel
theorem dX4_arcNewcomers_37 : decode cX4_arcNewcomers 37 = .ok (.iload_n 2, 1) := by decide +kernel
theorem dX4_arcNewcomers_38 : decode cX4_arcNewcomers 38 = .ok (.aload_n 0, 1) := by decide +kernel
theorem dX4_arcNewcomers_39 : decode cX4_arcNewcomers 39 = .ok (.getfield 18, 3) := by decide +kernel
theorem dX4_arcNewcomers_42 : decode cX4_arcNewcomers 42 = .ok (.invokevirtual 54, 3) := by decide +kernel
theorem dX4_arcNewcomers_45 : decode cX4_arcNewcomers 45 = .ok (.ifCond .ne 6, 3) := by decide +kernel
theorem dX4_arcNewcomers_48 : decode cX4_arcNewcomers 48 = .ok (.iinc 1 1, 3) := by decide +kernel
theorem dX4_arcNewcomers_51 : decode cX4_arcNewcomers 51 = .ok (.iinc 2 1, 3) := by decide +kernel
theorem dX4_arcNewcomers_54 : decode cX4_arcNewcomers 54 = .ok (.goto (-41), 3) := by decide +kernel
theorem dX4_arcNewcomers_57 : decode cX4_arcNewcomers 57 = .ok (.iload_n 1, 1) := by decide +kernel
theorem dX4_arcNewcomers_58 : decode cX4_arcNewcomers 58 = .ok (.ireturn, 1) := by decide +kernel
set_option maxRecDepth 20000 in
theorem ggX4_growArc_X4_startGrowing : GoodIn wsX4_growArc wsX4_startGrowing := goodIn_r _ [8, 1, 2, 9, 3, 10, 11, 12, 13, 14, 15, 16, 17, 18, 19, 20, 21, 26, 27, 28, 29, 30, 31, 32, 33, 34, 35, 36, 37, 38] (by decide +kernel) (by decide +kernel)
set_option maxRecDepth 20000 in
theorem gX4_growArc_X4_startGrowing : GoodIn wsX4_growArc (wsV RX4 70 RX4 yX4_startGrowing wsX4_startGrowing) := goodIn_app (goodIn_of _ (by decide +kernel)) ggX4_growArc_X4_startGrowing
set_option maxRecDepth 20000 in
theorem ggX4_growArc_X3_secants : GoodIn wsX4_growArc wsX3_secants := goodIn_r _ [25, 16, 17, 18, 19, 13, 20, 21, 30, 31, 32, 33, 34, 35, 36, 37, 38] (by decide +kernel) (by decide +kernel)
set_option maxRecDepth 20000 in
theorem gX4_growArc_X3_secants : GoodIn wsX4_growArc (wsV RX4 54 RX3 yX3_secants wsX3_secants) := goodIn_app (goodIn_of _ (by decide +kernel)) ggX4_growArc_X3_secants
set_option maxRecDepth 20000 in
theorem ggX4_growArc_X3_tally : GoodIn wsX4_growArc wsX3_tally := goodIn_r _ [14, 15, 16, 17, 18, 19, 13, 20, 21, 30, 31, 32, 33, 34, 35, 36, 37, 38] (by decide +kernel) (by decide +kernel)
set_option maxRecDepth 20000 in
theorem gX4_growArc_X3_tally : GoodIn wsX4_growArc (wsV RX4 26 RX3 yX3_tally wsX3_tally) := goodIn_app (goodIn_of _ (by decide +kernel)) ggX4_growArc_X3_tally
theorem dX4_growArc_0 : decode cX4_growArc 0 = .ok (.aload_n 0, 1) := by decide +kernel
theorem dX4_growArc_1 : decode cX4_growArc 1 = .ok (.invokevirtual 70, 3) := by decide +kernel
theorem dX4_growArc_4 : decode cX4_growArc 4 = .ok (.iconst 0, 1) := by decide +kernel
theorem dX4_growArc_5 : decode cX4_growArc 5 = .ok (.istore_n 1, 1) := by decide +kernel
theorem dX4_growArc_6 : decode cX4_growArc 6 = .ok (.iload_n 1, 1) := by decide +kernel
theorem dX4_growArc_7 : decode cX4_growArc 7 = .ok (.aload_n 0, 1) := by decide +kernel
theorem dX4_growArc_8 : decode cX4_growArc 8 = .ok (.getfield 22, 3) := by decide +kernel
theorem dX4_growArc_11 : decode cX4_growArc 11 = .ok (.getfield 32, 3) := by decide +kernel
theorem dX4_growArc_14 : decode cX4_growArc 14 = .ok (.if_icmp .ge 55, 3) := by decide +kernel
theorem dX4_growArc_17 : decode cX4_growArc 17 = .ok (.aload_n 0, 1) := by decide +kernel
theorem dX4_growArc_18 : decode cX4_growArc 18 = .ok (.getfield 15, 3) := by decide +kernel
theorem dX4_growArc_21 : decode cX4_growArc 21 = .ok (.iload_n 1, 1) := by decide +kernel
theorem dX4_growArc_22 : decode cX4_growArc 22 = .ok (.baload, 1) := by decide +kernel
theorem dX4_growArc_23 : decode cX4_growArc 23 = .ok (.ifCond .ne 40, 3) := by decide +kernel
theorem dX4_growArc_26 : decode cX4_growArc 26 = .ok (.aload_n 0, 1) := by decide +kernel
theorem dX4_growArc_27 : decode cX4_growArc 27 = .ok (.getfield 22, 3) := by decide +kernel
theorem dX4_growArc_30 : decode cX4_growArc 30 = .ok (.iload_n 1, 1) := by decide +kernel
theorem dX4_growArc_31 : decode cX4_growArc 31 = .ok (.aload_n 0, 1) := by decide +kernel
theorem dX4_growArc_32 : decode cX4_growArc 32 = .ok (.getfield 18, 3) := by decide +kernel
theorem dX4_growArc_35 : decode cX4_growArc 35 = .ok (.invokevirtual 54, 3) := by decide +kernel
theorem dX4_growArc_38 : decode cX4_growArc 38 = .ok (.ifCond .ne 25, 3) := by decide +kernel
theorem dX4_growArc_41 : decode cX4_growArc 41 = .ok (.aload_n 0, 1) := by decide +kernel
theorem dX4_growArc_42 : decode cX4_growArc 42 = .ok (.getfield 15, 3) := by decide +kernel
theorem dX4_growArc_45 : decode cX4_growArc 45 = .ok (.iload_n 1, 1) := by decide +kernel
theorem dX4_growArc_46 : decode cX4_growArc 46 = .ok (.iconst 1, 1) := by decide +kernel
theorem dX4_growArc_47 : decode cX4_growArc 47 = .ok (.bastore, 1) := by decide +kernel
theorem dX4_growArc_48 : decode cX4_growArc 48 = .ok (.aload_n 0, 1) := by decide +kernel
theorem dX4_growArc_49 : decode cX4_growArc 49 = .ok (.getfield 22, 3) := by decide +kernel
theorem dX4_growArc_52 : decode cX4_growArc 52 = .ok (.aload_n 0, 1) := by decide +kernel
theorem dX4_growArc_53 : decode cX4_growArc 53 = .ok (.getfield 15, 3) := by decide +kernel
theorem dX4_growArc_56 : decode cX4_growArc 56 = .ok (.aload_n 0, 1) := by decide +kernel
theorem dX4_growArc_57 : decode cX4_growArc 57 = .ok (.getfield 18, 3) := by decide +kernel
theorem dX4_growArc_60 : decode cX4_growArc 60 = .ok (.invokevirtual 26, 3) := by decide +kernel
theorem dX4_growArc_63 : decode cX4_growArc 63 = .ok (.iinc 1 1, 3) := by decide +kernel
theorem dX4_growArc_66 : decode cX4_growArc 66 = .ok (.goto (-60), 3) := by decide +kernel
theorem dX4_growArc_69 : decode cX4_growArc 69 = .ok (.aload_n 0, 1) := by decide +kernel
theorem dX4_growArc_70 : decode cX4_growArc 70 = .ok (.getfield 15, 3) := by decide +kernel
theorem dX4_growArc_73 : decode cX4_growArc 73 = .ok (.areturn, 1) := by decide +kernel
set_option maxRecDepth 20000 in
theorem ggX4_close_X4_startGrowing : GoodIn wsX4_close wsX4_startGrowing := goodIn_r _ [8, 1, 2, 9, 3, 10, 11, 12, 13, 14, 15, 16, 17, 18, 19, 20, 21, 30, 31, 32, 33, 34, 35, 36, 37, 38, 39, 40, 41, 42] (by decide +kernel) (by decide +kernel)
set_option maxRecDepth 20000 in
theorem gX4_close_X4_startGrowing : GoodIn wsX4_close (wsV RX4 70 RX4 yX4_startGrowing wsX4_startGrowing) := goodIn_app (goodIn_of _ (by decide +kernel)) ggX4_close_X4_startGrowing
set_option maxRecDepth 20000 in
theorem ggX4_close_X4_addCrossings : GoodIn wsX4_close wsX4_addCrossings := goodIn_r _ [25, 1, 2, 3, 26, 27, 28, 13, 29, 16, 17, 18, 19, 20, 21, 30, 31, 32, 33, 34, 35, 36, 37, 38, 39, 40, 41, 42] (by decide +kernel) (by decide +kernel)
set_option maxRecDepth 20000 in
theorem gX4_close_X4_addCrossings : GoodIn wsX4_close (wsV RX4 73 RX4 yX4_addCrossings wsX4_addCrossings) := goodIn_app (goodIn_of _ (by decide +kernel)) ggX4_close_X4_addCrossings
set_option maxRecDepth 20000 in
theorem ggX4_close_X3_tally : GoodIn wsX4_close wsX3_tally := goodIn_r _ [14, 15, 16, 17, 18, 19, 13, 20, 21, 34, 35, 36, 37, 38, 39, 40, 41, 42] (by decide +kernel) (by decide +kernel)
set_option maxRecDepth 20000 in
theorem gX4_close_X3_tally : GoodIn wsX4_close (wsV RX4 26 RX3 yX3_tally wsX3_tally) := goodIn_app (goodIn_of _ (by decide +kernel)) ggX4_close_X3_tally
theorem dX4_close_0 : decode cX4_close 0 = .ok (.aload_n 0, 1) := by decide +kernel
theorem dX4_close_1 : decode cX4_close 1 = .ok (.invokevirtual 70, 3) := by decide +kernel
theorem dX4_close_4 : decode cX4_close 4 = .ok (.iconst 1, 1) := by decide +kernel
theorem dX4_close_5 : decode cX4_close 5 = .ok (.istore_n 1, 1) := by decide +kernel
theorem dX4_close_6 : decode cX4_close 6 = .ok (.iconst 0, 1) := by decide +kernel
theorem dX4_close_7 : decode cX4_close 7 = .ok (.istore_n 2, 1) := by decide +kernel
theorem dX4_close_8 : decode cX4_close 8 = .ok (.iload_n 1, 1) := by decide +kernel
theorem dX4_close_9 : decode cX4_close 9 = .ok (.ifCond .eq 40, 3) := by decide +kernel
theorem dX4_close_12 : decode cX4_close 12 = .ok (.iload_n 2, 1) := by decide +kernel
theorem dX4_close_13 : decode cX4_close 13 = .ok (.aload_n 0, 1) := by decide +kernel
theorem dX4_close_14 : decode cX4_close 14 = .ok (.getfield 22, 3) := by decide +kernel
theorem dX4_close_17 : decode cX4_close 17 = .ok (.getfield 32, 3) := by decide +kernel
theorem dX4_close_20 : decode cX4_close 20 = .ok (.if_icmp .ge 29, 3) := by decide +kernel
theorem dX4_close_23 : decode cX4_close 23 = .ok (.aload_n 0, 1) := by decide +kernel
theorem dX4_close_24 : decode cX4_close 24 = .ok (.invokevirtual 73, 3) := by decide +kernel
theorem dX4_close_27 : decode cX4_close 27 = .ok (.istore_n 1, 1) := by decide +kernel
theorem dX4_close_28 : decode cX4_close 28 = .ok (.aload_n 0, 1) := by decide +kernel
theorem dX4_close_29 : decode cX4_close 29 = .ok (.getfield 22, 3) := by decide +kernel
theorem dX4_close_32 : decode cX4_close 32 = .ok (.aload_n 0, 1) := by decide +kernel
theorem dX4_close_33 : decode cX4_close 33 = .ok (.getfield 15, 3) := by decide +kernel
theorem dX4_close_36 : decode cX4_close 36 = .ok (.aload_n 0, 1) := by decide +kernel
theorem dX4_close_37 : decode cX4_close 37 = .ok (.getfield 18, 3) := by decide +kernel
theorem dX4_close_40 : decode cX4_close 40 = .ok (.invokevirtual 26, 3) := by decide +kernel
theorem dX4_close_43 : decode cX4_close 43 = .ok (.iinc 2 1, 3) := by decide +kernel
theorem dX4_close_46 : decode cX4_close 46 = .ok (.goto (-38), 3) := by decide +kernel
theorem dX4_close_49 : decode cX4_close 49 = .ok (.aload_n 0, 1) := by decide +kernel
theorem dX4_close_50 : decode cX4_close 50 = .ok (.getfield 15, 3) := by decide +kernel
theorem dX4_close_53 : decode cX4_close 53 = .ok (.areturn, 1) := by decide +kernel
set_option maxRecDepth 20000 in
theorem ggX4_startGrowing_X3_tally : GoodIn wsX4_startGrowing wsX3_tally := goodIn_r _ [9, 10, 11, 12, 13, 14, 8, 15, 16, 21, 22, 23, 24, 25, 26, 27, 28, 29] (by decide +kernel) (by decide +kernel)
set_option maxRecDepth 20000 in
theorem gX4_startGrowing_X3_tally : GoodIn wsX4_startGrowing (wsV RX4 26 RX3 yX3_tally wsX3_tally) := goodIn_app (goodIn_of _ (by decide +kernel)) ggX4_startGrowing_X3_tally
theorem dX4_startGrowing_0 : decode cX4_startGrowing 0 = .ok (.iconst 0, 1) := by decide +kernel
theorem dX4_startGrowing_1 : decode cX4_startGrowing 1 = .ok (.istore_n 1, 1) := by decide +kernel
theorem dX4_startGrowing_2 : decode cX4_startGrowing 2 = .ok (.iload_n 1, 1) := by decide +kernel
theorem dX4_startGrowing_3 : decode cX4_startGrowing 3 = .ok (.aload_n 0, 1) := by decide +kernel
theorem dX4_startGrowing_4 : decode cX4_startGrowing 4 = .ok (.getfield 22, 3) := by decide +kernel
theorem dX4_startGrowing_7 : decode cX4_startGrowing 7 = .ok (.getfield 32, 3) := by decide +kernel
theorem dX4_startGrowing_10 : decode cX4_startGrowing 10 = .ok (.if_icmp .ge 21, 3) := by decide +kernel
theorem dX4_startGrowing_13 : decode cX4_startGrowing 13 = .ok (.aload_n 0, 1) := by decide +kernel
theorem dX4_startGrowing_14 : decode cX4_startGrowing 14 = .ok (.getfield 15, 3) := by decide +kernel
theorem dX4_startGrowing_17 : decode cX4_startGrowing 17 = .ok (.iload_n 1, 1) := by decide +kernel
theorem dX4_startGrowing_18 : decode cX4_startGrowing 18 = .ok (.aload_n 0, 1) := by decide +kernel
theorem dX4_startGrowing_19 : decode cX4_startGrowing 19 = .ok (.getfield 9, 3) := by decide +kernel
theorem dX4_startGrowing_22 : decode cX4_startGrowing 22 = .ok (.iload_n 1, 1) := by decide +kernel
theorem dX4_startGrowing_23 : decode cX4_startGrowing 23 = .ok (.baload, 1) := by decide +kernel
theorem dX4_startGrowing_24 : decode cX4_startGrowing 24 = .ok (.bastore, 1) := by decide +kernel
theorem dX4_startGrowing_25 : decode cX4_startGrowing 25 = .ok (.iinc 1 1, 3) := by decide +kernel
theorem dX4_startGrowing_28 : decode cX4_startGrowing 28 = .ok (.goto (-26), 3) := by decide +kernel
theorem dX4_startGrowing_31 : decode cX4_startGrowing 31 = .ok (.aload_n 0, 1) := by decide +kernel
theorem dX4_startGrowing_32 : decode cX4_startGrowing 32 = .ok (.getfield 22, 3) := by decide +kernel
theorem dX4_startGrowing_35 : decode cX4_startGrowing 35 = .ok (.aload_n 0, 1) := by decide +kernel
theorem dX4_startGrowing_36 : decode cX4_startGrowing 36 = .ok (.getfield 15, 3) := by decide +kernel
theorem dX4_startGrowing_39 : decode cX4_startGrowing 39 = .ok (.aload_n 0, 1) := by decide +kernel
theorem dX4_startGrowing_40 : decode cX4_startGrowing 40 = .ok (.getfield 18, 3) := by decide +kernel
theorem dX4_startGrowing_43 : decode cX4_startGrowing 43 = .ok (.invokevirtual 26, 3) := by decide +kernel
theorem dX4_startGrowing_46 : decode cX4_startGrowing 46 = .ok (.return_, 1) := by decide +kernel
set_option maxRecDepth 20000 in
theorem ggX4_addCrossings_X3_secants : GoodIn wsX4_addCrossings wsX3_secants := goodIn_r _ [8, 9, 10, 11, 12, 7, 13, 14, 19, 20, 21, 22, 23, 24, 25, 26, 27] (by decide +kernel) (by decide +kernel)
set_option maxRecDepth 20000 in
theorem gX4_addCrossings_X3_secants : GoodIn wsX4_addCrossings (wsV RX4 54 RX3 yX3_secants wsX3_secants) := goodIn_app (goodIn_of _ (by decide +kernel)) ggX4_addCrossings_X3_secants
theorem dX4_addCrossings_0 : decode cX4_addCrossings 0 = .ok (.iconst 0, 1) := by decide +kernel
theorem dX4_addCrossings_1 : decode cX4_addCrossings 1 = .ok (.istore_n 1, 1) := by decide +kernel
theorem dX4_addCrossings_2 : decode cX4_addCrossings 2 = .ok (.iconst 0, 1) := by decide +kernel
theorem dX4_addCrossings_3 : decode cX4_addCrossings 3 = .ok (.istore_n 2, 1) := by decide +kernel
theorem dX4_addCrossings_4 : decode cX4_addCrossings 4 = .ok (.iload_n 2, 1) := by decide +kernel
theorem dX4_addCrossings_5 : decode cX4_addCrossings 5 = .ok (.aload_n 0, 1) := by decide +kernel
theorem dX4_addCrossings_6 : decode cX4_addCrossings 6 = .ok (.getfield 22, 3) := by decide +kernel
theorem dX4_addCrossings_9 : decode cX4_addCrossings 9 = .ok (.getfield 32, 3) := by decide +kernel
theorem dX4_addCrossings_12 : decode cX4_addCrossings 12 = .ok (.if_icmp .ge 43, 3) := by decide +kernel
theorem dX4_addCrossings_15 : decode cX4_addCrossings 15 = .ok (.aload_n 0, 1) := by decide +kernel
theorem dX4_addCrossings_16 : decode cX4_addCrossings 16 = .ok (.getfield 15, 3) := by decide +kernel
theorem dX4_addCrossings_19 : decode cX4_addCrossings 19 = .ok (.iload_n 2, 1) := by decide +kernel
theorem dX4_addCrossings_20 : decode cX4_addCrossings 20 = .ok (.baload, 1) := by decide +kernel
theorem dX4_addCrossings_21 : decode cX4_addCrossings 21 = .ok (.ifCond .ne 28, 3) := by decide +kernel
theorem dX4_addCrossings_24 : decode cX4_addCrossings 24 = .ok (.aload_n 0, 1) := by decide +kernel
theorem dX4_addCrossings_25 : decode cX4_addCrossings 25 = .ok (.getfield 22, 3) := by decide +kernel
theorem dX4_addCrossings_28 : decode cX4_addCrossings 28 = .ok (.iload_n 2, 1) := by decide +kernel
theorem dX4_addCrossings_29 : decode cX4_addCrossings 29 = .ok (.aload_n 0, 1) := by decide +kernel
theorem dX4_addCrossings_30 : decode cX4_addCrossings 30 = .ok (.getfield 18, 3) := by decide +kernel
theorem dX4_addCrossings_33 : decode cX4_addCrossings 33 = .ok (.invokevirtual 54, 3) := by decide +kernel
theorem dX4_addCrossings_36 : decode cX4_addCrossings 36 = .ok (.iconst 2, 1) := by decide +kernel
theorem dX4_addCrossings_37 : decode cX4_addCrossings 37 = .ok (.if_icmp .lt 12, 3) := by decide +kernel
theorem dX4_addCrossings_40 : decode cX4_addCrossings 40 = .ok (.aload_n 0, 1) := by decide +kernel
theorem dX4_addCrossings_41 : decode cX4_addCrossings 41 = .ok (.getfield 15, 3) := by decide +kernel
theorem dX4_addCrossings_44 : decode cX4_addCrossings 44 = .ok (.iload_n 2, 1) := by decide +kernel
theorem dX4_addCrossings_45 : decode cX4_addCrossings 45 = .ok (.iconst 1, 1) := by decide +kernel
theorem dX4_addCrossings_46 : decode cX4_addCrossings 46 = .ok (.bastore, 1) := by decide +kernel
theorem dX4_addCrossings_47 : decode cX4_addCrossings 47 = .ok (.iconst 1, 1) := by decide +kernel
theorem dX4_addCrossings_48 : decode cX4_addCrossings 48 = .ok (.istore_n 1, 1) := by decide +kernel
theorem dX4_addCrossings_49 : decode cX4_addCrossings 49 = .ok (.iinc 2 1, 3) := by decide +kernel
theorem dX4_addCrossings_52 : decode cX4_addCrossings 52 = .ok (.goto (-48), 3) := by decide +kernel
theorem dX4_addCrossings_55 : decode cX4_addCrossings 55 = .ok (.iload_n 1, 1) := by decide +kernel
theorem dX4_addCrossings_56 : decode cX4_addCrossings 56 = .ok (.ireturn, 1) := by decide +kernel
theorem dX5_init_0 : decode cX5_init 0 = .ok (.aload_n 0, 1) := by decide +kernel
theorem dX5_init_1 : decode cX5_init 1 = .ok (.invokespecial 3, 3) := by decide +kernel
theorem dX5_init_4 : decode cX5_init 4 = .ok (.aload_n 0, 1) := by decide +kernel
theorem dX5_init_5 : decode cX5_init 5 = .ok (.iconst 1, 1) := by decide +kernel
theorem dX5_init_6 : decode cX5_init 6 = .ok (.putfield 9, 3) := by decide +kernel
theorem dX5_init_9 : decode cX5_init 9 = .ok (.aload_n 0, 1) := by decide +kernel
theorem dX5_init_10 : decode cX5_init 10 = .ok (.bipush 13, 2) := by decide +kernel
theorem dX5_init_12 : decode cX5_init 12 = .ok (.newarray .int, 2) := by decide +kernel
theorem dX5_init_14 : decode cX5_init 14 = .ok (.putfield 15, 3) := by decide +kernel
theorem dX5_init_17 : decode cX5_init 17 = .ok (.return_, 1) := by decide +kernel
theorem dX5_empty_0 : decode cX5_empty 0 = .ok (.aload_n 0, 1) := by decide +kernel
theorem dX5_empty_1 : decode cX5_empty 1 = .ok (.iload_n 1, 1) := by decide +kernel
theorem dX5_empty_2 : decode cX5_empty 2 = .ok (.putfield 9, 3) := by decide +kernel
theorem dX5_empty_5 : decode cX5_empty 5 = .ok (.iconst 0, 1) := by decide +kernel
theorem dX5_empty_6 : decode cX5_empty 6 = .ok (.istore_n 2, 1) := by decide +kernel
theorem dX5_empty_7 : decode cX5_empty 7 = .ok (.iload_n 2, 1) := by decide +kernel
theorem dX5_empty_8 : decode cX5_empty 8 = .ok (.bipush 13, 2) := by decide +kernel
theorem dX5_empty_10 : decode cX5_empty 10 = .ok (.if_icmp .ge 16, 3) := by decide +kernel
theorem dX5_empty_13 : decode cX5_empty 13 = .ok (.aload_n 0, 1) := by decide +kernel
theorem dX5_empty_14 : decode cX5_empty 14 = .ok (.getfield 15, 3) := by decide +kernel
theorem dX5_empty_17 : decode cX5_empty 17 = .ok (.iload_n 2, 1) := by decide +kernel
theorem dX5_empty_18 : decode cX5_empty 18 = .ok (.iconst 0, 1) := by decide +kernel
theorem dX5_empty_19 : decode cX5_empty 19 = .ok (.iastore, 1) := by decide +kernel
theorem dX5_empty_20 : decode cX5_empty 20 = .ok (.iinc 2 1, 3) := by decide +kernel
theorem dX5_empty_23 : decode cX5_empty 23 = .ok (.goto (-16), 3) := by decide +kernel
theorem dX5_empty_26 : decode cX5_empty 26 = .ok (.return_, 1) := by decide +kernel
theorem dX5_has_0 : decode cX5_has 0 = .ok (.iload_n 1, 1) := by decide +kernel
theorem dX5_has_1 : decode cX5_has 1 = .ok (.ifCond .lt 15, 3) := by decide +kernel
theorem dX5_has_4 : decode cX5_has 4 = .ok (.iload_n 1, 1) := by decide +kernel
theorem dX5_has_5 : decode cX5_has 5 = .ok (.aload_n 0, 1) := by decide +kernel
theorem dX5_has_6 : decode cX5_has 6 = .ok (.getfield 9, 3) := by decide +kernel
theorem dX5_has_9 : decode cX5_has 9 = .ok (.if_icmp .ge 7, 3) := by decide +kernel
theorem dX5_has_12 : decode cX5_has 12 = .ok (.iconst 1, 1) := by decide +kernel
theorem dX5_has_13 : decode cX5_has 13 = .ok (.goto 4, 3) := by decide +kernel
theorem dX5_has_16 : decode cX5_has 16 = .ok (.iconst 0, 1) := by decide +kernel
theorem dX5_has_17 : decode cX5_has 17 = .ok (.ireturn, 1) := by decide +kernel
theorem dX5_isMarked_0 : decode cX5_isMarked 0 = .ok (.aload_n 0, 1) := by decide +kernel
theorem dX5_isMarked_1 : decode cX5_isMarked 1 = .ok (.getfield 15, 3) := by decide +kernel
theorem dX5_isMarked_4 : decode cX5_isMarked 4 = .ok (.iload_n 1, 1) := by decide +kernel
theorem dX5_isMarked_5 : decode cX5_isMarked 5 = .ok (.iaload, 1) := by decide +kernel
theorem dX5_isMarked_6 : decode cX5_isMarked 6 = .ok (.iload_n 2, 1) := by decide +kernel
theorem dX5_isMarked_7 : decode cX5_isMarked 7 = .ok (.ishr, 1) := by decide +kernel
theorem dX5_isMarked_8 : decode cX5_isMarked 8 = .ok (.iconst 1, 1) := by decide +kernel
theorem dX5_isMarked_9 : decode cX5_isMarked 9 = .ok (.iand, 1) := by decide +kernel
theorem dX5_isMarked_10 : decode cX5_isMarked 10 = .ok (.iconst 1, 1) := by decide +kernel
theorem dX5_isMarked_11 : decode cX5_isMarked 11 = .ok (.if_icmp .ne 7, 3) := by decide +kernel
theorem dX5_isMarked_14 : decode cX5_isMarked 14 = .ok (.iconst 1, 1) := by decide +kernel
theorem dX5_isMarked_15 : decode cX5_isMarked 15 = .ok (.goto 4, 3) := by decide +kernel
theorem dX5_isMarked_18 : decode cX5_isMarked 18 = .ok (.iconst 0, 1) := by decide +kernel
theorem dX5_isMarked_19 : decode cX5_isMarked 19 = .ok (.ireturn, 1) := by decide +kernel
theorem dX5_setMark_0 : decode cX5_setMark 0 = .ok (.aload_n 0, 1) := by decide +kernel
theorem dX5_setMark_1 : decode cX5_setMark 1 = .ok (.getfield 15, 3) := by decide +kernel
theorem dX5_setMark_4 : decode cX5_setMark 4 = .ok (.iload_n 1, 1) := by decide +kernel
theorem dX5_setMark_5 : decode cX5_setMark 5 = .ok (.iload_n 3, 1) := by decide +kernel
theorem dX5_setMark_6 : decode cX5_setMark 6 = .ok (.ifCond .eq 16, 3) := by decide +kernel
theorem dX5_setMark_9 : decode cX5_setMark 9 = .ok (.aload_n 0, 1) := by decide +kernel
theorem dX5_setMark_10 : decode cX5_setMark 10 = .ok (.getfield 15, 3) := by decide +kernel
theorem dX5_setMark_13 : decode cX5_setMark 13 = .ok (.iload_n 1, 1) := by decide +kernel
theorem dX5_setMark_14 : decode cX5_setMark 14 = .ok (.iaload, 1) := by decide +kernel
theorem dX5_setMark_15 : decode cX5_setMark 15 = .ok (.iconst 1, 1) := by decide +kernel
theorem dX5_setMark_16 : decode cX5_setMark 16 = .ok (.iload_n 2, 1) := by decide +kernel
theorem dX5_setMark_17 : decode cX5_setMark 17 = .ok (.ishl, 1) := by decide +kernel
theorem dX5_setMark_18 : decode cX5_setMark 18 = .ok (.ior, 1) := by decide +kernel
theorem dX5_setMark_19 : decode cX5_setMark 19 = .ok (.goto 15, 3) := by decide +kernel
theorem dX5_setMark_22 : decode cX5_setMark 22 = .ok (.aload_n 0, 1) := by decide +kernel
theorem dX5_setMark_23 : decode cX5_setMark 23 = .ok (.getfield 15, 3) := by decide +kernel
theorem dX5_setMark_26 : decode cX5_setMark 26 = .ok (.iload_n 1, 1) := by decide +kernel
theorem dX5_setMark_27 : decode cX5_setMark 27 = .ok (.iaload, 1) := by decide +kernel
theorem dX5_setMark_28 : decode cX5_setMark 28 = .ok (.iconst 1, 1) := by decide +kernel
theorem dX5_setMark_29 : decode cX5_setMark 29 = .ok (.iload_n 2, 1) := by decide +kernel
theorem dX5_setMark_30 : decode cX5_setMark 30 = .ok (.ishl, 1) := by decide +kernel
theorem dX5_setMark_31 : decode cX5_setMark 31 = .ok (.iconst (-1), 1) := by decide +kernel
theorem dX5_setMark_32 : decode cX5_setMark 32 = .ok (.ixor, 1) := by decide +kernel
theorem dX5_setMark_33 : decode cX5_setMark 33 = .ok (.iand, 1) := by decide +kernel
theorem dX5_setMark_34 : decode cX5_setMark 34 = .ok (.iastore, 1) := by decide +kernel
theorem dX5_setMark_35 : decode cX5_setMark 35 = .ok (.return_, 1) := by decide +kernel
set_option maxRecDepth 20000 in
theorem ggX5_marks_J6_bitCount_0f7a4 : GoodIn wsX5_marks wsJ6_bitCount_0f7a4 := goodIn_r _ [6, 7, 8, 9] (by decide +kernel) (by decide +kernel)
set_option maxRecDepth 20000 in
theorem gX5_marks_J6_bitCount_0f7a4 : GoodIn wsX5_marks (va_wsS RX5 19 yJ6_bitCount_0f7a4 wsJ6_bitCount_0f7a4) := goodIn_app (goodIn_of _ (by decide +kernel)) ggX5_marks_J6_bitCount_0f7a4
theorem dX5_marks_0 : decode cX5_marks 0 = .ok (.iconst 0, 1) := by decide +kernel
theorem dX5_marks_1 : decode cX5_marks 1 = .ok (.istore_n 1, 1) := by decide +kernel
theorem dX5_marks_2 : decode cX5_marks 2 = .ok (.iconst 0, 1) := by decide +kernel
theorem dX5_marks_3 : decode cX5_marks 3 = .ok (.istore_n 2, 1) := by decide +kernel
theorem dX5_marks_4 : decode cX5_marks 4 = .ok (.iload_n 2, 1) := by decide +kernel
theorem dX5_marks_5 : decode cX5_marks 5 = .ok (.aload_n 0, 1) := by decide +kernel
theorem dX5_marks_6 : decode cX5_marks 6 = .ok (.getfield 9, 3) := by decide +kernel
theorem dX5_marks_9 : decode cX5_marks 9 = .ok (.if_icmp .ge 21, 3) := by decide +kernel
theorem dX5_marks_12 : decode cX5_marks 12 = .ok (.iload_n 1, 1) := by decide +kernel
theorem dX5_marks_13 : decode cX5_marks 13 = .ok (.aload_n 0, 1) := by decide +kernel
theorem dX5_marks_14 : decode cX5_marks 14 = .ok (.getfield 15, 3) := by decide +kernel
theorem dX5_marks_17 : decode cX5_marks 17 = .ok (.iload_n 2, 1) := by decide +kernel
theorem dX5_marks_18 : decode cX5_marks 18 = .ok (.iaload, 1) := by decide +kernel
theorem dX5_marks_19 : decode cX5_marks 19 = .ok (.invokestatic 19, 3) := by decide +kernel
theorem dX5_marks_22 : decode cX5_marks 22 = .ok (.iadd, 1) := by decide +kernel
theorem dX5_marks_23 : decode cX5_marks 23 = .ok (.istore_n 1, 1) := by decide +kernel
theorem dX5_marks_24 : decode cX5_marks 24 = .ok (.iinc 2 1, 3) := by decide +kernel
theorem dX5_marks_27 : decode cX5_marks 27 = .ok (.goto (-23), 3) := by decide +kernel
theorem dX5_marks_30 : decode cX5_marks 30 = .ok (.iload_n 1, 1) := by decide +kernel
theorem dX5_marks_31 : decode cX5_marks 31 = .ok (.ireturn, 1) := by decide +kernel
set_option maxRecDepth 20000 in
theorem ggX5_takePlane_X5_empty : GoodIn wsX5_takePlane wsX5_empty := goodIn_r _ [10, 5, 11, 46, 47] (by decide +kernel) (by decide +kernel)
set_option maxRecDepth 20000 in
theorem gX5_takePlane_X5_empty : GoodIn wsX5_takePlane (wsV RX5 36 RX5 yX5_empty wsX5_empty) := goodIn_app (goodIn_of _ (by decide +kernel)) ggX5_takePlane_X5_empty
set_option maxRecDepth 20000 in
theorem ggX5_takePlane_X3_isOn : GoodIn wsX5_takePlane wsX3_isOn := goodIn_r _ [16, 17, 18, 19, 15, 20, 21, 22, 23, 24, 25, 26, 27, 28, 29, 30, 31, 32, 33, 34, 35, 36, 37, 42, 43, 44, 45, 48, 49, 50, 51, 52] (by decide +kernel) (by decide +kernel)
set_option maxRecDepth 20000 in
theorem gX5_takePlane_X3_isOn : GoodIn wsX5_takePlane (wsV RX5 40 RX3 yX3_isOn wsX3_isOn) := goodIn_app (goodIn_of _ (by decide +kernel)) ggX5_takePlane_X3_isOn
set_option maxRecDepth 20000 in
theorem ggX5_takePlane_X5_setMark : GoodIn wsX5_takePlane wsX5_setMark := goodIn_r _ [41, 11, 46, 47] (by decide +kernel) (by decide +kernel)
set_option maxRecDepth 20000 in
theorem gX5_takePlane_X5_setMark : GoodIn wsX5_takePlane (wsV RX5 44 RX5 yX5_setMark wsX5_setMark) := goodIn_app (goodIn_of _ (by decide +kernel)) ggX5_takePlane_X5_setMark
theorem dX5_takePlane_0 : decode cX5_takePlane 0 = .ok (.aload_n 0, 1) := by decide +kernel
theorem dX5_takePlane_1 : decode cX5_takePlane 1 = .ok (.aload_n 1, 1) := by decide +kernel
theorem dX5_takePlane_2 : decode cX5_takePlane 2 = .ok (.getfield 25, 3) := by decide +kernel
theorem dX5_takePlane_5 : decode cX5_takePlane 5 = .ok (.bipush 13, 2) := by decide +kernel
theorem dX5_takePlane_7 : decode cX5_takePlane 7 = .ok (.invokestatic 30, 3) := by decide +kernel
theorem dX5_takePlane_10 : decode cX5_takePlane 10 = .ok (.invokevirtual 36, 3) := by decide +kernel
theorem dX5_takePlane_13 : decode cX5_takePlane 13 = .ok (.iconst 0, 1) := by decide +kernel
theorem dX5_takePlane_14 : decode cX5_takePlane 14 = .ok (.istore_n 2, 1) := by decide +kernel
theorem dX5_takePlane_15 : decode cX5_takePlane 15 = .ok (.iload_n 2, 1) := by decide +kernel
theorem dX5_takePlane_16 : decode cX5_takePlane 16 = .ok (.aload_n 0, 1) := by decide +kernel
theorem dX5_takePlane_17 : decode cX5_takePlane 17 = .ok (.getfield 9, 3) := by decide +kernel
theorem dX5_takePlane_20 : decode cX5_takePlane 20 = .ok (.if_icmp .ge 37, 3) := by decide +kernel
theorem dX5_takePlane_23 : decode cX5_takePlane 23 = .ok (.iconst 0, 1) := by decide +kernel
theorem dX5_takePlane_24 : decode cX5_takePlane 24 = .ok (.istore_n 3, 1) := by decide +kernel
theorem dX5_takePlane_25 : decode cX5_takePlane 25 = .ok (.iload_n 3, 1) := by decide +kernel
theorem dX5_takePlane_26 : decode cX5_takePlane 26 = .ok (.aload_n 0, 1) := by decide +kernel
theorem dX5_takePlane_27 : decode cX5_takePlane 27 = .ok (.getfield 9, 3) := by decide +kernel
theorem dX5_takePlane_30 : decode cX5_takePlane 30 = .ok (.if_icmp .ge 21, 3) := by decide +kernel
theorem dX5_takePlane_33 : decode cX5_takePlane 33 = .ok (.aload_n 0, 1) := by decide +kernel
theorem dX5_takePlane_34 : decode cX5_takePlane 34 = .ok (.iload_n 2, 1) := by decide +kernel
theorem dX5_takePlane_35 : decode cX5_takePlane 35 = .ok (.iload_n 3, 1) := by decide +kernel
theorem dX5_takePlane_36 : decode cX5_takePlane 36 = .ok (.aload_n 1, 1) := by decide +kernel
theorem dX5_takePlane_37 : decode cX5_takePlane 37 = .ok (.iload_n 3, 1) := by decide +kernel
theorem dX5_takePlane_38 : decode cX5_takePlane 38 = .ok (.iload_n 2, 1) := by decide +kernel
theorem dX5_takePlane_39 : decode cX5_takePlane 39 = .ok (.invokevirtual 40, 3) := by decide +kernel
theorem dX5_takePlane_42 : decode cX5_takePlane 42 = .ok (.invokevirtual 44, 3) := by decide +kernel
theorem dX5_takePlane_45 : decode cX5_takePlane 45 = .ok (.iinc 3 1, 3) := by decide +kernel
theorem dX5_takePlane_48 : decode cX5_takePlane 48 = .ok (.goto (-23), 3) := by decide +kernel
theorem dX5_takePlane_51 : decode cX5_takePlane 51 = .ok (.iinc 2 1, 3) := by decide +kernel
theorem dX5_takePlane_54 : decode cX5_takePlane 54 = .ok (.goto (-39), 3) := by decide +kernel
theorem dX5_takePlane_57 : decode cX5_takePlane 57 = .ok (.return_, 1) := by decide +kernel
set_option maxRecDepth 20000 in
theorem ggX5_firstFlaw_J6_bitCount_0f7a4 : GoodIn wsX5_firstFlaw wsJ6_bitCount_0f7a4 := goodIn_r _ [6, 7, 8, 9] (by decide +kernel) (by decide +kernel)
set_option maxRecDepth 20000 in
theorem gX5_firstFlaw_J6_bitCount_0f7a4 : GoodIn wsX5_firstFlaw (va_wsS RX5 19 yJ6_bitCount_0f7a4 wsJ6_bitCount_0f7a4) := goodIn_app (goodIn_of _ (by decide +kernel)) ggX5_firstFlaw_J6_bitCount_0f7a4
set_option maxRecDepth 20000 in
theorem ggX5_firstFlaw_X5_linesWithBoth : GoodIn wsX5_firstFlaw wsX5_linesWithBoth := goodIn_r _ [14, 1, 2, 23, 24] (by decide +kernel) (by decide +kernel)
set_option maxRecDepth 20000 in
theorem gX5_firstFlaw_X5_linesWithBoth : GoodIn wsX5_firstFlaw (wsV RX5 48 RX5 yX5_linesWithBoth wsX5_linesWithBoth) := goodIn_app (goodIn_of _ (by decide +kernel)) ggX5_firstFlaw_X5_linesWithBoth
set_option maxRecDepth 20000 in
theorem ggX5_firstFlaw_X5_hasFrame : GoodIn wsX5_firstFlaw wsX5_hasFrame := goodIn_r _ [18, 1, 19, 20, 21, 13, 22, 2, 3, 4, 5, 6, 7, 8, 9, 23, 24] (by decide +kernel) (by decide +kernel)
set_option maxRecDepth 20000 in
theorem gX5_firstFlaw_X5_hasFrame : GoodIn wsX5_firstFlaw (wsV RX5 51 RX5 yX5_hasFrame wsX5_hasFrame) := goodIn_app (goodIn_of _ (by decide +kernel)) ggX5_firstFlaw_X5_hasFrame
theorem dX5_firstFlaw_0 : decode cX5_firstFlaw 0 = .ok (.iconst 0, 1) := by decide +kernel
theorem dX5_firstFlaw_1 : decode cX5_firstFlaw 1 = .ok (.istore_n 1, 1) := by decide +kernel
theorem dX5_firstFlaw_2 : decode cX5_firstFlaw 2 = .ok (.iload_n 1, 1) := by decide +kernel
theorem dX5_firstFlaw_3 : decode cX5_firstFlaw 3 = .ok (.aload_n 0, 1) := by decide +kernel
theorem dX5_firstFlaw_4 : decode cX5_firstFlaw 4 = .ok (.getfield 9, 3) := by decide +kernel
theorem dX5_firstFlaw_7 : decode cX5_firstFlaw 7 = .ok (.if_icmp .ge 58, 3) := by decide +kernel
theorem dX5_firstFlaw_10 : decode cX5_firstFlaw 10 = .ok (.iload_n 1, 1) := by decide +kernel
theorem dX5_firstFlaw_11 : decode cX5_firstFlaw 11 = .ok (.iconst 1, 1) := by decide +kernel
theorem dX5_firstFlaw_12 : decode cX5_firstFlaw 12 = .ok (.iadd, 1) := by decide +kernel
theorem dX5_firstFlaw_13 : decode cX5_firstFlaw 13 = .ok (.istore_n 2, 1) := by decide +kernel
theorem dX5_firstFlaw_14 : decode cX5_firstFlaw 14 = .ok (.iload_n 2, 1) := by decide +kernel
theorem dX5_firstFlaw_15 : decode cX5_firstFlaw 15 = .ok (.aload_n 0, 1) := by decide +kernel
theorem dX5_firstFlaw_16 : decode cX5_firstFlaw 16 = .ok (.getfield 9, 3) := by decide +kernel
theorem dX5_firstFlaw_19 : decode cX5_firstFlaw 19 = .ok (.if_icmp .ge 40, 3) := by decide +kernel
theorem dX5_firstFlaw_22 : decode cX5_firstFlaw 22 = .ok (.aload_n 0, 1) := by decide +kernel
theorem dX5_firstFlaw_23 : decode cX5_firstFlaw 23 = .ok (.getfield 15, 3) := by decide +kernel
theorem dX5_firstFlaw_26 : decode cX5_firstFlaw 26 = .ok (.iload_n 1, 1) := by decide +kernel
theorem dX5_firstFlaw_27 : decode cX5_firstFlaw 27 = .ok (.iaload, 1) := by decide +kernel
theorem dX5_firstFlaw_28 : decode cX5_firstFlaw 28 = .ok (.aload_n 0, 1) := by decide +kernel
theorem dX5_firstFlaw_29 : decode cX5_firstFlaw 29 = .ok (.getfield 15, 3) := by decide +kernel
theorem dX5_firstFlaw_32 : decode cX5_firstFlaw 32 = .ok (.iload_n 2, 1) := by decide +kernel
theorem dX5_firstFlaw_33 : decode cX5_firstFlaw 33 = .ok (.iaload, 1) := by decide +kernel
theorem dX5_firstFlaw_34 : decode cX5_firstFlaw 34 = .ok (.iand, 1) := by decide +kernel
theorem dX5_firstFlaw_35 : decode cX5_firstFlaw 35 = .ok (.invokestatic 19, 3) := by decide +kernel
theorem dX5_firstFlaw_38 : decode cX5_firstFlaw 38 = .ok (.iconst 1, 1) := by decide +kernel
theorem dX5_firstFlaw_39 : decode cX5_firstFlaw 39 = .ok (.if_icmp .eq 14, 3) := by decide +kernel
theorem dX5_firstFlaw_42 : decode cX5_firstFlaw 42 = .ok (.sipush 1000, 3) := by decide +kernel
theorem dX5_firstFlaw_45 : decode cX5_firstFlaw 45 = .ok (.bipush 20, 2) := by decide +kernel
theorem dX5_firstFlaw_47 : decode cX5_firstFlaw 47 = .ok (.iload_n 1, 1) := by decide +kernel
theorem dX5_firstFlaw_48 : decode cX5_firstFlaw 48 = .ok (.imul, 1) := by decide +kernel
theorem dX5_firstFlaw_49 : decode cX5_firstFlaw 49 = .ok (.iadd, 1) := by decide +kernel
theorem dX5_firstFlaw_50 : decode cX5_firstFlaw 50 = .ok (.iload_n 2, 1) := by decide +kernel
theorem dX5_firstFlaw_51 : decode cX5_firstFlaw 51 = .ok (.iadd, 1) := by decide +kernel
theorem dX5_firstFlaw_52 : decode cX5_firstFlaw 52 = .ok (.ireturn, 1) := by decide +kernel
theorem dX5_firstFlaw_53 : decode cX5_firstFlaw 53 = .ok (.iinc 2 1, 3) := by decide +kernel
theorem dX5_firstFlaw_56 : decode cX5_firstFlaw 56 = .ok (.goto (-42), 3) := by decide +kernel
theorem dX5_firstFlaw_59 : decode cX5_firstFlaw 59 = .ok (.iinc 1 1, 3) := by decide +kernel
theorem dX5_firstFlaw_62 : decode cX5_firstFlaw 62 = .ok (.goto (-60), 3) := by decide +kernel
theorem dX5_firstFlaw_65 : decode cX5_firstFlaw 65 = .ok (.iconst 0, 1) := by decide +kernel
theorem dX5_firstFlaw_66 : decode cX5_firstFlaw 66 = .ok (.istore_n 1, 1) := by decide +kernel
theorem dX5_firstFlaw_67 : decode cX5_firstFlaw 67 = .ok (.iload_n 1, 1) := by decide +kernel
theorem dX5_firstFlaw_68 : decode cX5_firstFlaw 68 = .ok (.aload_n 0, 1) := by decide +kernel
theorem dX5_firstFlaw_69 : decode cX5_firstFlaw 69 = .ok (.getfield 9, 3) := by decide +kernel
theorem dX5_firstFlaw_72 : decode cX5_firstFlaw 72 = .ok (.if_icmp .ge 48, 3) := by decide +kernel
theorem dX5_firstFlaw_75 : decode cX5_firstFlaw 75 = .ok (.iload_n 1, 1) := by decide +kernel
theorem dX5_firstFlaw_76 : decode cX5_firstFlaw 76 = .ok (.iconst 1, 1) := by decide +kernel
theorem dX5_firstFlaw_77 : decode cX5_firstFlaw 77 = .ok (.iadd, 1) := by decide +kernel
theorem dX5_firstFlaw_78 : decode cX5_firstFlaw 78 = .ok (.istore_n 2, 1) := by decide +kernel
theorem dX5_firstFlaw_79 : decode cX5_firstFlaw 79 = .ok (.iload_n 2, 1) := by decide +kernel
theorem dX5_firstFlaw_80 : decode cX5_firstFlaw 80 = .ok (.aload_n 0, 1) := by decide +kernel
theorem dX5_firstFlaw_81 : decode cX5_firstFlaw 81 = .ok (.getfield 9, 3) := by decide +kernel
theorem dX5_firstFlaw_84 : decode cX5_firstFlaw 84 = .ok (.if_icmp .ge 30, 3) := by decide +kernel
theorem dX5_firstFlaw_87 : decode cX5_firstFlaw 87 = .ok (.aload_n 0, 1) := by decide +kernel
theorem dX5_firstFlaw_88 : decode cX5_firstFlaw 88 = .ok (.iload_n 1, 1) := by decide +kernel
theorem dX5_firstFlaw_89 : decode cX5_firstFlaw 89 = .ok (.iload_n 2, 1) := by decide +kernel
theorem dX5_firstFlaw_90 : decode cX5_firstFlaw 90 = .ok (.invokevirtual 48, 3) := by decide +kernel
theorem dX5_firstFlaw_93 : decode cX5_firstFlaw 93 = .ok (.iconst 1, 1) := by decide +kernel
theorem dX5_firstFlaw_94 : decode cX5_firstFlaw 94 = .ok (.if_icmp .eq 14, 3) := by decide +kernel
theorem dX5_firstFlaw_97 : decode cX5_firstFlaw 97 = .ok (.sipush 2000, 3) := by decide +kernel
theorem dX5_firstFlaw_100 : decode cX5_firstFlaw 100 = .ok (.bipush 20, 2) := by decide +kernel
theorem dX5_firstFlaw_102 : decode cX5_firstFlaw 102 = .ok (.iload_n 1, 1) := by decide +kernel
theorem dX5_firstFlaw_103 : decode cX5_firstFlaw 103 = .ok (.imul, 1) := by decide +kernel
theorem dX5_firstFlaw_104 : decode cX5_firstFlaw 104 = .ok (.iadd, 1) := by decide +kernel
theorem dX5_firstFlaw_105 : decode cX5_firstFlaw 105 = .ok (.iload_n 2, 1) := by decide +kernel
theorem dX5_firstFlaw_106 : decode cX5_firstFlaw 106 = .ok (.iadd, 1) := by decide +kernel
theorem dX5_firstFlaw_107 : decode cX5_firstFlaw 107 = .ok (.ireturn, 1) := by decide +kernel
theorem dX5_firstFlaw_108 : decode cX5_firstFlaw 108 = .ok (.iinc 2 1, 3) := by decide +kernel
theorem dX5_firstFlaw_111 : decode cX5_firstFlaw 111 = .ok (.goto (-32), 3) := by decide +kernel
theorem dX5_firstFlaw_114 : decode cX5_firstFlaw 114 = .ok (.iinc 1 1, 3) := by decide +kernel
theorem dX5_firstFlaw_117 : decode cX5_firstFlaw 117 = .ok (.goto (-50), 3) := by decide +kernel
theorem dX5_firstFlaw_120 : decode cX5_firstFlaw 120 = .ok (.aload_n 0, 1) := by decide +kernel
theorem dX5_firstFlaw_121 : decode cX5_firstFlaw 121 = .ok (.invokevirtual 51, 3) := by decide +kernel
theorem dX5_firstFlaw_124 : decode cX5_firstFlaw 124 = .ok (.ifCond .eq 7, 3) := by decide +kernel
theorem dX5_firstFlaw_127 : decode cX5_firstFlaw 127 = .ok (.iconst 0, 1) := by decide +kernel
theorem dX5_firstFlaw_128 : decode cX5_firstFlaw 128 = .ok (.goto 6, 3) := by decide +kernel
theorem dX5_firstFlaw_131 : decode cX5_firstFlaw 131 = .ok (.sipush 3000, 3) := by decide +kernel
theorem dX5_firstFlaw_134 : decode cX5_firstFlaw 134 = .ok (.ireturn, 1) := by decide +kernel
theorem dX5_linesWithBoth_0 : decode cX5_linesWithBoth 0 = .ok (.iconst 1, 1) := by decide +kernel
theorem dX5_linesWithBoth_1 : decode cX5_linesWithBoth 1 = .ok (.iload_n 1, 1) := by decide +kernel
theorem dX5_linesWithBoth_2 : decode cX5_linesWithBoth 2 = .ok (.ishl, 1) := by decide +kernel
theorem dX5_linesWithBoth_3 : decode cX5_linesWithBoth 3 = .ok (.iconst 1, 1) := by decide +kernel
theorem dX5_linesWithBoth_4 : decode cX5_linesWithBoth 4 = .ok (.iload_n 2, 1) := by decide +kernel
theorem dX5_linesWithBoth_5 : decode cX5_linesWithBoth 5 = .ok (.ishl, 1) := by decide +kernel
theorem dX5_linesWithBoth_6 : decode cX5_linesWithBoth 6 = .ok (.ior, 1) := by decide +kernel
theorem dX5_linesWithBoth_7 : decode cX5_linesWithBoth 7 = .ok (.istore_n 3, 1) := by decide +kernel
theorem dX5_linesWithBoth_8 : decode cX5_linesWithBoth 8 = .ok (.iconst 0, 1) := by decide +kernel
theorem dX5_linesWithBoth_9 : decode cX5_linesWithBoth 9 = .ok (.istore 4, 2) := by decide +kernel
theorem dX5_linesWithBoth_11 : decode cX5_linesWithBoth 11 = .ok (.iconst 0, 1) := by decide +kernel
theorem dX5_linesWithBoth_12 : decode cX5_linesWithBoth 12 = .ok (.istore 5, 2) := by decide +kernel
theorem dX5_linesWithBoth_14 : decode cX5_linesWithBoth 14 = .ok (.iload 5, 2) := by decide +kernel
theorem dX5_linesWithBoth_16 : decode cX5_linesWithBoth 16 = .ok (.aload_n 0, 1) := by decide +kernel
theorem dX5_linesWithBoth_17 : decode cX5_linesWithBoth 17 = .ok (.getfield 9, 3) := by decide +kernel
theorem dX5_linesWithBoth_20 : decode cX5_linesWithBoth 20 = .ok (.if_icmp .ge 25, 3) := by decide +kernel
theorem dX5_linesWithBoth_23 : decode cX5_linesWithBoth 23 = .ok (.aload_n 0, 1) := by decide +kernel
theorem dX5_linesWithBoth_24 : decode cX5_linesWithBoth 24 = .ok (.getfield 15, 3) := by decide +kernel
theorem dX5_linesWithBoth_27 : decode cX5_linesWithBoth 27 = .ok (.iload 5, 2) := by decide +kernel
theorem dX5_linesWithBoth_29 : decode cX5_linesWithBoth 29 = .ok (.iaload, 1) := by decide +kernel
theorem dX5_linesWithBoth_30 : decode cX5_linesWithBoth 30 = .ok (.iload_n 3, 1) := by decide +kernel
theorem dX5_linesWithBoth_31 : decode cX5_linesWithBoth 31 = .ok (.iand, 1) := by decide +kernel
theorem dX5_linesWithBoth_32 : decode cX5_linesWithBoth 32 = .ok (.iload_n 3, 1) := by decide +kernel
theorem dX5_linesWithBoth_33 : decode cX5_linesWithBoth 33 = .ok (.if_icmp .ne 6, 3) := by decide +kernel
theorem dX5_linesWithBoth_36 : decode cX5_linesWithBoth 36 = .ok (.iinc 4 1, 3) := by decide +kernel
theorem dX5_linesWithBoth_39 : decode cX5_linesWithBoth 39 = .ok (.iinc 5 1, 3) := by decide +kernel
theorem dX5_linesWithBoth_42 : decode cX5_linesWithBoth 42 = .ok (.goto (-28), 3) := by decide +kernel
theorem dX5_linesWithBoth_45 : decode cX5_linesWithBoth 45 = .ok (.iload 4, 2) := by decide +kernel
theorem dX5_linesWithBoth_47 : decode cX5_linesWithBoth 47 = .ok (.ireturn, 1) := by decide +kernel
set_option maxRecDepth 20000 in
theorem ggX5_hasFrame_X5_isFrameHere : GoodIn wsX5_hasFrame wsX5_isFrameHere := goodIn_r _ [6, 1, 7, 8, 9, 10, 11, 12, 13, 14, 15, 16] (by decide +kernel) (by decide +kernel)
set_option maxRecDepth 20000 in
theorem gX5_hasFrame_X5_isFrameHere : GoodIn wsX5_hasFrame (wsV RX5 55 RX5 yX5_isFrameHere wsX5_isFrameHere) := goodIn_app (goodIn_of _ (by decide +kernel)) ggX5_hasFrame_X5_isFrameHere
theorem dX5_hasFrame_0 : decode cX5_hasFrame 0 = .ok (.iconst 0, 1) := by decide +kernel
theorem dX5_hasFrame_1 : decode cX5_hasFrame 1 = .ok (.istore_n 1, 1) := by decide +kernel
theorem dX5_hasFrame_2 : decode cX5_hasFrame 2 = .ok (.iload_n 1, 1) := by decide +kernel
theorem dX5_hasFrame_3 : decode cX5_hasFrame 3 = .ok (.aload_n 0, 1) := by decide +kernel
theorem dX5_hasFrame_4 : decode cX5_hasFrame 4 = .ok (.getfield 9, 3) := by decide +kernel
theorem dX5_hasFrame_7 : decode cX5_hasFrame 7 = .ok (.if_icmp .ge 90, 3) := by decide +kernel
theorem dX5_hasFrame_10 : decode cX5_hasFrame 10 = .ok (.iload_n 1, 1) := by decide +kernel
theorem dX5_hasFrame_11 : decode cX5_hasFrame 11 = .ok (.iconst 1, 1) := by decide +kernel
theorem dX5_hasFrame_12 : decode cX5_hasFrame 12 = .ok (.iadd, 1) := by decide +kernel
theorem dX5_hasFrame_13 : decode cX5_hasFrame 13 = .ok (.istore_n 2, 1) := by decide +kernel
theorem dX5_hasFrame_14 : decode cX5_hasFrame 14 = .ok (.iload_n 2, 1) := by decide +kernel
theorem dX5_hasFrame_15 : decode cX5_hasFrame 15 = .ok (.aload_n 0, 1) := by decide +kernel
theorem dX5_hasFrame_16 : decode cX5_hasFrame 16 = .ok (.getfield 9, 3) := by decide +kernel
theorem dX5_hasFrame_19 : decode cX5_hasFrame 19 = .ok (.if_icmp .ge 72, 3) := by decide +kernel
theorem dX5_hasFrame_22 : decode cX5_hasFrame 22 = .ok (.iload_n 2, 1) := by decide +kernel
theorem dX5_hasFrame_23 : decode cX5_hasFrame 23 = .ok (.iconst 1, 1) := by decide +kernel
theorem dX5_hasFrame_24 : decode cX5_hasFrame 24 = .ok (.iadd, 1) := by decide +kernel
theorem dX5_hasFrame_25 : decode cX5_hasFrame 25 = .ok (.istore_n 3, 1) := by decide +kernel
theorem dX5_hasFrame_26 : decode cX5_hasFrame 26 = .ok (.iload_n 3, 1) := by decide +kernel
theorem dX5_hasFrame_27 : decode cX5_hasFrame 27 = .ok (.aload_n 0, 1) := by decide +kernel
theorem dX5_hasFrame_28 : decode cX5_hasFrame 28 = .ok (.getfield 9, 3) := by decide +kernel
theorem dX5_hasFrame_31 : decode cX5_hasFrame 31 = .ok (.if_icmp .ge 54, 3) := by decide +kernel
theorem dX5_hasFrame_34 : decode cX5_hasFrame 34 = .ok (.iload_n 3, 1) := by decide +kernel
theorem dX5_hasFrame_35 : decode cX5_hasFrame 35 = .ok (.iconst 1, 1) := by decide +kernel
theorem dX5_hasFrame_36 : decode cX5_hasFrame 36 = .ok (.iadd, 1) := by decide +kernel
theorem dX5_hasFrame_37 : decode cX5_hasFrame 37 = .ok (.istore 4, 2) := by decide +kernel
theorem dX5_hasFrame_39 : decode cX5_hasFrame 39 = .ok (.iload 4, 2) := by decide +kernel
theorem dX5_hasFrame_41 : decode cX5_hasFrame 41 = .ok (.aload_n 0, 1) := by decide +kernel
theorem dX5_hasFrame_42 : decode cX5_hasFrame 42 = .ok (.getfield 9, 3) := by decide +kernel
theorem dX5_hasFrame_45 : decode cX5_hasFrame 45 = .ok (.if_icmp .ge 34, 3) := by decide +kernel
theorem dX5_hasFrame_48 : decode cX5_hasFrame 48 = .ok (.aload_n 0, 1) := by decide +kernel
theorem dX5_hasFrame_49 : decode cX5_hasFrame 49 = .ok (.iconst 1, 1) := by decide +kernel
theorem dX5_hasFrame_50 : decode cX5_hasFrame 50 = .ok (.iload_n 1, 1) := by decide +kernel
theorem dX5_hasFrame_51 : decode cX5_hasFrame 51 = .ok (.ishl, 1) := by decide +kernel
theorem dX5_hasFrame_52 : decode cX5_hasFrame 52 = .ok (.iconst 1, 1) := by decide +kernel
theorem dX5_hasFrame_53 : decode cX5_hasFrame 53 = .ok (.iload_n 2, 1) := by decide +kernel
theorem dX5_hasFrame_54 : decode cX5_hasFrame 54 = .ok (.ishl, 1) := by decide +kernel
theorem dX5_hasFrame_55 : decode cX5_hasFrame 55 = .ok (.ior, 1) := by decide +kernel
theorem dX5_hasFrame_56 : decode cX5_hasFrame 56 = .ok (.iconst 1, 1) := by decide +kernel
theorem dX5_hasFrame_57 : decode cX5_hasFrame 57 = .ok (.iload_n 3, 1) := by decide +kernel
theorem dX5_hasFrame_58 : decode cX5_hasFrame 58 = .ok (.ishl, 1) := by decide +kernel
theorem dX5_hasFrame_59 : decode cX5_hasFrame 59 = .ok (.ior, 1) := by decide +kernel
theorem dX5_hasFrame_60 : decode cX5_hasFrame 60 = .ok (.iconst 1, 1) := by decide +kernel
theorem dX5_hasFrame_61 : decode cX5_hasFrame 61 = .ok (.iload 4, 2) := by decide +kernel
theorem dX5_hasFrame_63 : decode cX5_hasFrame 63 = .ok (.ishl, 1) := by decide +kernel
theorem dX5_hasFrame_64 : decode cX5_hasFrame 64 = .ok (.ior, 1) := by decide +kernel
theorem dX5_hasFrame_65 : decode cX5_hasFrame 65 = .ok (.invokevirtual 55, 3) := by decide +kernel
theorem dX5_hasFrame_68 : decode cX5_hasFrame 68 = .ok (.ifCond .eq 5, 3) := by decide +kernel
theorem dX5_hasFrame_71 : decode cX5_hasFrame 71 = .ok (.iconst 1, 1) := by decide +kernel
theorem dX5_hasFrame_72 : decode cX5_hasFrame 72 = .ok (.ireturn, 1) := by decide +kernel
theorem dX5_hasFrame_73 : decode cX5_hasFrame 73 = .ok (.iinc 4 1, 3) := by decide +kernel
theorem dX5_hasFrame_76 : decode cX5_hasFrame 76 = .ok (.goto (-37), 3) := by decide +kernel
theorem dX5_hasFrame_79 : decode cX5_hasFrame 79 = .ok (.iinc 3 1, 3) := by decide +kernel
theorem dX5_hasFrame_82 : decode cX5_hasFrame 82 = .ok (.goto (-56), 3) := by decide +kernel
theorem dX5_hasFrame_85 : decode cX5_hasFrame 85 = .ok (.iinc 2 1, 3) := by decide +kernel
theorem dX5_hasFrame_88 : decode cX5_hasFrame 88 = .ok (.goto (-74), 3) := by decide +kernel
theorem dX5_hasFrame_91 : decode cX5_hasFrame 91 = .ok (.iinc 1 1, 3) := by decide +kernel
theorem dX5_hasFrame_94 : decode cX5_hasFrame 94 = .ok (.goto (-92), 3) := by decide +kernel
theorem dX5_hasFrame_97 : decode cX5_hasFrame 97 = .ok (.iconst 0, 1) := by decide +kernel
theorem dX5_hasFrame_98 : decode cX5_hasFrame 98 = .ok (.ireturn, 1) := by decide +kernel
set_option maxRecDepth 20000 in
theorem ggX5_isFrameHere_J6_bitCount_0f7a4 : GoodIn wsX5_isFrameHere wsJ6_bitCount_0f7a4 := goodIn_r _ [6, 7, 8, 9] (by decide +kernel) (by decide +kernel)
set_option maxRecDepth 20000 in
theorem gX5_isFrameHere_J6_bitCount_0f7a4 : GoodIn wsX5_isFrameHere (va_wsS RX5 19 yJ6_bitCount_0f7a4 wsJ6_bitCount_0f7a4) := goodIn_app (goodIn_of _ (by decide +kernel)) ggX5_isFrameHere_J6_bitCount_0f7a4
theorem dX5_isFrameHere_0 : decode cX5_isFrameHere 0 = .ok (.iconst 0, 1) := by decide +kernel
theorem dX5_isFrameHere_1 : decode cX5_isFrameHere 1 = .ok (.istore_n 2, 1) := by decide +kernel
theorem dX5_isFrameHere_2 : decode cX5_isFrameHere 2 = .ok (.iload_n 2, 1) := by decide +kernel
theorem dX5_isFrameHere_3 : decode cX5_isFrameHere 3 = .ok (.aload_n 0, 1) := by decide +kernel
theorem dX5_isFrameHere_4 : decode cX5_isFrameHere 4 = .ok (.getfield 9, 3) := by decide +kernel
theorem dX5_isFrameHere_7 : decode cX5_isFrameHere 7 = .ok (.if_icmp .ge 26, 3) := by decide +kernel
theorem dX5_isFrameHere_10 : decode cX5_isFrameHere 10 = .ok (.aload_n 0, 1) := by decide +kernel
theorem dX5_isFrameHere_11 : decode cX5_isFrameHere 11 = .ok (.getfield 15, 3) := by decide +kernel
theorem dX5_isFrameHere_14 : decode cX5_isFrameHere 14 = .ok (.iload_n 2, 1) := by decide +kernel
theorem dX5_isFrameHere_15 : decode cX5_isFrameHere 15 = .ok (.iaload, 1) := by decide +kernel
theorem dX5_isFrameHere_16 : decode cX5_isFrameHere 16 = .ok (.iload_n 1, 1) := by decide +kernel
theorem dX5_isFrameHere_17 : decode cX5_isFrameHere 17 = .ok (.iand, 1) := by decide +kernel
theorem dX5_isFrameHere_18 : decode cX5_isFrameHere 18 = .ok (.invokestatic 19, 3) := by decide +kernel
theorem dX5_isFrameHere_21 : decode cX5_isFrameHere 21 = .ok (.iconst 2, 1) := by decide +kernel
theorem dX5_isFrameHere_22 : decode cX5_isFrameHere 22 = .ok (.if_icmp .le 5, 3) := by decide +kernel
theorem dX5_isFrameHere_25 : decode cX5_isFrameHere 25 = .ok (.iconst 0, 1) := by decide +kernel
theorem dX5_isFrameHere_26 : decode cX5_isFrameHere 26 = .ok (.ireturn, 1) := by decide +kernel
theorem dX5_isFrameHere_27 : decode cX5_isFrameHere 27 = .ok (.iinc 2 1, 3) := by decide +kernel
theorem dX5_isFrameHere_30 : decode cX5_isFrameHere 30 = .ok (.goto (-28), 3) := by decide +kernel
theorem dX5_isFrameHere_33 : decode cX5_isFrameHere 33 = .ok (.iconst 1, 1) := by decide +kernel
theorem dX5_isFrameHere_34 : decode cX5_isFrameHere 34 = .ok (.ireturn, 1) := by decide +kernel
set_option maxRecDepth 20000 in
theorem ggX6_init_X1_init : GoodIn wsX6_init wsX1_init := goodIn_r _ [31, 32, 2, 3, 33, 34, 35, 36, 37, 38, 39, 40, 6, 41, 42, 43, 44, 45, 46, 47, 48, 49, 50, 51, 52, 53, 54, 135, 136, 137, 138, 139] (by decide +kernel) (by decide +kernel)
set_option maxRecDepth 20000 in
theorem gX6_init_X1_init : GoodIn wsX6_init (wsX1_init) := ggX6_init_X1_init
set_option maxRecDepth 20000 in
theorem ggX6_init_X3_init : GoodIn wsX6_init wsX3_init := goodIn_r _ [57, 58, 2, 3, 33, 59, 60, 61, 62, 63, 64, 10, 65, 66, 67, 68, 69, 70, 71, 72, 73, 74, 75, 76, 77, 78, 79, 80, 81, 82, 83, 84, 85, 6, 86, 35, 87, 88, 89, 90, 34, 91, 92, 93, 94, 36, 95, 96, 97, 98, 37, 147, 148, 149, 150, 135, 136, 137, 138, 139] (by decide +kernel) (by decide +kernel)
set_option maxRecDepth 20000 in
theorem gX6_init_X3_init : GoodIn wsX6_init (wsX3_init) := ggX6_init_X3_init
set_option maxRecDepth 20000 in
theorem ggX6_init_X4_init : GoodIn wsX6_init wsX4_init := goodIn_r _ [101, 102, 2, 3, 103, 104, 105, 33, 106, 107, 151, 152, 153, 154] (by decide +kernel) (by decide +kernel)
set_option maxRecDepth 20000 in
theorem gX6_init_X4_init : GoodIn wsX6_init (wsX4_init) := ggX6_init_X4_init
set_option maxRecDepth 20000 in
theorem ggX6_init_X0_init : GoodIn wsX6_init wsX0_init := goodIn_r _ [110, 111, 2, 3, 33, 112, 113, 114, 115, 116, 155, 156, 157, 158, 159, 147, 148, 149, 150] (by decide +kernel) (by decide +kernel)
set_option maxRecDepth 20000 in
theorem gX6_init_X0_init : GoodIn wsX6_init (wsX0_init) := ggX6_init_X0_init
set_option maxRecDepth 20000 in
theorem ggX6_init_X2_init : GoodIn wsX6_init wsX2_init := goodIn_r _ [119, 120, 2, 3, 33, 121, 122, 103, 123, 124, 125, 126, 127, 128, 22, 129, 160, 161, 162, 163, 164, 147, 148, 149, 150] (by decide +kernel) (by decide +kernel)
set_option maxRecDepth 20000 in
theorem gX6_init_X2_init : GoodIn wsX6_init (wsX2_init) := ggX6_init_X2_init
set_option maxRecDepth 20000 in
theorem ggX6_init_X5_init : GoodIn wsX6_init wsX5_init := goodIn_r _ [131, 132, 2, 3, 133, 33, 134, 165, 166] (by decide +kernel) (by decide +kernel)
set_option maxRecDepth 20000 in
theorem gX6_init_X5_init_n53 : GoodIn wsX6_init (wsX5_init) := ggX6_init_X5_init
