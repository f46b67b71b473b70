theorem dX0_init_0 : decode cX0_init 0 = .ok (.aload_n 0, 1) := by decide +kernel
theorem dX0_init_1 : decode cX0_init 1 = .ok (.invokespecial 3, 3) := by decide +kernel
theorem dX0_init_4 : decode cX0_init 4 = .ok (.aload_n 0, 1) := by decide +kernel
theorem dX0_init_5 : decode cX0_init 5 = .ok (.bipush 6, 2) := by decide +kernel
theorem dX0_init_7 : decode cX0_init 7 = .ok (.newarray .int, 2) := by decide +kernel
theorem dX0_init_9 : decode cX0_init 9 = .ok (.putfield 9, 3) := by decide +kernel
theorem dX0_init_12 : decode cX0_init 12 = .ok (.aload_n 0, 1) := by decide +kernel
theorem dX0_init_13 : decode cX0_init 13 = .ok (.bipush 30, 2) := by decide +kernel
theorem dX0_init_15 : decode cX0_init 15 = .ok (.newarray .int, 2) := by decide +kernel
theorem dX0_init_17 : decode cX0_init 17 = .ok (.putfield 15, 3) := by decide +kernel
theorem dX0_init_20 : decode cX0_init 20 = .ok (.aload_n 0, 1) := by decide +kernel
theorem dX0_init_21 : decode cX0_init 21 = .ok (.iconst 5, 1) := by decide +kernel
theorem dX0_init_22 : decode cX0_init 22 = .ok (.newarray .int, 2) := by decide +kernel
theorem dX0_init_24 : decode cX0_init 24 = .ok (.putfield 18, 3) := by decide +kernel
theorem dX0_init_27 : decode cX0_init 27 = .ok (.aload_n 0, 1) := by decide +kernel
theorem dX0_init_28 : decode cX0_init 28 = .ok (.aload_n 1, 1) := by decide +kernel
theorem dX0_init_29 : decode cX0_init 29 = .ok (.putfield 21, 3) := by decide +kernel
theorem dX0_init_32 : decode cX0_init 32 = .ok (.aload_n 0, 1) := by decide +kernel
theorem dX0_init_33 : decode cX0_init 33 = .ok (.aload_n 1, 1) := by decide +kernel
theorem dX0_init_34 : decode cX0_init 34 = .ok (.getfield 25, 3) := by decide +kernel
theorem dX0_init_37 : decode cX0_init 37 = .ok (.putfield 31, 3) := by decide +kernel
theorem dX0_init_40 : decode cX0_init 40 = .ok (.return_, 1) := by decide +kernel
theorem dX0_choose_0 : decode cX0_choose 0 = .ok (.aload_n 0, 1) := by decide +kernel
theorem dX0_choose_1 : decode cX0_choose 1 = .ok (.getfield 9, 3) := by decide +kernel
theorem dX0_choose_4 : decode cX0_choose 4 = .ok (.iconst 0, 1) := by decide +kernel
theorem dX0_choose_5 : decode cX0_choose 5 = .ok (.iload_n 1, 1) := by decide +kernel
theorem dX0_choose_6 : decode cX0_choose 6 = .ok (.iastore, 1) := by decide +kernel
theorem dX0_choose_7 : decode cX0_choose 7 = .ok (.aload_n 0, 1) := by decide +kernel
theorem dX0_choose_8 : decode cX0_choose 8 = .ok (.getfield 9, 3) := by decide +kernel
theorem dX0_choose_11 : decode cX0_choose 11 = .ok (.iconst 1, 1) := by decide +kernel
theorem dX0_choose_12 : decode cX0_choose 12 = .ok (.iload_n 2, 1) := by decide +kernel
theorem dX0_choose_13 : decode cX0_choose 13 = .ok (.iastore, 1) := by decide +kernel
theorem dX0_choose_14 : decode cX0_choose 14 = .ok (.aload_n 0, 1) := by decide +kernel
theorem dX0_choose_15 : decode cX0_choose 15 = .ok (.getfield 9, 3) := by decide +kernel
theorem dX0_choose_18 : decode cX0_choose 18 = .ok (.iconst 2, 1) := by decide +kernel
theorem dX0_choose_19 : decode cX0_choose 19 = .ok (.iload_n 3, 1) := by decide +kernel
theorem dX0_choose_20 : decode cX0_choose 20 = .ok (.iastore, 1) := by decide +kernel
theorem dX0_choose_21 : decode cX0_choose 21 = .ok (.aload_n 0, 1) := by decide +kernel
theorem dX0_choose_22 : decode cX0_choose 22 = .ok (.getfield 9, 3) := by decide +kernel
theorem dX0_choose_25 : decode cX0_choose 25 = .ok (.iconst 3, 1) := by decide +kernel
theorem dX0_choose_26 : decode cX0_choose 26 = .ok (.iload 4, 2) := by decide +kernel
theorem dX0_choose_28 : decode cX0_choose 28 = .ok (.iastore, 1) := by decide +kernel
theorem dX0_choose_29 : decode cX0_choose 29 = .ok (.aload_n 0, 1) := by decide +kernel
theorem dX0_choose_30 : decode cX0_choose 30 = .ok (.getfield 9, 3) := by decide +kernel
theorem dX0_choose_33 : decode cX0_choose 33 = .ok (.iconst 4, 1) := by decide +kernel
theorem dX0_choose_34 : decode cX0_choose 34 = .ok (.iload 5, 2) := by decide +kernel
theorem dX0_choose_36 : decode cX0_choose 36 = .ok (.iastore, 1) := by decide +kernel
theorem dX0_choose_37 : decode cX0_choose 37 = .ok (.aload_n 0, 1) := by decide +kernel
theorem dX0_choose_38 : decode cX0_choose 38 = .ok (.getfield 9, 3) := by decide +kernel
theorem dX0_choose_41 : decode cX0_choose 41 = .ok (.iconst 5, 1) := by decide +kernel
theorem dX0_choose_42 : decode cX0_choose 42 = .ok (.iload 6, 2) := by decide +kernel
theorem dX0_choose_44 : decode cX0_choose 44 = .ok (.iastore, 1) := by decide +kernel
theorem dX0_choose_45 : decode cX0_choose 45 = .ok (.return_, 1) := by decide +kernel
set_option maxRecDepth 20000 in
theorem ggX0_term_X3_part : GoodIn wsX0_term wsX3_part := goodIn_r _ [7, 8, 20, 21, 22, 23] (by decide +kernel) (by decide +kernel)
set_option maxRecDepth 20000 in
theorem gX0_term_X3_part : GoodIn wsX0_term (wsV RX0 32 RX3 yX3_part wsX3_part) := goodIn_app (goodIn_of _ (by decide +kernel)) ggX0_term_X3_part
set_option maxRecDepth 20000 in
theorem ggX0_term_X1_times : GoodIn wsX0_term wsX1_times := goodIn_r _ [13, 14, 24, 25, 26, 27, 28] (by decide +kernel) (by decide +kernel)
set_option maxRecDepth 20000 in
theorem gX0_term_X1_times : GoodIn wsX0_term (wsV RX0 36 RX1 yX1_times wsX1_times) := goodIn_app (goodIn_of _ (by decide +kernel)) ggX0_term_X1_times
theorem dX0_term_0 : decode cX0_term 0 = .ok (.aload_n 0, 1) := by decide +kernel
theorem dX0_term_1 : decode cX0_term 1 = .ok (.getfield 21, 3) := by decide +kernel
theorem dX0_term_4 : decode cX0_term 4 = .ok (.iload_n 1, 1) := by decide +kernel
theorem dX0_term_5 : decode cX0_term 5 = .ok (.iconst 0, 1) := by decide +kernel
theorem dX0_term_6 : decode cX0_term 6 = .ok (.invokevirtual 32, 3) := by decide +kernel
theorem dX0_term_9 : decode cX0_term 9 = .ok (.istore_n 3, 1) := by decide +kernel
theorem dX0_term_10 : decode cX0_term 10 = .ok (.aload_n 0, 1) := by decide +kernel
theorem dX0_term_11 : decode cX0_term 11 = .ok (.getfield 21, 3) := by decide +kernel
theorem dX0_term_14 : decode cX0_term 14 = .ok (.iload_n 1, 1) := by decide +kernel
theorem dX0_term_15 : decode cX0_term 15 = .ok (.iconst 1, 1) := by decide +kernel
theorem dX0_term_16 : decode cX0_term 16 = .ok (.invokevirtual 32, 3) := by decide +kernel
theorem dX0_term_19 : decode cX0_term 19 = .ok (.istore 4, 2) := by decide +kernel
theorem dX0_term_21 : decode cX0_term 21 = .ok (.aload_n 0, 1) := by decide +kernel
theorem dX0_term_22 : decode cX0_term 22 = .ok (.getfield 21, 3) := by decide +kernel
theorem dX0_term_25 : decode cX0_term 25 = .ok (.iload_n 1, 1) := by decide +kernel
theorem dX0_term_26 : decode cX0_term 26 = .ok (.iconst 2, 1) := by decide +kernel
theorem dX0_term_27 : decode cX0_term 27 = .ok (.invokevirtual 32, 3) := by decide +kernel
theorem dX0_term_30 : decode cX0_term 30 = .ok (.istore 5, 2) := by decide +kernel
theorem dX0_term_32 : decode cX0_term 32 = .ok (.iload_n 2, 1) := by decide +kernel
theorem dX0_term_33 : decode cX0_term 33 = .ok (.tableswitch 92 0 4 #[35, 45, 57, 69, 81], 35) := by decide +kernel
theorem dX0_term_68 : decode cX0_term 68 = .ok (.aload_n 0, 1) := by decide +kernel
theorem dX0_term_69 : decode cX0_term 69 = .ok (.getfield 31, 3) := by decide +kernel
theorem dX0_term_72 : decode cX0_term 72 = .ok (.iload_n 3, 1) := by decide +kernel
theorem dX0_term_73 : decode cX0_term 73 = .ok (.iload_n 3, 1) := by decide +kernel
theorem dX0_term_74 : decode cX0_term 74 = .ok (.invokevirtual 36, 3) := by decide +kernel
theorem dX0_term_77 : decode cX0_term 77 = .ok (.ireturn, 1) := by decide +kernel
theorem dX0_term_78 : decode cX0_term 78 = .ok (.aload_n 0, 1) := by decide +kernel
theorem dX0_term_79 : decode cX0_term 79 = .ok (.getfield 31, 3) := by decide +kernel
theorem dX0_term_82 : decode cX0_term 82 = .ok (.iload 4, 2) := by decide +kernel
theorem dX0_term_84 : decode cX0_term 84 = .ok (.iload 4, 2) := by decide +kernel
theorem dX0_term_86 : decode cX0_term 86 = .ok (.invokevirtual 36, 3) := by decide +kernel
theorem dX0_term_89 : decode cX0_term 89 = .ok (.ireturn, 1) := by decide +kernel
theorem dX0_term_90 : decode cX0_term 90 = .ok (.aload_n 0, 1) := by decide +kernel
theorem dX0_term_91 : decode cX0_term 91 = .ok (.getfield 31, 3) := by decide +kernel
theorem dX0_term_94 : decode cX0_term 94 = .ok (.iload 5, 2) := by decide +kernel
theorem dX0_term_96 : decode cX0_term 96 = .ok (.iload 5, 2) := by decide +kernel
theorem dX0_term_98 : decode cX0_term 98 = .ok (.invokevirtual 36, 3) := by decide +kernel
theorem dX0_term_101 : decode cX0_term 101 = .ok (.ireturn, 1) := by decide +kernel
theorem dX0_term_102 : decode cX0_term 102 = .ok (.aload_n 0, 1) := by decide +kernel
theorem dX0_term_103 : decode cX0_term 103 = .ok (.getfield 31, 3) := by decide +kernel
theorem dX0_term_106 : decode cX0_term 106 = .ok (.iload 4, 2) := by decide +kernel
theorem dX0_term_108 : decode cX0_term 108 = .ok (.iload 5, 2) := by decide +kernel
theorem dX0_term_110 : decode cX0_term 110 = .ok (.invokevirtual 36, 3) := by decide +kernel
theorem dX0_term_113 : decode cX0_term 113 = .ok (.ireturn, 1) := by decide +kernel
theorem dX0_term_114 : decode cX0_term 114 = .ok (.aload_n 0, 1) := by decide +kernel
theorem dX0_term_115 : decode cX0_term 115 = .ok (.getfield 31, 3) := by decide +kernel
theorem dX0_term_118 : decode cX0_term 118 = .ok (.iload_n 3, 1) := by decide +kernel
theorem dX0_term_119 : decode cX0_term 119 = .ok (.iload 5, 2) := by decide +kernel
theorem dX0_term_121 : decode cX0_term 121 = .ok (.invokevirtual 36, 3) := by decide +kernel
theorem dX0_term_124 : decode cX0_term 124 = .ok (.ireturn, 1) := by decide +kernel
theorem dX0_term_125 : decode cX0_term 125 = .ok (.aload_n 0, 1) := by decide +kernel
theorem dX0_term_126 : decode cX0_term 126 = .ok (.getfield 31, 3) := by decide +kernel
theorem dX0_term_129 : decode cX0_term 129 = .ok (.iload_n 3, 1) := by decide +kernel
theorem dX0_term_130 : decode cX0_term 130 = .ok (.iload 4, 2) := by decide +kernel
theorem dX0_term_132 : decode cX0_term 132 = .ok (.invokevirtual 36, 3) := by decide +kernel
theorem dX0_term_135 : decode cX0_term 135 = .ok (.ireturn, 1) := by decide +kernel
set_option maxRecDepth 20000 in
theorem ggX0_copyPointsTo_X0_term : GoodIn wsX0_copyPointsTo wsX0_term := goodIn_r _ [8, 1, 2, 9, 10, 11, 12, 13, 14, 15, 16, 17, 18, 19, 20, 26, 27, 28, 29, 30, 31, 32, 33, 34, 35, 36, 37, 38, 39] (by decide +kernel) (by decide +kernel)
set_option maxRecDepth 20000 in
theorem gX0_copyPointsTo_X0_term : GoodIn wsX0_copyPointsTo (wsV RX0 45 RX0 yX0_term wsX0_term) := goodIn_app (goodIn_of _ (by decide +kernel)) ggX0_copyPointsTo_X0_term
set_option maxRecDepth 20000 in
theorem ggX0_copyPointsTo_X1_times : GoodIn wsX0_copyPointsTo wsX1_times := goodIn_r _ [19, 20, 35, 36, 37, 38, 39] (by decide +kernel) (by decide +kernel)
set_option maxRecDepth 20000 in
theorem gX0_copyPointsTo_X1_times : GoodIn wsX0_copyPointsTo (wsV RX0 36 RX1 yX1_times wsX1_times) := goodIn_app (goodIn_of _ (by decide +kernel)) ggX0_copyPointsTo_X1_times
set_option maxRecDepth 20000 in
theorem ggX0_copyPointsTo_X1_plus : GoodIn wsX0_copyPointsTo wsX1_plus := goodIn_r _ [24, 25, 35, 36, 37, 38, 39] (by decide +kernel) (by decide +kernel)
set_option maxRecDepth 20000 in
theorem gX0_copyPointsTo_X1_plus : GoodIn wsX0_copyPointsTo (wsV RX0 48 RX1 yX1_plus wsX1_plus) := goodIn_app (goodIn_of _ (by decide +kernel)) ggX0_copyPointsTo_X1_plus
theorem dX0_copyPointsTo_0 : decode cX0_copyPointsTo 0 = .ok (.iconst 0, 1) := by decide +kernel
theorem dX0_copyPointsTo_1 : decode cX0_copyPointsTo 1 = .ok (.istore_n 2, 1) := by decide +kernel
theorem dX0_copyPointsTo_2 : decode cX0_copyPointsTo 2 = .ok (.iload_n 2, 1) := by decide +kernel
theorem dX0_copyPointsTo_3 : decode cX0_copyPointsTo 3 = .ok (.aload_n 0, 1) := by decide +kernel
theorem dX0_copyPointsTo_4 : decode cX0_copyPointsTo 4 = .ok (.getfield 21, 3) := by decide +kernel
theorem dX0_copyPointsTo_7 : decode cX0_copyPointsTo 7 = .ok (.getfield 41, 3) := by decide +kernel
theorem dX0_copyPointsTo_10 : decode cX0_copyPointsTo 10 = .ok (.if_icmp .ge 69, 3) := by decide +kernel
theorem dX0_copyPointsTo_13 : decode cX0_copyPointsTo 13 = .ok (.iconst 0, 1) := by decide +kernel
theorem dX0_copyPointsTo_14 : decode cX0_copyPointsTo 14 = .ok (.istore_n 3, 1) := by decide +kernel
theorem dX0_copyPointsTo_15 : decode cX0_copyPointsTo 15 = .ok (.iconst 0, 1) := by decide +kernel
theorem dX0_copyPointsTo_16 : decode cX0_copyPointsTo 16 = .ok (.istore 4, 2) := by decide +kernel
theorem dX0_copyPointsTo_18 : decode cX0_copyPointsTo 18 = .ok (.iload 4, 2) := by decide +kernel
theorem dX0_copyPointsTo_20 : decode cX0_copyPointsTo 20 = .ok (.bipush 6, 2) := by decide +kernel
theorem dX0_copyPointsTo_22 : decode cX0_copyPointsTo 22 = .ok (.if_icmp .ge 39, 3) := by decide +kernel
theorem dX0_copyPointsTo_25 : decode cX0_copyPointsTo 25 = .ok (.aload_n 0, 1) := by decide +kernel
theorem dX0_copyPointsTo_26 : decode cX0_copyPointsTo 26 = .ok (.getfield 31, 3) := by decide +kernel
theorem dX0_copyPointsTo_29 : decode cX0_copyPointsTo 29 = .ok (.iload_n 3, 1) := by decide +kernel
theorem dX0_copyPointsTo_30 : decode cX0_copyPointsTo 30 = .ok (.aload_n 0, 1) := by decide +kernel
theorem dX0_copyPointsTo_31 : decode cX0_copyPointsTo 31 = .ok (.getfield 31, 3) := by decide +kernel
theorem dX0_copyPointsTo_34 : decode cX0_copyPointsTo 34 = .ok (.aload_n 0, 1) := by decide +kernel
theorem dX0_copyPointsTo_35 : decode cX0_copyPointsTo 35 = .ok (.getfield 9, 3) := by decide +kernel
theorem dX0_copyPointsTo_38 : decode cX0_copyPointsTo 38 = .ok (.iload 4, 2) := by decide +kernel
theorem dX0_copyPointsTo_40 : decode cX0_copyPointsTo 40 = .ok (.iaload, 1) := by decide +kernel
theorem dX0_copyPointsTo_41 : decode cX0_copyPointsTo 41 = .ok (.aload_n 0, 1) := by decide +kernel
theorem dX0_copyPointsTo_42 : decode cX0_copyPointsTo 42 = .ok (.iload_n 2, 1) := by decide +kernel
theorem dX0_copyPointsTo_43 : decode cX0_copyPointsTo 43 = .ok (.iload 4, 2) := by decide +kernel
theorem dX0_copyPointsTo_45 : decode cX0_copyPointsTo 45 = .ok (.invokevirtual 45, 3) := by decide +kernel
theorem dX0_copyPointsTo_48 : decode cX0_copyPointsTo 48 = .ok (.invokevirtual 36, 3) := by decide +kernel
theorem dX0_copyPointsTo_51 : decode cX0_copyPointsTo 51 = .ok (.invokevirtual 48, 3) := by decide +kernel
theorem dX0_copyPointsTo_54 : decode cX0_copyPointsTo 54 = .ok (.istore_n 3, 1) := by decide +kernel
theorem dX0_copyPointsTo_55 : decode cX0_copyPointsTo 55 = .ok (.iinc 4 1, 3) := by decide +kernel
theorem dX0_copyPointsTo_58 : decode cX0_copyPointsTo 58 = .ok (.goto (-40), 3) := by decide +kernel
theorem dX0_copyPointsTo_61 : decode cX0_copyPointsTo 61 = .ok (.aload_n 1, 1) := by decide +kernel
theorem dX0_copyPointsTo_62 : decode cX0_copyPointsTo 62 = .ok (.iload_n 2, 1) := by decide +kernel
theorem dX0_copyPointsTo_63 : decode cX0_copyPointsTo 63 = .ok (.iload_n 3, 1) := by decide +kernel
theorem dX0_copyPointsTo_64 : decode cX0_copyPointsTo 64 = .ok (.ifCond .ne 7, 3) := by decide +kernel
theorem dX0_copyPointsTo_67 : decode cX0_copyPointsTo 67 = .ok (.iconst 1, 1) := by decide +kernel
theorem dX0_copyPointsTo_68 : decode cX0_copyPointsTo 68 = .ok (.goto 4, 3) := by decide +kernel
theorem dX0_copyPointsTo_71 : decode cX0_copyPointsTo 71 = .ok (.iconst 0, 1) := by decide +kernel
theorem dX0_copyPointsTo_72 : decode cX0_copyPointsTo 72 = .ok (.bastore, 1) := by decide +kernel
theorem dX0_copyPointsTo_73 : decode cX0_copyPointsTo 73 = .ok (.iinc 2 1, 3) := by decide +kernel
theorem dX0_copyPointsTo_76 : decode cX0_copyPointsTo 76 = .ok (.goto (-74), 3) := by decide +kernel
theorem dX0_copyPointsTo_79 : decode cX0_copyPointsTo 79 = .ok (.return_, 1) := by decide +kernel
set_option maxRecDepth 20000 in
theorem ggX0_passThrough_X0_listTerms : GoodIn wsX0_passThrough wsX0_listTerms := goodIn_r _ [9, 10, 4, 11, 12, 13, 14, 15, 16, 17, 18, 19, 8, 20, 3, 21, 22, 23, 24, 25, 26, 27, 28, 29, 30, 31, 71, 72, 73, 74, 75, 76, 77, 78, 79, 80, 81, 82, 83, 84] (by decide +kernel) (by decide +kernel)
set_option maxRecDepth 20000 in
theorem gX0_passThrough_X0_listTerms : GoodIn wsX0_passThrough (wsV RX0 51 RX0 yX0_listTerms wsX0_listTerms) := goodIn_app (goodIn_of _ (by decide +kernel)) ggX0_passThrough_X0_listTerms
set_option maxRecDepth 20000 in
theorem ggX0_passThrough_X0_reduce : GoodIn wsX0_passThrough wsX0_reduce := goodIn_r _ [35, 2, 36, 37, 38, 8, 39, 4, 40, 41, 42, 43, 44, 45, 46, 47, 3, 48, 49, 50, 29, 51, 31, 52, 53, 54, 55, 56, 26, 27, 28, 30, 57, 58, 59, 60, 61, 62, 71, 72, 73, 74, 75, 80, 81, 82, 83, 84] (by decide +kernel) (by decide +kernel)
set_option maxRecDepth 20000 in
theorem gX0_passThrough_X0_reduce : GoodIn wsX0_passThrough (wsV RX0 55 RX0 yX0_reduce wsX0_reduce) := goodIn_app (goodIn_of _ (by decide +kernel)) ggX0_passThrough_X0_reduce
set_option maxRecDepth 20000 in
theorem ggX0_passThrough_X1_opposite : GoodIn wsX0_passThrough wsX1_opposite := goodIn_r _ [66, 62, 80, 81, 82, 83, 84] (by decide +kernel) (by decide +kernel)
set_option maxRecDepth 20000 in
theorem gX0_passThrough_X1_opposite : GoodIn wsX0_passThrough (wsV RX0 59 RX1 yX1_opposite wsX1_opposite) := goodIn_app (goodIn_of _ (by decide +kernel)) ggX0_passThrough_X1_opposite
set_option maxRecDepth 20000 in
theorem ggX0_passThrough_X6_scaleToTold : GoodIn wsX0_passThrough wsX6_scaleToTold := goodIn_r _ [69, 70, 49, 50, 29, 51, 31, 52, 80, 81, 82, 83, 84] (by decide +kernel) (by decide +kernel)
set_option maxRecDepth 20000 in
theorem gX0_passThrough_X6_scaleToTold_n63 : GoodIn wsX0_passThrough (wsX6_scaleToTold) := ggX0_passThrough_X6_scaleToTold
theorem dX0_passThrough_0 : decode cX0_passThrough 0 = .ok (.aload_n 0, 1) := by decide +kernel
theorem dX0_passThrough_1 : decode cX0_passThrough 1 = .ok (.aload_n 1, 1) := by decide +kernel
theorem dX0_passThrough_2 : decode cX0_passThrough 2 = .ok (.invokevirtual 51, 3) := by decide +kernel
theorem dX0_passThrough_5 : decode cX0_passThrough 5 = .ok (.aload_n 0, 1) := by decide +kernel
theorem dX0_passThrough_6 : decode cX0_passThrough 6 = .ok (.invokevirtual 55, 3) := by decide +kernel
theorem dX0_passThrough_9 : decode cX0_passThrough 9 = .ok (.istore_n 2, 1) := by decide +kernel
theorem dX0_passThrough_10 : decode cX0_passThrough 10 = .ok (.iconst 0, 1) := by decide +kernel
theorem dX0_passThrough_11 : decode cX0_passThrough 11 = .ok (.istore_n 3, 1) := by decide +kernel
theorem dX0_passThrough_12 : decode cX0_passThrough 12 = .ok (.iload_n 3, 1) := by decide +kernel
theorem dX0_passThrough_13 : decode cX0_passThrough 13 = .ok (.bipush 6, 2) := by decide +kernel
theorem dX0_passThrough_15 : decode cX0_passThrough 15 = .ok (.if_icmp .ge 25, 3) := by decide +kernel
theorem dX0_passThrough_18 : decode cX0_passThrough 18 = .ok (.aload_n 0, 1) := by decide +kernel
theorem dX0_passThrough_19 : decode cX0_passThrough 19 = .ok (.getfield 9, 3) := by decide +kernel
theorem dX0_passThrough_22 : decode cX0_passThrough 22 = .ok (.iload_n 3, 1) := by decide +kernel
theorem dX0_passThrough_23 : decode cX0_passThrough 23 = .ok (.iload_n 3, 1) := by decide +kernel
theorem dX0_passThrough_24 : decode cX0_passThrough 24 = .ok (.iload_n 2, 1) := by decide +kernel
theorem dX0_passThrough_25 : decode cX0_passThrough 25 = .ok (.if_icmp .ne 7, 3) := by decide +kernel
theorem dX0_passThrough_28 : decode cX0_passThrough 28 = .ok (.iconst 1, 1) := by decide +kernel
theorem dX0_passThrough_29 : decode cX0_passThrough 29 = .ok (.goto 4, 3) := by decide +kernel
theorem dX0_passThrough_32 : decode cX0_passThrough 32 = .ok (.iconst 0, 1) := by decide +kernel
theorem dX0_passThrough_33 : decode cX0_passThrough 33 = .ok (.iastore, 1) := by decide +kernel
theorem dX0_passThrough_34 : decode cX0_passThrough 34 = .ok (.iinc 3 1, 3) := by decide +kernel
theorem dX0_passThrough_37 : decode cX0_passThrough 37 = .ok (.goto (-25), 3) := by decide +kernel
theorem dX0_passThrough_40 : decode cX0_passThrough 40 = .ok (.iconst 0, 1) := by decide +kernel
theorem dX0_passThrough_41 : decode cX0_passThrough 41 = .ok (.istore_n 3, 1) := by decide +kernel
theorem dX0_passThrough_42 : decode cX0_passThrough 42 = .ok (.iload_n 3, 1) := by decide +kernel
theorem dX0_passThrough_43 : decode cX0_passThrough 43 = .ok (.iconst 5, 1) := by decide +kernel
theorem dX0_passThrough_44 : decode cX0_passThrough 44 = .ok (.if_icmp .ge 38, 3) := by decide +kernel
theorem dX0_passThrough_47 : decode cX0_passThrough 47 = .ok (.aload_n 0, 1) := by decide +kernel
theorem dX0_passThrough_48 : decode cX0_passThrough 48 = .ok (.getfield 9, 3) := by decide +kernel
theorem dX0_passThrough_51 : decode cX0_passThrough 51 = .ok (.aload_n 0, 1) := by decide +kernel
theorem dX0_passThrough_52 : decode cX0_passThrough 52 = .ok (.getfield 18, 3) := by decide +kernel
theorem dX0_passThrough_55 : decode cX0_passThrough 55 = .ok (.iload_n 3, 1) := by decide +kernel
theorem dX0_passThrough_56 : decode cX0_passThrough 56 = .ok (.iaload, 1) := by decide +kernel
theorem dX0_passThrough_57 : decode cX0_passThrough 57 = .ok (.aload_n 0, 1) := by decide +kernel
theorem dX0_passThrough_58 : decode cX0_passThrough 58 = .ok (.getfield 31, 3) := by decide +kernel
theorem dX0_passThrough_61 : decode cX0_passThrough 61 = .ok (.aload_n 0, 1) := by decide +kernel
theorem dX0_passThrough_62 : decode cX0_passThrough 62 = .ok (.getfield 15, 3) := by decide +kernel
theorem dX0_passThrough_65 : decode cX0_passThrough 65 = .ok (.iload_n 3, 1) := by decide +kernel
theorem dX0_passThrough_66 : decode cX0_passThrough 66 = .ok (.bipush 6, 2) := by decide +kernel
theorem dX0_passThrough_68 : decode cX0_passThrough 68 = .ok (.imul, 1) := by decide +kernel
theorem dX0_passThrough_69 : decode cX0_passThrough 69 = .ok (.iload_n 2, 1) := by decide +kernel
theorem dX0_passThrough_70 : decode cX0_passThrough 70 = .ok (.iadd, 1) := by decide +kernel
theorem dX0_passThrough_71 : decode cX0_passThrough 71 = .ok (.iaload, 1) := by decide +kernel
theorem dX0_passThrough_72 : decode cX0_passThrough 72 = .ok (.invokevirtual 59, 3) := by decide +kernel
theorem dX0_passThrough_75 : decode cX0_passThrough 75 = .ok (.iastore, 1) := by decide +kernel
theorem dX0_passThrough_76 : decode cX0_passThrough 76 = .ok (.iinc 3 1, 3) := by decide +kernel
theorem dX0_passThrough_79 : decode cX0_passThrough 79 = .ok (.goto (-37), 3) := by decide +kernel
theorem dX0_passThrough_82 : decode cX0_passThrough 82 = .ok (.aload_n 0, 1) := by decide +kernel
theorem dX0_passThrough_83 : decode cX0_passThrough 83 = .ok (.getfield 31, 3) := by decide +kernel
theorem dX0_passThrough_86 : decode cX0_passThrough 86 = .ok (.aload_n 0, 1) := by decide +kernel
theorem dX0_passThrough_87 : decode cX0_passThrough 87 = .ok (.getfield 9, 3) := by decide +kernel
theorem dX0_passThrough_90 : decode cX0_passThrough 90 = .ok (.invokestatic 63, 3) := by decide +kernel
theorem dX0_passThrough_93 : decode cX0_passThrough 93 = .ok (.return_, 1) := by decide +kernel
set_option maxRecDepth 20000 in
theorem ggX0_listTerms_X3_pick : GoodIn wsX0_listTerms wsX3_pick := goodIn_r _ [7, 8, 31, 32, 33, 34] (by decide +kernel) (by decide +kernel)
set_option maxRecDepth 20000 in
theorem gX0_listTerms_X3_pick : GoodIn wsX0_listTerms (wsV RX0 67 RX3 yX3_pick wsX3_pick) := goodIn_app (goodIn_of _ (by decide +kernel)) ggX0_listTerms_X3_pick
set_option maxRecDepth 20000 in
theorem ggX0_listTerms_X0_term : GoodIn wsX0_listTerms wsX0_term := goodIn_r _ [13, 1, 14, 15, 16, 17, 6, 18, 19, 20, 21, 22, 23, 24, 25, 26, 27, 28, 29, 30, 31, 32, 33, 34, 35, 36, 37, 38, 39] (by decide +kernel) (by decide +kernel)
set_option maxRecDepth 20000 in
theorem gX0_listTerms_X0_term : GoodIn wsX0_listTerms (wsV RX0 45 RX0 yX0_term wsX0_term) := goodIn_app (goodIn_of _ (by decide +kernel)) ggX0_listTerms_X0_term
theorem dX0_listTerms_0 : decode cX0_listTerms 0 = .ok (.iconst 0, 1) := by decide +kernel
theorem dX0_listTerms_1 : decode cX0_listTerms 1 = .ok (.istore_n 2, 1) := by decide +kernel
theorem dX0_listTerms_2 : decode cX0_listTerms 2 = .ok (.iload_n 2, 1) := by decide +kernel
theorem dX0_listTerms_3 : decode cX0_listTerms 3 = .ok (.iconst 5, 1) := by decide +kernel
theorem dX0_listTerms_4 : decode cX0_listTerms 4 = .ok (.if_icmp .ge 63, 3) := by decide +kernel
theorem dX0_listTerms_7 : decode cX0_listTerms 7 = .ok (.aload_n 0, 1) := by decide +kernel
theorem dX0_listTerms_8 : decode cX0_listTerms 8 = .ok (.getfield 21, 3) := by decide +kernel
theorem dX0_listTerms_11 : decode cX0_listTerms 11 = .ok (.aload_n 1, 1) := by decide +kernel
theorem dX0_listTerms_12 : decode cX0_listTerms 12 = .ok (.iload_n 2, 1) := by decide +kernel
theorem dX0_listTerms_13 : decode cX0_listTerms 13 = .ok (.invokevirtual 67, 3) := by decide +kernel
theorem dX0_listTerms_16 : decode cX0_listTerms 16 = .ok (.istore_n 3, 1) := by decide +kernel
theorem dX0_listTerms_17 : decode cX0_listTerms 17 = .ok (.iconst 0, 1) := by decide +kernel
theorem dX0_listTerms_18 : decode cX0_listTerms 18 = .ok (.istore 4, 2) := by decide +kernel
theorem dX0_listTerms_20 : decode cX0_listTerms 20 = .ok (.iload 4, 2) := by decide +kernel
theorem dX0_listTerms_22 : decode cX0_listTerms 22 = .ok (.bipush 6, 2) := by decide +kernel
theorem dX0_listTerms_24 : decode cX0_listTerms 24 = .ok (.if_icmp .ge 37, 3) := by decide +kernel
theorem dX0_listTerms_27 : decode cX0_listTerms 27 = .ok (.aload_n 0, 1) := by decide +kernel
theorem dX0_listTerms_28 : decode cX0_listTerms 28 = .ok (.getfield 15, 3) := by decide +kernel
theorem dX0_listTerms_31 : decode cX0_listTerms 31 = .ok (.iload_n 2, 1) := by decide +kernel
theorem dX0_listTerms_32 : decode cX0_listTerms 32 = .ok (.bipush 6, 2) := by decide +kernel
theorem dX0_listTerms_34 : decode cX0_listTerms 34 = .ok (.imul, 1) := by decide +kernel
theorem dX0_listTerms_35 : decode cX0_listTerms 35 = .ok (.iload 4, 2) := by decide +kernel
theorem dX0_listTerms_37 : decode cX0_listTerms 37 = .ok (.iadd, 1) := by decide +kernel
theorem dX0_listTerms_38 : decode cX0_listTerms 38 = .ok (.iload_n 3, 1) := by decide +kernel
theorem dX0_listTerms_39 : decode cX0_listTerms 39 = .ok (.iconst (-1), 1) := by decide +kernel
theorem dX0_listTerms_40 : decode cX0_listTerms 40 = .ok (.if_icmp .ne 7, 3) := by decide +kernel
theorem dX0_listTerms_43 : decode cX0_listTerms 43 = .ok (.iconst 0, 1) := by decide +kernel
theorem dX0_listTerms_44 : decode cX0_listTerms 44 = .ok (.goto 10, 3) := by decide +kernel
theorem dX0_listTerms_47 : decode cX0_listTerms 47 = .ok (.aload_n 0, 1) := by decide +kernel
theorem dX0_listTerms_48 : decode cX0_listTerms 48 = .ok (.iload_n 3, 1) := by decide +kernel
theorem dX0_listTerms_49 : decode cX0_listTerms 49 = .ok (.iload 4, 2) := by decide +kernel
theorem dX0_listTerms_51 : decode cX0_listTerms 51 = .ok (.invokevirtual 45, 3) := by decide +kernel
theorem dX0_listTerms_54 : decode cX0_listTerms 54 = .ok (.iastore, 1) := by decide +kernel
theorem dX0_listTerms_55 : decode cX0_listTerms 55 = .ok (.iinc 4 1, 3) := by decide +kernel
theorem dX0_listTerms_58 : decode cX0_listTerms 58 = .ok (.goto (-38), 3) := by decide +kernel
theorem dX0_listTerms_61 : decode cX0_listTerms 61 = .ok (.iinc 2 1, 3) := by decide +kernel
theorem dX0_listTerms_64 : decode cX0_listTerms 64 = .ok (.goto (-62), 3) := by decide +kernel
theorem dX0_listTerms_67 : decode cX0_listTerms 67 = .ok (.return_, 1) := by decide +kernel
set_option maxRecDepth 20000 in
theorem ggX0_reduce_X0_findPivot : GoodIn wsX0_reduce wsX0_findPivot := goodIn_r _ [6, 7, 38, 39, 40, 41, 42] (by decide +kernel) (by decide +kernel)
set_option maxRecDepth 20000 in
theorem gX0_reduce_X0_findPivot : GoodIn wsX0_reduce (wsV RX0 71 RX0 yX0_findPivot wsX0_findPivot) := goodIn_app (goodIn_of _ (by decide +kernel)) ggX0_reduce_X0_findPivot
set_option maxRecDepth 20000 in
theorem ggX0_reduce_X0_swapRows : GoodIn wsX0_reduce wsX0_swapRows := goodIn_r _ [11, 7, 38, 39, 40, 41, 42] (by decide +kernel) (by decide +kernel)
set_option maxRecDepth 20000 in
theorem gX0_reduce_X0_swapRows : GoodIn wsX0_reduce (wsV RX0 74 RX0 yX0_swapRows wsX0_swapRows) := goodIn_app (goodIn_of _ (by decide +kernel)) ggX0_reduce_X0_swapRows
set_option maxRecDepth 20000 in
theorem ggX0_reduce_X0_clearColumn : GoodIn wsX0_reduce wsX0_clearColumn := goodIn_r _ [15, 7, 16, 17, 18, 19, 20, 21, 22, 23, 24, 25, 26, 5, 27, 28, 29, 30, 31, 32, 33, 34, 35, 36, 37, 38, 39, 40, 41, 42, 43, 44, 45, 46, 47] (by decide +kernel) (by decide +kernel)
set_option maxRecDepth 20000 in
theorem gX0_reduce_X0_clearColumn : GoodIn wsX0_reduce (wsV RX0 78 RX0 yX0_clearColumn wsX0_clearColumn) := goodIn_app (goodIn_of _ (by decide +kernel)) ggX0_reduce_X0_clearColumn
theorem dX0_reduce_0 : decode cX0_reduce 0 = .ok (.iconst 5, 1) := by decide +kernel
theorem dX0_reduce_1 : decode cX0_reduce 1 = .ok (.istore_n 1, 1) := by decide +kernel
theorem dX0_reduce_2 : decode cX0_reduce 2 = .ok (.iconst 0, 1) := by decide +kernel
theorem dX0_reduce_3 : decode cX0_reduce 3 = .ok (.istore_n 2, 1) := by decide +kernel
theorem dX0_reduce_4 : decode cX0_reduce 4 = .ok (.iconst 0, 1) := by decide +kernel
theorem dX0_reduce_5 : decode cX0_reduce 5 = .ok (.istore_n 3, 1) := by decide +kernel
theorem dX0_reduce_6 : decode cX0_reduce 6 = .ok (.iload_n 3, 1) := by decide +kernel
theorem dX0_reduce_7 : decode cX0_reduce 7 = .ok (.bipush 6, 2) := by decide +kernel
theorem dX0_reduce_9 : decode cX0_reduce 9 = .ok (.if_icmp .ge 51, 3) := by decide +kernel
theorem dX0_reduce_12 : decode cX0_reduce 12 = .ok (.aload_n 0, 1) := by decide +kernel
theorem dX0_reduce_13 : decode cX0_reduce 13 = .ok (.iload_n 2, 1) := by decide +kernel
theorem dX0_reduce_14 : decode cX0_reduce 14 = .ok (.iload_n 3, 1) := by decide +kernel
theorem dX0_reduce_15 : decode cX0_reduce 15 = .ok (.invokevirtual 71, 3) := by decide +kernel
theorem dX0_reduce_18 : decode cX0_reduce 18 = .ok (.istore 4, 2) := by decide +kernel
theorem dX0_reduce_20 : decode cX0_reduce 20 = .ok (.iload 4, 2) := by decide +kernel
theorem dX0_reduce_22 : decode cX0_reduce 22 = .ok (.iconst (-1), 1) := by decide +kernel
theorem dX0_reduce_23 : decode cX0_reduce 23 = .ok (.if_icmp .ne 8, 3) := by decide +kernel
theorem dX0_reduce_26 : decode cX0_reduce 26 = .ok (.iload_n 3, 1) := by decide +kernel
theorem dX0_reduce_27 : decode cX0_reduce 27 = .ok (.istore_n 1, 1) := by decide +kernel
theorem dX0_reduce_28 : decode cX0_reduce 28 = .ok (.goto 26, 3) := by decide +kernel
theorem dX0_reduce_31 : decode cX0_reduce 31 = .ok (.aload_n 0, 1) := by decide +kernel
theorem dX0_reduce_32 : decode cX0_reduce 32 = .ok (.iload_n 2, 1) := by decide +kernel
theorem dX0_reduce_33 : decode cX0_reduce 33 = .ok (.iload 4, 2) := by decide +kernel
theorem dX0_reduce_35 : decode cX0_reduce 35 = .ok (.invokevirtual 74, 3) := by decide +kernel
theorem dX0_reduce_38 : decode cX0_reduce 38 = .ok (.aload_n 0, 1) := by decide +kernel
theorem dX0_reduce_39 : decode cX0_reduce 39 = .ok (.iload_n 2, 1) := by decide +kernel
theorem dX0_reduce_40 : decode cX0_reduce 40 = .ok (.iload_n 3, 1) := by decide +kernel
theorem dX0_reduce_41 : decode cX0_reduce 41 = .ok (.invokevirtual 78, 3) := by decide +kernel
theorem dX0_reduce_44 : decode cX0_reduce 44 = .ok (.aload_n 0, 1) := by decide +kernel
theorem dX0_reduce_45 : decode cX0_reduce 45 = .ok (.getfield 18, 3) := by decide +kernel
theorem dX0_reduce_48 : decode cX0_reduce 48 = .ok (.iload_n 2, 1) := by decide +kernel
theorem dX0_reduce_49 : decode cX0_reduce 49 = .ok (.iload_n 3, 1) := by decide +kernel
theorem dX0_reduce_50 : decode cX0_reduce 50 = .ok (.iastore, 1) := by decide +kernel
theorem dX0_reduce_51 : decode cX0_reduce 51 = .ok (.iinc 2 1, 3) := by decide +kernel
theorem dX0_reduce_54 : decode cX0_reduce 54 = .ok (.iinc 3 1, 3) := by decide +kernel
theorem dX0_reduce_57 : decode cX0_reduce 57 = .ok (.goto (-51), 3) := by decide +kernel
theorem dX0_reduce_60 : decode cX0_reduce 60 = .ok (.iload_n 1, 1) := by decide +kernel
theorem dX0_reduce_61 : decode cX0_reduce 61 = .ok (.ireturn, 1) := by decide +kernel
theorem dX0_findPivot_0 : decode cX0_findPivot 0 = .ok (.iload_n 1, 1) := by decide +kernel
theorem dX0_findPivot_1 : decode cX0_findPivot 1 = .ok (.istore_n 3, 1) := by decide +kernel
theorem dX0_findPivot_2 : decode cX0_findPivot 2 = .ok (.iload_n 3, 1) := by decide +kernel
theorem dX0_findPivot_3 : decode cX0_findPivot 3 = .ok (.iconst 5, 1) := by decide +kernel
theorem dX0_findPivot_4 : decode cX0_findPivot 4 = .ok (.if_icmp .ge 25, 3) := by decide +kernel
theorem dX0_findPivot_7 : decode cX0_findPivot 7 = .ok (.aload_n 0, 1) := by decide +kernel
theorem dX0_findPivot_8 : decode cX0_findPivot 8 = .ok (.getfield 15, 3) := by decide +kernel
theorem dX0_findPivot_11 : decode cX0_findPivot 11 = .ok (.iload_n 3, 1) := by decide +kernel
theorem dX0_findPivot_12 : decode cX0_findPivot 12 = .ok (.bipush 6, 2) := by decide +kernel
theorem dX0_findPivot_14 : decode cX0_findPivot 14 = .ok (.imul, 1) := by decide +kernel
theorem dX0_findPivot_15 : decode cX0_findPivot 15 = .ok (.iload_n 2, 1) := by decide +kernel
theorem dX0_findPivot_16 : decode cX0_findPivot 16 = .ok (.iadd, 1) := by decide +kernel
theorem dX0_findPivot_17 : decode cX0_findPivot 17 = .ok (.iaload, 1) := by decide +kernel
theorem dX0_findPivot_18 : decode cX0_findPivot 18 = .ok (.ifCond .eq 5, 3) := by decide +kernel
theorem dX0_findPivot_21 : decode cX0_findPivot 21 = .ok (.iload_n 3, 1) := by decide +kernel
theorem dX0_findPivot_22 : decode cX0_findPivot 22 = .ok (.ireturn, 1) := by decide +kernel
theorem dX0_findPivot_23 : decode cX0_findPivot 23 = .ok (.iinc 3 1, 3) := by decide +kernel
theorem dX0_findPivot_26 : decode cX0_findPivot 26 = .ok (.goto (-24), 3) := by decide +kernel
theorem dX0_findPivot_29 : decode cX0_findPivot 29 = .ok (.iconst (-1), 1) := by decide +kernel
theorem dX0_findPivot_30 : decode cX0_findPivot 30 = .ok (.ireturn, 1) := by decide +kernel
theorem dX0_swapRows_0 : decode cX0_swapRows 0 = .ok (.iconst 0, 1) := by decide +kernel
theorem dX0_swapRows_1 : decode cX0_swapRows 1 = .ok (.istore_n 3, 1) := by decide +kernel
theorem dX0_swapRows_2 : decode cX0_swapRows 2 = .ok (.iload_n 3, 1) := by decide +kernel
theorem dX0_swapRows_3 : decode cX0_swapRows 3 = .ok (.bipush 6, 2) := by decide +kernel
theorem dX0_swapRows_5 : decode cX0_swapRows 5 = .ok (.if_icmp .ge 57, 3) := by decide +kernel
theorem dX0_swapRows_8 : decode cX0_swapRows 8 = .ok (.aload_n 0, 1) := by decide +kernel
theorem dX0_swapRows_9 : decode cX0_swapRows 9 = .ok (.getfield 15, 3) := by decide +kernel
theorem dX0_swapRows_12 : decode cX0_swapRows 12 = .ok (.iload_n 1, 1) := by decide +kernel
theorem dX0_swapRows_13 : decode cX0_swapRows 13 = .ok (.bipush 6, 2) := by decide +kernel
theorem dX0_swapRows_15 : decode cX0_swapRows 15 = .ok (.imul, 1) := by decide +kernel
theorem dX0_swapRows_16 : decode cX0_swapRows 16 = .ok (.iload_n 3, 1) := by decide +kernel
theorem dX0_swapRows_17 : decode cX0_swapRows 17 = .ok (.iadd, 1) := by decide +kernel
theorem dX0_swapRows_18 : decode cX0_swapRows 18 = .ok (.iaload, 1) := by decide +kernel
theorem dX0_swapRows_19 : decode cX0_swapRows 19 = .ok (.istore 4, 2) := by decide +kernel
theorem dX0_swapRows_21 : decode cX0_swapRows 21 = .ok (.aload_n 0, 1) := by decide +kernel
theorem dX0_swapRows_22 : decode cX0_swapRows 22 = .ok (.getfield 15, 3) := by decide +kernel
theorem dX0_swapRows_25 : decode cX0_swapRows 25 = .ok (.iload_n 1, 1) := by decide +kernel
theorem dX0_swapRows_26 : decode cX0_swapRows 26 = .ok (.bipush 6, 2) := by decide +kernel
theorem dX0_swapRows_28 : decode cX0_swapRows 28 = .ok (.imul, 1) := by decide +kernel
theorem dX0_swapRows_29 : decode cX0_swapRows 29 = .ok (.iload_n 3, 1) := by decide +kernel
theorem dX0_swapRows_30 : decode cX0_swapRows 30 = .ok (.iadd, 1) := by decide +kernel
theorem dX0_swapRows_31 : decode cX0_swapRows 31 = .ok (.aload_n 0, 1) := by decide +kernel
theorem dX0_swapRows_32 : decode cX0_swapRows 32 = .ok (.getfield 15, 3) := by decide +kernel
theorem dX0_swapRows_35 : decode cX0_swapRows 35 = .ok (.iload_n 2, 1) := by decide +kernel
theorem dX0_swapRows_36 : decode cX0_swapRows 36 = .ok (.bipush 6, 2) := by decide +kernel
theorem dX0_swapRows_38 : decode cX0_swapRows 38 = .ok (.imul, 1) := by decide +kernel
theorem dX0_swapRows_39 : decode cX0_swapRows 39 = .ok (.iload_n 3, 1) := by decide +kernel
theorem dX0_swapRows_40 : decode cX0_swapRows 40 = .ok (.iadd, 1) := by decide +kernel
theorem dX0_swapRows_41 : decode cX0_swapRows 41 = .ok (.iaload, 1) := by decide +kernel
theorem dX0_swapRows_42 : decode cX0_swapRows 42 = .ok (.iastore, 1) := by decide +kernel
theorem dX0_swapRows_43 : decode cX0_swapRows 43 = .ok (.aload_n 0, 1) := by decide +kernel
theorem dX0_swapRows_44 : decode cX0_swapRows 44 = .ok (.getfield 15, 3) := by decide +kernel
theorem dX0_swapRows_47 : decode cX0_swapRows 47 = .ok (.iload_n 2, 1) := by decide +kernel
theorem dX0_swapRows_48 : decode cX0_swapRows 48 = .ok (.bipush 6, 2) := by decide +kernel
theorem dX0_swapRows_50 : decode cX0_swapRows 50 = .ok (.imul, 1) := by decide +kernel
theorem dX0_swapRows_51 : decode cX0_swapRows 51 = .ok (.iload_n 3, 1) := by decide +kernel
theorem dX0_swapRows_52 : decode cX0_swapRows 52 = .ok (.iadd, 1) := by decide +kernel
theorem dX0_swapRows_53 : decode cX0_swapRows 53 = .ok (.iload 4, 2) := by decide +kernel
theorem dX0_swapRows_55 : decode cX0_swapRows 55 = .ok (.iastore, 1) := by decide +kernel
theorem dX0_swapRows_56 : decode cX0_swapRows 56 = .ok (.iinc 3 1, 3) := by decide +kernel
theorem dX0_swapRows_59 : decode cX0_swapRows 59 = .ok (.goto (-57), 3) := by decide +kernel
theorem dX0_swapRows_62 : decode cX0_swapRows 62 = .ok (.return_, 1) := by decide +kernel
set_option maxRecDepth 20000 in
theorem ggX0_clearColumn_X1_over : GoodIn wsX0_clearColumn wsX1_over := goodIn_r _ [7, 8, 9, 30, 31, 32, 33, 34] (by decide +kernel) (by decide +kernel)
set_option maxRecDepth 20000 in
theorem gX0_clearColumn_X1_over : GoodIn wsX0_clearColumn (wsV RX0 81 RX1 yX1_over wsX1_over) := goodIn_app (goodIn_of _ (by decide +kernel)) ggX0_clearColumn_X1_over
set_option maxRecDepth 20000 in
theorem ggX0_clearColumn_X0_takeMultiple : GoodIn wsX0_clearColumn wsX0_takeMultiple := goodIn_r _ [14, 2, 1, 15, 16, 17, 6, 18, 8, 19, 20, 21, 22, 23, 24, 25, 26, 27, 28, 29, 30, 31, 32, 33, 34] (by decide +kernel) (by decide +kernel)
set_option maxRecDepth 20000 in
theorem gX0_clearColumn_X0_takeMultiple : GoodIn wsX0_clearColumn (wsV RX0 84 RX0 yX0_takeMultiple wsX0_takeMultiple) := goodIn_app (goodIn_of _ (by decide +kernel)) ggX0_clearColumn_X0_takeMultiple
theorem dX0_clearColumn_0 : decode cX0_clearColumn 0 = .ok (.aload_n 0, 1) := by decide +kernel
theorem dX0_clearColumn_1 : decode cX0_clearColumn 1 = .ok (.getfield 15, 3) := by decide +kernel
theorem dX0_clearColumn_4 : decode cX0_clearColumn 4 = .ok (.iload_n 1, 1) := by decide +kernel
theorem dX0_clearColumn_5 : decode cX0_clearColumn 5 = .ok (.bipush 6, 2) := by decide +kernel
theorem dX0_clearColumn_7 : decode cX0_clearColumn 7 = .ok (.imul, 1) := by decide +kernel
theorem dX0_clearColumn_8 : decode cX0_clearColumn 8 = .ok (.iload_n 2, 1) := by decide +kernel
theorem dX0_clearColumn_9 : decode cX0_clearColumn 9 = .ok (.iadd, 1) := by decide +kernel
theorem dX0_clearColumn_10 : decode cX0_clearColumn 10 = .ok (.iaload, 1) := by decide +kernel
theorem dX0_clearColumn_11 : decode cX0_clearColumn 11 = .ok (.istore_n 3, 1) := by decide +kernel
theorem dX0_clearColumn_12 : decode cX0_clearColumn 12 = .ok (.iconst 0, 1) := by decide +kernel
theorem dX0_clearColumn_13 : decode cX0_clearColumn 13 = .ok (.istore 4, 2) := by decide +kernel
theorem dX0_clearColumn_15 : decode cX0_clearColumn 15 = .ok (.iload 4, 2) := by decide +kernel
theorem dX0_clearColumn_17 : decode cX0_clearColumn 17 = .ok (.bipush 6, 2) := by decide +kernel
theorem dX0_clearColumn_19 : decode cX0_clearColumn 19 = .ok (.if_icmp .ge 40, 3) := by decide +kernel
theorem dX0_clearColumn_22 : decode cX0_clearColumn 22 = .ok (.iload_n 1, 1) := by decide +kernel
theorem dX0_clearColumn_23 : decode cX0_clearColumn 23 = .ok (.bipush 6, 2) := by decide +kernel
theorem dX0_clearColumn_25 : decode cX0_clearColumn 25 = .ok (.imul, 1) := by decide +kernel
theorem dX0_clearColumn_26 : decode cX0_clearColumn 26 = .ok (.iload 4, 2) := by decide +kernel
theorem dX0_clearColumn_28 : decode cX0_clearColumn 28 = .ok (.iadd, 1) := by decide +kernel
theorem dX0_clearColumn_29 : decode cX0_clearColumn 29 = .ok (.istore 5, 2) := by decide +kernel
theorem dX0_clearColumn_31 : decode cX0_clearColumn 31 = .ok (.aload_n 0, 1) := by decide +kernel
theorem dX0_clearColumn_32 : decode cX0_clearColumn 32 = .ok (.getfield 15, 3) := by decide +kernel
theorem dX0_clearColumn_35 : decode cX0_clearColumn 35 = .ok (.iload 5, 2) := by decide +kernel
theorem dX0_clearColumn_37 : decode cX0_clearColumn 37 = .ok (.aload_n 0, 1) := by decide +kernel
theorem dX0_clearColumn_38 : decode cX0_clearColumn 38 = .ok (.getfield 31, 3) := by decide +kernel
theorem dX0_clearColumn_41 : decode cX0_clearColumn 41 = .ok (.aload_n 0, 1) := by decide +kernel
theorem dX0_clearColumn_42 : decode cX0_clearColumn 42 = .ok (.getfield 15, 3) := by decide +kernel
theorem dX0_clearColumn_45 : decode cX0_clearColumn 45 = .ok (.iload 5, 2) := by decide +kernel
theorem dX0_clearColumn_47 : decode cX0_clearColumn 47 = .ok (.iaload, 1) := by decide +kernel
theorem dX0_clearColumn_48 : decode cX0_clearColumn 48 = .ok (.iload_n 3, 1) := by decide +kernel
theorem dX0_clearColumn_49 : decode cX0_clearColumn 49 = .ok (.invokevirtual 81, 3) := by decide +kernel
theorem dX0_clearColumn_52 : decode cX0_clearColumn 52 = .ok (.iastore, 1) := by decide +kernel
theorem dX0_clearColumn_53 : decode cX0_clearColumn 53 = .ok (.iinc 4 1, 3) := by decide +kernel
theorem dX0_clearColumn_56 : decode cX0_clearColumn 56 = .ok (.goto (-41), 3) := by decide +kernel
theorem dX0_clearColumn_59 : decode cX0_clearColumn 59 = .ok (.iconst 0, 1) := by decide +kernel
theorem dX0_clearColumn_60 : decode cX0_clearColumn 60 = .ok (.istore 4, 2) := by decide +kernel
theorem dX0_clearColumn_62 : decode cX0_clearColumn 62 = .ok (.iload 4, 2) := by decide +kernel
theorem dX0_clearColumn_64 : decode cX0_clearColumn 64 = .ok (.iconst 5, 1) := by decide +kernel
theorem dX0_clearColumn_65 : decode cX0_clearColumn 65 = .ok (.if_icmp .ge 34, 3) := by decide +kernel
theorem dX0_clearColumn_68 : decode cX0_clearColumn 68 = .ok (.iload 4, 2) := by decide +kernel
theorem dX0_clearColumn_70 : decode cX0_clearColumn 70 = .ok (.iload_n 1, 1) := by decide +kernel
theorem dX0_clearColumn_71 : decode cX0_clearColumn 71 = .ok (.if_icmp .eq 22, 3) := by decide +kernel
theorem dX0_clearColumn_74 : decode cX0_clearColumn 74 = .ok (.aload_n 0, 1) := by decide +kernel
theorem dX0_clearColumn_75 : decode cX0_clearColumn 75 = .ok (.iload 4, 2) := by decide +kernel
theorem dX0_clearColumn_77 : decode cX0_clearColumn 77 = .ok (.iload_n 1, 1) := by decide +kernel
theorem dX0_clearColumn_78 : decode cX0_clearColumn 78 = .ok (.aload_n 0, 1) := by decide +kernel
theorem dX0_clearColumn_79 : decode cX0_clearColumn 79 = .ok (.getfield 15, 3) := by decide +kernel
theorem dX0_clearColumn_82 : decode cX0_clearColumn 82 = .ok (.iload 4, 2) := by decide +kernel
theorem dX0_clearColumn_84 : decode cX0_clearColumn 84 = .ok (.bipush 6, 2) := by decide +kernel
theorem dX0_clearColumn_86 : decode cX0_clearColumn 86 = .ok (.imul, 1) := by decide +kernel
theorem dX0_clearColumn_87 : decode cX0_clearColumn 87 = .ok (.iload_n 2, 1) := by decide +kernel
theorem dX0_clearColumn_88 : decode cX0_clearColumn 88 = .ok (.iadd, 1) := by decide +kernel
theorem dX0_clearColumn_89 : decode cX0_clearColumn 89 = .ok (.iaload, 1) := by decide +kernel
theorem dX0_clearColumn_90 : decode cX0_clearColumn 90 = .ok (.invokevirtual 84, 3) := by decide +kernel
theorem dX0_clearColumn_93 : decode cX0_clearColumn 93 = .ok (.iinc 4 1, 3) := by decide +kernel
theorem dX0_clearColumn_96 : decode cX0_clearColumn 96 = .ok (.goto (-34), 3) := by decide +kernel
theorem dX0_clearColumn_99 : decode cX0_clearColumn 99 = .ok (.return_, 1) := by decide +kernel
set_option maxRecDepth 20000 in
theorem ggX0_takeMultiple_X1_times : GoodIn wsX0_takeMultiple wsX1_times := goodIn_r _ [7, 8, 20, 21, 22, 23, 24] (by decide +kernel) (by decide +kernel)
set_option maxRecDepth 20000 in
theorem gX0_takeMultiple_X1_times : GoodIn wsX0_takeMultiple (wsV RX0 36 RX1 yX1_times wsX1_times) := goodIn_app (goodIn_of _ (by decide +kernel)) ggX0_takeMultiple_X1_times
set_option maxRecDepth 20000 in
theorem ggX0_takeMultiple_X1_minus : GoodIn wsX0_takeMultiple wsX1_minus := goodIn_r _ [12, 13, 14, 20, 21, 22, 23, 24] (by decide +kernel) (by decide +kernel)
set_option maxRecDepth 20000 in
theorem gX0_takeMultiple_X1_minus : GoodIn wsX0_takeMultiple (wsV RX0 88 RX1 yX1_minus wsX1_minus) := goodIn_app (goodIn_of _ (by decide +kernel)) ggX0_takeMultiple_X1_minus
theorem dX0_takeMultiple_0 : decode cX0_takeMultiple 0 = .ok (.iconst 0, 1) := by decide +kernel
theorem dX0_takeMultiple_1 : decode cX0_takeMultiple 1 = .ok (.istore 4, 2) := by decide +kernel
theorem dX0_takeMultiple_3 : decode cX0_takeMultiple 3 = .ok (.iload 4, 2) := by decide +kernel
theorem dX0_takeMultiple_5 : decode cX0_takeMultiple 5 = .ok (.bipush 6, 2) := by decide +kernel
theorem dX0_takeMultiple_7 : decode cX0_takeMultiple 7 = .ok (.if_icmp .ge 63, 3) := by decide +kernel
theorem dX0_takeMultiple_10 : decode cX0_takeMultiple 10 = .ok (.iload_n 1, 1) := by decide +kernel
theorem dX0_takeMultiple_11 : decode cX0_takeMultiple 11 = .ok (.bipush 6, 2) := by decide +kernel
theorem dX0_takeMultiple_13 : decode cX0_takeMultiple 13 = .ok (.imul, 1) := by decide +kernel
theorem dX0_takeMultiple_14 : decode cX0_takeMultiple 14 = .ok (.iload 4, 2) := by decide +kernel
theorem dX0_takeMultiple_16 : decode cX0_takeMultiple 16 = .ok (.iadd, 1) := by decide +kernel
theorem dX0_takeMultiple_17 : decode cX0_takeMultiple 17 = .ok (.istore 5, 2) := by decide +kernel
theorem dX0_takeMultiple_19 : decode cX0_takeMultiple 19 = .ok (.aload_n 0, 1) := by decide +kernel
theorem dX0_takeMultiple_20 : decode cX0_takeMultiple 20 = .ok (.getfield 31, 3) := by decide +kernel
theorem dX0_takeMultiple_23 : decode cX0_takeMultiple 23 = .ok (.iload_n 3, 1) := by decide +kernel
theorem dX0_takeMultiple_24 : decode cX0_takeMultiple 24 = .ok (.aload_n 0, 1) := by decide +kernel
theorem dX0_takeMultiple_25 : decode cX0_takeMultiple 25 = .ok (.getfield 15, 3) := by decide +kernel
theorem dX0_takeMultiple_28 : decode cX0_takeMultiple 28 = .ok (.iload_n 2, 1) := by decide +kernel
theorem dX0_takeMultiple_29 : decode cX0_takeMultiple 29 = .ok (.bipush 6, 2) := by decide +kernel
theorem dX0_takeMultiple_31 : decode cX0_takeMultiple 31 = .ok (.imul, 1) := by decide +kernel
theorem dX0_takeMultiple_32 : decode cX0_takeMultiple 32 = .ok (.iload 4, 2) := by decide +kernel
theorem dX0_takeMultiple_34 : decode cX0_takeMultiple 34 = .ok (.iadd, 1) := by decide +kernel
theorem dX0_takeMultiple_35 : decode cX0_takeMultiple 35 = .ok (.iaload, 1) := by decide +kernel
theorem dX0_takeMultiple_36 : decode cX0_takeMultiple 36 = .ok (.invokevirtual 36, 3) := by decide +kernel
theorem dX0_takeMultiple_39 : decode cX0_takeMultiple 39 = .ok (.istore 6, 2) := by decide +kernel
theorem dX0_takeMultiple_41 : decode cX0_takeMultiple 41 = .ok (.aload_n 0, 1) := by decide +kernel
theorem dX0_takeMultiple_42 : decode cX0_takeMultiple 42 = .ok (.getfield 15, 3) := by decide +kernel
theorem dX0_takeMultiple_45 : decode cX0_takeMultiple 45 = .ok (.iload 5, 2) := by decide +kernel
theorem dX0_takeMultiple_47 : decode cX0_takeMultiple 47 = .ok (.aload_n 0, 1) := by decide +kernel
theorem dX0_takeMultiple_48 : decode cX0_takeMultiple 48 = .ok (.getfield 31, 3) := by decide +kernel
theorem dX0_takeMultiple_51 : decode cX0_takeMultiple 51 = .ok (.aload_n 0, 1) := by decide +kernel
theorem dX0_takeMultiple_52 : decode cX0_takeMultiple 52 = .ok (.getfield 15, 3) := by decide +kernel
theorem dX0_takeMultiple_55 : decode cX0_takeMultiple 55 = .ok (.iload 5, 2) := by decide +kernel
theorem dX0_takeMultiple_57 : decode cX0_takeMultiple 57 = .ok (.iaload, 1) := by decide +kernel
theorem dX0_takeMultiple_58 : decode cX0_takeMultiple 58 = .ok (.iload 6, 2) := by decide +kernel
theorem dX0_takeMultiple_60 : decode cX0_takeMultiple 60 = .ok (.invokevirtual 88, 3) := by decide +kernel
theorem dX0_takeMultiple_63 : decode cX0_takeMultiple 63 = .ok (.iastore, 1) := by decide +kernel
theorem dX0_takeMultiple_64 : decode cX0_takeMultiple 64 = .ok (.iinc 4 1, 3) := by decide +kernel
theorem dX0_takeMultiple_67 : decode cX0_takeMultiple 67 = .ok (.goto (-64), 3) := by decide +kernel
theorem dX0_takeMultiple_70 : decode cX0_takeMultiple 70 = .ok (.return_, 1) := by decide +kernel
set_option maxRecDepth 20000 in
theorem ggX1_init_X1_build : GoodIn wsX1_init wsX1_build := goodIn_r _ [13, 14, 5, 6, 7, 8, 15, 16, 17, 12, 18, 19, 20, 21, 22, 23, 24, 25, 26, 27, 28, 29, 30, 31] (by decide +kernel) (by decide +kernel)
set_option maxRecDepth 20000 in
theorem gX1_init_X1_build : GoodIn wsX1_init (wsV RX1 24 RX1 yX1_build wsX1_build) := goodIn_app (goodIn_of _ (by decide +kernel)) ggX1_init_X1_build
theorem dX1_init_0 : decode cX1_init 0 = .ok (.aload_n 0, 1) := by decide +kernel
theorem dX1_init_1 : decode cX1_init 1 = .ok (.invokespecial 3, 3) := by decide +kernel
theorem dX1_init_4 : decode cX1_init 4 = .ok (.aload_n 0, 1) := by decide +kernel
theorem dX1_init_5 : decode cX1_init 5 = .ok (.bipush 81, 2) := by decide +kernel
theorem dX1_init_7 : decode cX1_init 7 = .ok (.newarray .int, 2) := by decide +kernel
theorem dX1_init_9 : decode cX1_init 9 = .ok (.putfield 9, 3) := by decide +kernel
theorem dX1_init_12 : decode cX1_init 12 = .ok (.aload_n 0, 1) := by decide +kernel
theorem dX1_init_13 : decode cX1_init 13 = .ok (.bipush 81, 2) := by decide +kernel
theorem dX1_init_15 : decode cX1_init 15 = .ok (.newarray .int, 2) := by decide +kernel
theorem dX1_init_17 : decode cX1_init 17 = .ok (.putfield 15, 3) := by decide +kernel
theorem dX1_init_20 : decode cX1_init 20 = .ok (.aload_n 0, 1) := by decide +kernel
theorem dX1_init_21 : decode cX1_init 21 = .ok (.bipush 9, 2) := by decide +kernel
theorem dX1_init_23 : decode cX1_init 23 = .ok (.newarray .int, 2) := by decide +kernel
theorem dX1_init_25 : decode cX1_init 25 = .ok (.putfield 18, 3) := by decide +kernel
theorem dX1_init_28 : decode cX1_init 28 = .ok (.aload_n 0, 1) := by decide +kernel
theorem dX1_init_29 : decode cX1_init 29 = .ok (.bipush 9, 2) := by decide +kernel
theorem dX1_init_31 : decode cX1_init 31 = .ok (.newarray .int, 2) := by decide +kernel
theorem dX1_init_33 : decode cX1_init 33 = .ok (.putfield 21, 3) := by decide +kernel
theorem dX1_init_36 : decode cX1_init 36 = .ok (.aload_n 0, 1) := by decide +kernel
theorem dX1_init_37 : decode cX1_init 37 = .ok (.iconst 2, 1) := by decide +kernel
theorem dX1_init_38 : decode cX1_init 38 = .ok (.invokevirtual 24, 3) := by decide +kernel
theorem dX1_init_41 : decode cX1_init 41 = .ok (.return_, 1) := by decide +kernel
theorem dX1_exists_0 : decode cX1_exists 0 = .ok (.iload_n 0, 1) := by decide +kernel
theorem dX1_exists_1 : decode cX1_exists 1 = .ok (.iconst 2, 1) := by decide +kernel
theorem dX1_exists_2 : decode cX1_exists 2 = .ok (.if_icmp .lt 19, 3) := by decide +kernel
theorem dX1_exists_5 : decode cX1_exists 5 = .ok (.iload_n 0, 1) := by decide +kernel
theorem dX1_exists_6 : decode cX1_exists 6 = .ok (.bipush 9, 2) := by decide +kernel
theorem dX1_exists_8 : decode cX1_exists 8 = .ok (.if_icmp .gt 13, 3) := by decide +kernel
theorem dX1_exists_11 : decode cX1_exists 11 = .ok (.iload_n 0, 1) := by decide +kernel
theorem dX1_exists_12 : decode cX1_exists 12 = .ok (.bipush 6, 2) := by decide +kernel
theorem dX1_exists_14 : decode cX1_exists 14 = .ok (.if_icmp .eq 7, 3) := by decide +kernel
theorem dX1_exists_17 : decode cX1_exists 17 = .ok (.iconst 1, 1) := by decide +kernel
theorem dX1_exists_18 : decode cX1_exists 18 = .ok (.goto 4, 3) := by decide +kernel
theorem dX1_exists_21 : decode cX1_exists 21 = .ok (.iconst 0, 1) := by decide +kernel
theorem dX1_exists_22 : decode cX1_exists 22 = .ok (.ireturn, 1) := by decide +kernel
set_option maxRecDepth 20000 in
theorem ggX1_build_X1_makeSum : GoodIn wsX1_build wsX1_makeSum := goodIn_r _ [10, 1, 19, 20, 21, 22, 23] (by decide +kernel) (by decide +kernel)
set_option maxRecDepth 20000 in
theorem gX1_build_X1_makeSum : GoodIn wsX1_build (wsV RX1 32 RX1 yX1_makeSum wsX1_makeSum) := goodIn_app (goodIn_of _ (by decide +kernel)) ggX1_build_X1_makeSum
set_option maxRecDepth 20000 in
theorem ggX1_build_X1_makeProduct : GoodIn wsX1_build wsX1_makeProduct := goodIn_r _ [14, 1, 15, 16, 17, 9, 18, 6, 7, 8, 10, 19, 20, 21, 22, 23] (by decide +kernel) (by decide +kernel)
set_option maxRecDepth 20000 in
theorem gX1_build_X1_makeProduct : GoodIn wsX1_build (wsV RX1 36 RX1 yX1_makeProduct wsX1_makeProduct) := goodIn_app (goodIn_of _ (by decide +kernel)) ggX1_build_X1_makeProduct
theorem dX1_build_0 : decode cX1_build 0 = .ok (.aload_n 0, 1) := by decide +kernel
theorem dX1_build_1 : decode cX1_build 1 = .ok (.iload_n 1, 1) := by decide +kernel
theorem dX1_build_2 : decode cX1_build 2 = .ok (.putfield 28, 3) := by decide +kernel
theorem dX1_build_5 : decode cX1_build 5 = .ok (.iconst 0, 1) := by decide +kernel
theorem dX1_build_6 : decode cX1_build 6 = .ok (.istore_n 2, 1) := by decide +kernel
theorem dX1_build_7 : decode cX1_build 7 = .ok (.iload_n 2, 1) := by decide +kernel
theorem dX1_build_8 : decode cX1_build 8 = .ok (.aload_n 0, 1) := by decide +kernel
theorem dX1_build_9 : decode cX1_build 9 = .ok (.getfield 28, 3) := by decide +kernel
theorem dX1_build_12 : decode cX1_build 12 = .ok (.if_icmp .ge 94, 3) := by decide +kernel
theorem dX1_build_15 : decode cX1_build 15 = .ok (.iconst 0, 1) := by decide +kernel
theorem dX1_build_16 : decode cX1_build 16 = .ok (.istore_n 3, 1) := by decide +kernel
theorem dX1_build_17 : decode cX1_build 17 = .ok (.iload_n 3, 1) := by decide +kernel
theorem dX1_build_18 : decode cX1_build 18 = .ok (.aload_n 0, 1) := by decide +kernel
theorem dX1_build_19 : decode cX1_build 19 = .ok (.getfield 28, 3) := by decide +kernel
theorem dX1_build_22 : decode cX1_build 22 = .ok (.if_icmp .ge 78, 3) := by decide +kernel
theorem dX1_build_25 : decode cX1_build 25 = .ok (.iload_n 2, 1) := by decide +kernel
theorem dX1_build_26 : decode cX1_build 26 = .ok (.bipush 9, 2) := by decide +kernel
theorem dX1_build_28 : decode cX1_build 28 = .ok (.imul, 1) := by decide +kernel
theorem dX1_build_29 : decode cX1_build 29 = .ok (.iload_n 3, 1) := by decide +kernel
theorem dX1_build_30 : decode cX1_build 30 = .ok (.iadd, 1) := by decide +kernel
theorem dX1_build_31 : decode cX1_build 31 = .ok (.istore 4, 2) := by decide +kernel
theorem dX1_build_33 : decode cX1_build 33 = .ok (.aload_n 0, 1) := by decide +kernel
theorem dX1_build_34 : decode cX1_build 34 = .ok (.getfield 9, 3) := by decide +kernel
theorem dX1_build_37 : decode cX1_build 37 = .ok (.iload 4, 2) := by decide +kernel
theorem dX1_build_39 : decode cX1_build 39 = .ok (.aload_n 0, 1) := by decide +kernel
theorem dX1_build_40 : decode cX1_build 40 = .ok (.iload_n 2, 1) := by decide +kernel
theorem dX1_build_41 : decode cX1_build 41 = .ok (.iload_n 3, 1) := by decide +kernel
theorem dX1_build_42 : decode cX1_build 42 = .ok (.invokevirtual 32, 3) := by decide +kernel
theorem dX1_build_45 : decode cX1_build 45 = .ok (.iastore, 1) := by decide +kernel
theorem dX1_build_46 : decode cX1_build 46 = .ok (.aload_n 0, 1) := by decide +kernel
theorem dX1_build_47 : decode cX1_build 47 = .ok (.getfield 15, 3) := by decide +kernel
theorem dX1_build_50 : decode cX1_build 50 = .ok (.iload 4, 2) := by decide +kernel
theorem dX1_build_52 : decode cX1_build 52 = .ok (.aload_n 0, 1) := by decide +kernel
theorem dX1_build_53 : decode cX1_build 53 = .ok (.iload_n 2, 1) := by decide +kernel
theorem dX1_build_54 : decode cX1_build 54 = .ok (.iload_n 3, 1) := by decide +kernel
theorem dX1_build_55 : decode cX1_build 55 = .ok (.invokevirtual 36, 3) := by decide +kernel
theorem dX1_build_58 : decode cX1_build 58 = .ok (.iastore, 1) := by decide +kernel
theorem dX1_build_59 : decode cX1_build 59 = .ok (.aload_n 0, 1) := by decide +kernel
theorem dX1_build_60 : decode cX1_build 60 = .ok (.getfield 9, 3) := by decide +kernel
theorem dX1_build_63 : decode cX1_build 63 = .ok (.iload 4, 2) := by decide +kernel
theorem dX1_build_65 : decode cX1_build 65 = .ok (.iaload, 1) := by decide +kernel
theorem dX1_build_66 : decode cX1_build 66 = .ok (.ifCond .ne 10, 3) := by decide +kernel
theorem dX1_build_69 : decode cX1_build 69 = .ok (.aload_n 0, 1) := by decide +kernel
theorem dX1_build_70 : decode cX1_build 70 = .ok (.getfield 18, 3) := by decide +kernel
theorem dX1_build_73 : decode cX1_build 73 = .ok (.iload_n 2, 1) := by decide +kernel
theorem dX1_build_74 : decode cX1_build 74 = .ok (.iload_n 3, 1) := by decide +kernel
theorem dX1_build_75 : decode cX1_build 75 = .ok (.iastore, 1) := by decide +kernel
theorem dX1_build_76 : decode cX1_build 76 = .ok (.aload_n 0, 1) := by decide +kernel
theorem dX1_build_77 : decode cX1_build 77 = .ok (.getfield 15, 3) := by decide +kernel
theorem dX1_build_80 : decode cX1_build 80 = .ok (.iload 4, 2) := by decide +kernel
theorem dX1_build_82 : decode cX1_build 82 = .ok (.iaload, 1) := by decide +kernel
theorem dX1_build_83 : decode cX1_build 83 = .ok (.iconst 1, 1) := by decide +kernel
theorem dX1_build_84 : decode cX1_build 84 = .ok (.if_icmp .ne 10, 3) := by decide +kernel
theorem dX1_build_87 : decode cX1_build 87 = .ok (.aload_n 0, 1) := by decide +kernel
theorem dX1_build_88 : decode cX1_build 88 = .ok (.getfield 21, 3) := by decide +kernel
theorem dX1_build_91 : decode cX1_build 91 = .ok (.iload_n 2, 1) := by decide +kernel
theorem dX1_build_92 : decode cX1_build 92 = .ok (.iload_n 3, 1) := by decide +kernel
theorem dX1_build_93 : decode cX1_build 93 = .ok (.iastore, 1) := by decide +kernel
theorem dX1_build_94 : decode cX1_build 94 = .ok (.iinc 3 1, 3) := by decide +kernel
theorem dX1_build_97 : decode cX1_build 97 = .ok (.goto (-80), 3) := by decide +kernel
theorem dX1_build_100 : decode cX1_build 100 = .ok (.iinc 2 1, 3) := by decide +kernel
theorem dX1_build_103 : decode cX1_build 103 = .ok (.goto (-96), 3) := by decide +kernel
theorem dX1_build_106 : decode cX1_build 106 = .ok (.return_, 1) := by decide +kernel
theorem dX1_makeSum_0 : decode cX1_makeSum 0 = .ok (.aload_n 0, 1) := by decide +kernel
theorem dX1_makeSum_1 : decode cX1_makeSum 1 = .ok (.getfield 28, 3) := by decide +kernel
theorem dX1_makeSum_4 : decode cX1_makeSum 4 = .ok (.iconst 4, 1) := by decide +kernel
theorem dX1_makeSum_5 : decode cX1_makeSum 5 = .ok (.if_icmp .eq 12, 3) := by decide +kernel
theorem dX1_makeSum_8 : decode cX1_makeSum 8 = .ok (.aload_n 0, 1) := by decide +kernel
theorem dX1_makeSum_9 : decode cX1_makeSum 9 = .ok (.getfield 28, 3) := by decide +kernel
theorem dX1_makeSum_12 : decode cX1_makeSum 12 = .ok (.bipush 8, 2) := by decide +kernel
theorem dX1_makeSum_14 : decode cX1_makeSum 14 = .ok (.if_icmp .ne 7, 3) := by decide +kernel
theorem dX1_makeSum_17 : decode cX1_makeSum 17 = .ok (.iload_n 1, 1) := by decide +kernel
theorem dX1_makeSum_18 : decode cX1_makeSum 18 = .ok (.iload_n 2, 1) := by decide +kernel
theorem dX1_makeSum_19 : decode cX1_makeSum 19 = .ok (.ixor, 1) := by decide +kernel
theorem dX1_makeSum_20 : decode cX1_makeSum 20 = .ok (.ireturn, 1) := by decide +kernel
theorem dX1_makeSum_21 : decode cX1_makeSum 21 = .ok (.aload_n 0, 1) := by decide +kernel
theorem dX1_makeSum_22 : decode cX1_makeSum 22 = .ok (.getfield 28, 3) := by decide +kernel
theorem dX1_makeSum_25 : decode cX1_makeSum 25 = .ok (.bipush 9, 2) := by decide +kernel
theorem dX1_makeSum_27 : decode cX1_makeSum 27 = .ok (.if_icmp .ne 21, 3) := by decide +kernel
theorem dX1_makeSum_30 : decode cX1_makeSum 30 = .ok (.iload_n 1, 1) := by decide +kernel
theorem dX1_makeSum_31 : decode cX1_makeSum 31 = .ok (.iload_n 2, 1) := by decide +kernel
theorem dX1_makeSum_32 : decode cX1_makeSum 32 = .ok (.iadd, 1) := by decide +kernel
theorem dX1_makeSum_33 : decode cX1_makeSum 33 = .ok (.iconst 3, 1) := by decide +kernel
theorem dX1_makeSum_34 : decode cX1_makeSum 34 = .ok (.irem, 1) := by decide +kernel
theorem dX1_makeSum_35 : decode cX1_makeSum 35 = .ok (.iconst 3, 1) := by decide +kernel
theorem dX1_makeSum_36 : decode cX1_makeSum 36 = .ok (.iload_n 1, 1) := by decide +kernel
theorem dX1_makeSum_37 : decode cX1_makeSum 37 = .ok (.iconst 3, 1) := by decide +kernel
theorem dX1_makeSum_38 : decode cX1_makeSum 38 = .ok (.idiv, 1) := by decide +kernel
theorem dX1_makeSum_39 : decode cX1_makeSum 39 = .ok (.iload_n 2, 1) := by decide +kernel
theorem dX1_makeSum_40 : decode cX1_makeSum 40 = .ok (.iconst 3, 1) := by decide +kernel
theorem dX1_makeSum_41 : decode cX1_makeSum 41 = .ok (.idiv, 1) := by decide +kernel
theorem dX1_makeSum_42 : decode cX1_makeSum 42 = .ok (.iadd, 1) := by decide +kernel
theorem dX1_makeSum_43 : decode cX1_makeSum 43 = .ok (.iconst 3, 1) := by decide +kernel
theorem dX1_makeSum_44 : decode cX1_makeSum 44 = .ok (.irem, 1) := by decide +kernel
theorem dX1_makeSum_45 : decode cX1_makeSum 45 = .ok (.imul, 1) := by decide +kernel
theorem dX1_makeSum_46 : decode cX1_makeSum 46 = .ok (.iadd, 1) := by decide +kernel
theorem dX1_makeSum_47 : decode cX1_makeSum 47 = .ok (.ireturn, 1) := by decide +kernel
theorem dX1_makeSum_48 : decode cX1_makeSum 48 = .ok (.iload_n 1, 1) := by decide +kernel
theorem dX1_makeSum_49 : decode cX1_makeSum 49 = .ok (.iload_n 2, 1) := by decide +kernel
theorem dX1_makeSum_50 : decode cX1_makeSum 50 = .ok (.iadd, 1) := by decide +kernel
theorem dX1_makeSum_51 : decode cX1_makeSum 51 = .ok (.istore_n 3, 1) := by decide +kernel
theorem dX1_makeSum_52 : decode cX1_makeSum 52 = .ok (.iload_n 3, 1) := by decide +kernel
theorem dX1_makeSum_53 : decode cX1_makeSum 53 = .ok (.aload_n 0, 1) := by decide +kernel
theorem dX1_makeSum_54 : decode cX1_makeSum 54 = .ok (.getfield 28, 3) := by decide +kernel
theorem dX1_makeSum_57 : decode cX1_makeSum 57 = .ok (.if_icmp .ge 7, 3) := by decide +kernel
theorem dX1_makeSum_60 : decode cX1_makeSum 60 = .ok (.iload_n 3, 1) := by decide +kernel
theorem dX1_makeSum_61 : decode cX1_makeSum 61 = .ok (.goto 9, 3) := by decide +kernel
theorem dX1_makeSum_64 : decode cX1_makeSum 64 = .ok (.iload_n 3, 1) := by decide +kernel
theorem dX1_makeSum_65 : decode cX1_makeSum 65 = .ok (.aload_n 0, 1) := by decide +kernel
theorem dX1_makeSum_66 : decode cX1_makeSum 66 = .ok (.getfield 28, 3) := by decide +kernel
theorem dX1_makeSum_69 : decode cX1_makeSum 69 = .ok (.isub, 1) := by decide +kernel
theorem dX1_makeSum_70 : decode cX1_makeSum 70 = .ok (.ireturn, 1) := by decide +kernel
set_option maxRecDepth 20000 in
theorem ggX1_makeProduct_X1_bitProduct : GoodIn wsX1_makeProduct wsX1_bitProduct := goodIn_r _ [6, 1, 11, 12, 13, 14, 15] (by decide +kernel) (by decide +kernel)
set_option maxRecDepth 20000 in
theorem gX1_makeProduct_X1_bitProduct : GoodIn wsX1_makeProduct (wsV RX1 39 RX1 yX1_bitProduct wsX1_bitProduct) := goodIn_app (goodIn_of _ (by decide +kernel)) ggX1_makeProduct_X1_bitProduct
set_option maxRecDepth 20000 in
theorem ggX1_makeProduct_X1_makeSum : GoodIn wsX1_makeProduct wsX1_makeSum := goodIn_r _ [10, 1, 11, 12, 13, 14, 15] (by decide +kernel) (by decide +kernel)
set_option maxRecDepth 20000 in
theorem gX1_makeProduct_X1_makeSum : GoodIn wsX1_makeProduct (wsV RX1 32 RX1 yX1_makeSum wsX1_makeSum) := goodIn_app (goodIn_of _ (by decide +kernel)) ggX1_makeProduct_X1_makeSum
theorem dX1_makeProduct_0 : decode cX1_makeProduct 0 = .ok (.aload_n 0, 1) := by decide +kernel
theorem dX1_makeProduct_1 : decode cX1_makeProduct 1 = .ok (.getfield 28, 3) := by decide +kernel
theorem dX1_makeProduct_4 : decode cX1_makeProduct 4 = .ok (.iconst 4, 1) := by decide +kernel
theorem dX1_makeProduct_5 : decode cX1_makeProduct 5 = .ok (.if_icmp .ne 12, 3) := by decide +kernel
theorem dX1_makeProduct_8 : decode cX1_makeProduct 8 = .ok (.aload_n 0, 1) := by decide +kernel
theorem dX1_makeProduct_9 : decode cX1_makeProduct 9 = .ok (.iload_n 1, 1) := by decide +kernel
theorem dX1_makeProduct_10 : decode cX1_makeProduct 10 = .ok (.iload_n 2, 1) := by decide +kernel
theorem dX1_makeProduct_11 : decode cX1_makeProduct 11 = .ok (.bipush 7, 2) := by decide +kernel
theorem dX1_makeProduct_13 : decode cX1_makeProduct 13 = .ok (.invokevirtual 39, 3) := by decide +kernel
theorem dX1_makeProduct_16 : decode cX1_makeProduct 16 = .ok (.ireturn, 1) := by decide +kernel
theorem dX1_makeProduct_17 : decode cX1_makeProduct 17 = .ok (.aload_n 0, 1) := by decide +kernel
theorem dX1_makeProduct_18 : decode cX1_makeProduct 18 = .ok (.getfield 28, 3) := by decide +kernel
theorem dX1_makeProduct_21 : decode cX1_makeProduct 21 = .ok (.bipush 8, 2) := by decide +kernel
theorem dX1_makeProduct_23 : decode cX1_makeProduct 23 = .ok (.if_icmp .ne 12, 3) := by decide +kernel
theorem dX1_makeProduct_26 : decode cX1_makeProduct 26 = .ok (.aload_n 0, 1) := by decide +kernel
theorem dX1_makeProduct_27 : decode cX1_makeProduct 27 = .ok (.iload_n 1, 1) := by decide +kernel
theorem dX1_makeProduct_28 : decode cX1_makeProduct 28 = .ok (.iload_n 2, 1) := by decide +kernel
theorem dX1_makeProduct_29 : decode cX1_makeProduct 29 = .ok (.bipush 11, 2) := by decide +kernel
theorem dX1_makeProduct_31 : decode cX1_makeProduct 31 = .ok (.invokevirtual 39, 3) := by decide +kernel
theorem dX1_makeProduct_34 : decode cX1_makeProduct 34 = .ok (.ireturn, 1) := by decide +kernel
theorem dX1_makeProduct_35 : decode cX1_makeProduct 35 = .ok (.aload_n 0, 1) := by decide +kernel
theorem dX1_makeProduct_36 : decode cX1_makeProduct 36 = .ok (.getfield 28, 3) := by decide +kernel
theorem dX1_makeProduct_39 : decode cX1_makeProduct 39 = .ok (.bipush 9, 2) := by decide +kernel
theorem dX1_makeProduct_41 : decode cX1_makeProduct 41 = .ok (.if_icmp .ne 41, 3) := by decide +kernel
theorem dX1_makeProduct_44 : decode cX1_makeProduct 44 = .ok (.iload_n 1, 1) := by decide +kernel
theorem dX1_makeProduct_45 : decode cX1_makeProduct 45 = .ok (.iload_n 2, 1) := by decide +kernel
theorem dX1_makeProduct_46 : decode cX1_makeProduct 46 = .ok (.imul, 1) := by decide +kernel
theorem dX1_makeProduct_47 : decode cX1_makeProduct 47 = .ok (.iconst 2, 1) := by decide +kernel
theorem dX1_makeProduct_48 : decode cX1_makeProduct 48 = .ok (.iload_n 1, 1) := by decide +kernel
theorem dX1_makeProduct_49 : decode cX1_makeProduct 49 = .ok (.iconst 3, 1) := by decide +kernel
theorem dX1_makeProduct_50 : decode cX1_makeProduct 50 = .ok (.idiv, 1) := by decide +kernel
theorem dX1_makeProduct_51 : decode cX1_makeProduct 51 = .ok (.imul, 1) := by decide +kernel
theorem dX1_makeProduct_52 : decode cX1_makeProduct 52 = .ok (.iload_n 2, 1) := by decide +kernel
theorem dX1_makeProduct_53 : decode cX1_makeProduct 53 = .ok (.iconst 3, 1) := by decide +kernel
theorem dX1_makeProduct_54 : decode cX1_makeProduct 54 = .ok (.idiv, 1) := by decide +kernel
theorem dX1_makeProduct_55 : decode cX1_makeProduct 55 = .ok (.imul, 1) := by decide +kernel
theorem dX1_makeProduct_56 : decode cX1_makeProduct 56 = .ok (.iadd, 1) := by decide +kernel
theorem dX1_makeProduct_57 : decode cX1_makeProduct 57 = .ok (.istore_n 3, 1) := by decide +kernel
theorem dX1_makeProduct_58 : decode cX1_makeProduct 58 = .ok (.iload_n 1, 1) := by decide +kernel
theorem dX1_makeProduct_59 : decode cX1_makeProduct 59 = .ok (.iload_n 2, 1) := by decide +kernel
theorem dX1_makeProduct_60 : decode cX1_makeProduct 60 = .ok (.iconst 3, 1) := by decide +kernel
theorem dX1_makeProduct_61 : decode cX1_makeProduct 61 = .ok (.idiv, 1) := by decide +kernel
theorem dX1_makeProduct_62 : decode cX1_makeProduct 62 = .ok (.imul, 1) := by decide +kernel
theorem dX1_makeProduct_63 : decode cX1_makeProduct 63 = .ok (.iload_n 1, 1) := by decide +kernel
theorem dX1_makeProduct_64 : decode cX1_makeProduct 64 = .ok (.iconst 3, 1) := by decide +kernel
theorem dX1_makeProduct_65 : decode cX1_makeProduct 65 = .ok (.idiv, 1) := by decide +kernel
theorem dX1_makeProduct_66 : decode cX1_makeProduct 66 = .ok (.iload_n 2, 1) := by decide +kernel
theorem dX1_makeProduct_67 : decode cX1_makeProduct 67 = .ok (.imul, 1) := by decide +kernel
theorem dX1_makeProduct_68 : decode cX1_makeProduct 68 = .ok (.iadd, 1) := by decide +kernel
theorem dX1_makeProduct_69 : decode cX1_makeProduct 69 = .ok (.istore 4, 2) := by decide +kernel
theorem dX1_makeProduct_71 : decode cX1_makeProduct 71 = .ok (.iload_n 3, 1) := by decide +kernel
theorem dX1_makeProduct_72 : decode cX1_makeProduct 72 = .ok (.iconst 3, 1) := by decide +kernel
theorem dX1_makeProduct_73 : decode cX1_makeProduct 73 = .ok (.irem, 1) := by decide +kernel
theorem dX1_makeProduct_74 : decode cX1_makeProduct 74 = .ok (.iconst 3, 1) := by decide +kernel
theorem dX1_makeProduct_75 : decode cX1_makeProduct 75 = .ok (.iload 4, 2) := by decide +kernel
theorem dX1_makeProduct_77 : decode cX1_makeProduct 77 = .ok (.iconst 3, 1) := by decide +kernel
theorem dX1_makeProduct_78 : decode cX1_makeProduct 78 = .ok (.irem, 1) := by decide +kernel
theorem dX1_makeProduct_79 : decode cX1_makeProduct 79 = .ok (.imul, 1) := by decide +kernel
theorem dX1_makeProduct_80 : decode cX1_makeProduct 80 = .ok (.iadd, 1) := by decide +kernel
theorem dX1_makeProduct_81 : decode cX1_makeProduct 81 = .ok (.ireturn, 1) := by decide +kernel
theorem dX1_makeProduct_82 : decode cX1_makeProduct 82 = .ok (.iconst 0, 1) := by decide +kernel
theorem dX1_makeProduct_83 : decode cX1_makeProduct 83 = .ok (.istore_n 3, 1) := by decide +kernel
theorem dX1_makeProduct_84 : decode cX1_makeProduct 84 = .ok (.iconst 0, 1) := by decide +kernel
theorem dX1_makeProduct_85 : decode cX1_makeProduct 85 = .ok (.istore 4, 2) := by decide +kernel
theorem dX1_makeProduct_87 : decode cX1_makeProduct 87 = .ok (.iload 4, 2) := by decide +kernel
theorem dX1_makeProduct_89 : decode cX1_makeProduct 89 = .ok (.iload_n 2, 1) := by decide +kernel
theorem dX1_makeProduct_90 : decode cX1_makeProduct 90 = .ok (.if_icmp .ge 16, 3) := by decide +kernel
theorem dX1_makeProduct_93 : decode cX1_makeProduct 93 = .ok (.aload_n 0, 1) := by decide +kernel
theorem dX1_makeProduct_94 : decode cX1_makeProduct 94 = .ok (.iload_n 3, 1) := by decide +kernel
theorem dX1_makeProduct_95 : decode cX1_makeProduct 95 = .ok (.iload_n 1, 1) := by decide +kernel
theorem dX1_makeProduct_96 : decode cX1_makeProduct 96 = .ok (.invokevirtual 32, 3) := by decide +kernel
theorem dX1_makeProduct_99 : decode cX1_makeProduct 99 = .ok (.istore_n 3, 1) := by decide +kernel
theorem dX1_makeProduct_100 : decode cX1_makeProduct 100 = .ok (.iinc 4 1, 3) := by decide +kernel
theorem dX1_makeProduct_103 : decode cX1_makeProduct 103 = .ok (.goto (-16), 3) := by decide +kernel
theorem dX1_makeProduct_106 : decode cX1_makeProduct 106 = .ok (.iload_n 3, 1) := by decide +kernel
theorem dX1_makeProduct_107 : decode cX1_makeProduct 107 = .ok (.ireturn, 1) := by decide +kernel
theorem dX1_bitProduct_0 : decode cX1_bitProduct 0 = .ok (.iconst 0, 1) := by decide +kernel
theorem dX1_bitProduct_1 : decode cX1_bitProduct 1 = .ok (.istore 4, 2) := by decide +kernel
theorem dX1_bitProduct_3 : decode cX1_bitProduct 3 = .ok (.iload_n 1, 1) := by decide +kernel
theorem dX1_bitProduct_4 : decode cX1_bitProduct 4 = .ok (.istore 5, 2) := by decide +kernel
theorem dX1_bitProduct_6 : decode cX1_bitProduct 6 = .ok (.iconst 0, 1) := by decide +kernel
theorem dX1_bitProduct_7 : decode cX1_bitProduct 7 = .ok (.istore 6, 2) := by decide +kernel
theorem dX1_bitProduct_9 : decode cX1_bitProduct 9 = .ok (.iload 6, 2) := by decide +kernel
theorem dX1_bitProduct_11 : decode cX1_bitProduct 11 = .ok (.iconst 3, 1) := by decide +kernel
theorem dX1_bitProduct_12 : decode cX1_bitProduct 12 = .ok (.if_icmp .ge 47, 3) := by decide +kernel
theorem dX1_bitProduct_15 : decode cX1_bitProduct 15 = .ok (.iload_n 2, 1) := by decide +kernel
theorem dX1_bitProduct_16 : decode cX1_bitProduct 16 = .ok (.iload 6, 2) := by decide +kernel
theorem dX1_bitProduct_18 : decode cX1_bitProduct 18 = .ok (.ishr, 1) := by decide +kernel
theorem dX1_bitProduct_19 : decode cX1_bitProduct 19 = .ok (.iconst 1, 1) := by decide +kernel
theorem dX1_bitProduct_20 : decode cX1_bitProduct 20 = .ok (.iand, 1) := by decide +kernel
theorem dX1_bitProduct_21 : decode cX1_bitProduct 21 = .ok (.ifCond .eq 10, 3) := by decide +kernel
theorem dX1_bitProduct_24 : decode cX1_bitProduct 24 = .ok (.iload 4, 2) := by decide +kernel
theorem dX1_bitProduct_26 : decode cX1_bitProduct 26 = .ok (.iload 5, 2) := by decide +kernel
theorem dX1_bitProduct_28 : decode cX1_bitProduct 28 = .ok (.ixor, 1) := by decide +kernel
theorem dX1_bitProduct_29 : decode cX1_bitProduct 29 = .ok (.istore 4, 2) := by decide +kernel
theorem dX1_bitProduct_31 : decode cX1_bitProduct 31 = .ok (.iload 5, 2) := by decide +kernel
theorem dX1_bitProduct_33 : decode cX1_bitProduct 33 = .ok (.iconst 1, 1) := by decide +kernel
theorem dX1_bitProduct_34 : decode cX1_bitProduct 34 = .ok (.ishl, 1) := by decide +kernel
theorem dX1_bitProduct_35 : decode cX1_bitProduct 35 = .ok (.istore 5, 2) := by decide +kernel
theorem dX1_bitProduct_37 : decode cX1_bitProduct 37 = .ok (.iload 5, 2) := by decide +kernel
theorem dX1_bitProduct_39 : decode cX1_bitProduct 39 = .ok (.aload_n 0, 1) := by decide +kernel
theorem dX1_bitProduct_40 : decode cX1_bitProduct 40 = .ok (.getfield 28, 3) := by decide +kernel
theorem dX1_bitProduct_43 : decode cX1_bitProduct 43 = .ok (.iand, 1) := by decide +kernel
theorem dX1_bitProduct_44 : decode cX1_bitProduct 44 = .ok (.ifCond .eq 9, 3) := by decide +kernel
theorem dX1_bitProduct_47 : decode cX1_bitProduct 47 = .ok (.iload 5, 2) := by decide +kernel
theorem dX1_bitProduct_49 : decode cX1_bitProduct 49 = .ok (.iload_n 3, 1) := by decide +kernel
theorem dX1_bitProduct_50 : decode cX1_bitProduct 50 = .ok (.ixor, 1) := by decide +kernel
theorem dX1_bitProduct_51 : decode cX1_bitProduct 51 = .ok (.istore 5, 2) := by decide +kernel
theorem dX1_bitProduct_53 : decode cX1_bitProduct 53 = .ok (.iinc 6 1, 3) := by decide +kernel
theorem dX1_bitProduct_56 : decode cX1_bitProduct 56 = .ok (.goto (-47), 3) := by decide +kernel
theorem dX1_bitProduct_59 : decode cX1_bitProduct 59 = .ok (.iload 4, 2) := by decide +kernel
theorem dX1_bitProduct_61 : decode cX1_bitProduct 61 = .ok (.ireturn, 1) := by decide +kernel
theorem dX1_has_0 : decode cX1_has 0 = .ok (.iload_n 1, 1) := by decide +kernel
theorem dX1_has_1 : decode cX1_has 1 = .ok (.ifCond .lt 15, 3) := by decide +kernel
theorem dX1_has_4 : decode cX1_has 4 = .ok (.iload_n 1, 1) := by decide +kernel
theorem dX1_has_5 : decode cX1_has 5 = .ok (.aload_n 0, 1) := by decide +kernel
theorem dX1_has_6 : decode cX1_has 6 = .ok (.getfield 28, 3) := by decide +kernel
theorem dX1_has_9 : decode cX1_has 9 = .ok (.if_icmp .ge 7, 3) := by decide +kernel
theorem dX1_has_12 : decode cX1_has 12 = .ok (.iconst 1, 1) := by decide +kernel
theorem dX1_has_13 : decode cX1_has 13 = .ok (.goto 4, 3) := by decide +kernel
theorem dX1_has_16 : decode cX1_has 16 = .ok (.iconst 0, 1) := by decide +kernel
theorem dX1_has_17 : decode cX1_has 17 = .ok (.ireturn, 1) := by decide +kernel
theorem dX1_plus_0 : decode cX1_plus 0 = .ok (.aload_n 0, 1) := by decide +kernel
theorem dX1_plus_1 : decode cX1_plus 1 = .ok (.getfield 9, 3) := by decide +kernel
theorem dX1_plus_4 : decode cX1_plus 4 = .ok (.iload_n 1, 1) := by decide +kernel
theorem dX1_plus_5 : decode cX1_plus 5 = .ok (.bipush 9, 2) := by decide +kernel
theorem dX1_plus_7 : decode cX1_plus 7 = .ok (.imul, 1) := by decide +kernel
theorem dX1_plus_8 : decode cX1_plus 8 = .ok (.iload_n 2, 1) := by decide +kernel
theorem dX1_plus_9 : decode cX1_plus 9 = .ok (.iadd, 1) := by decide +kernel
theorem dX1_plus_10 : decode cX1_plus 10 = .ok (.iaload, 1) := by decide +kernel
theorem dX1_plus_11 : decode cX1_plus 11 = .ok (.ireturn, 1) := by decide +kernel
theorem dX1_minus_0 : decode cX1_minus 0 = .ok (.aload_n 0, 1) := by decide +kernel
theorem dX1_minus_1 : decode cX1_minus 1 = .ok (.getfield 9, 3) := by decide +kernel
theorem dX1_minus_4 : decode cX1_minus 4 = .ok (.iload_n 1, 1) := by decide +kernel
theorem dX1_minus_5 : decode cX1_minus 5 = .ok (.bipush 9, 2) := by decide +kernel
theorem dX1_minus_7 : decode cX1_minus 7 = .ok (.imul, 1) := by decide +kernel
theorem dX1_minus_8 : decode cX1_minus 8 = .ok (.aload_n 0, 1) := by decide +kernel
theorem dX1_minus_9 : decode cX1_minus 9 = .ok (.getfield 18, 3) := by decide +kernel
theorem dX1_minus_12 : decode cX1_minus 12 = .ok (.iload_n 2, 1) := by decide +kernel
theorem dX1_minus_13 : decode cX1_minus 13 = .ok (.iaload, 1) := by decide +kernel
theorem dX1_minus_14 : decode cX1_minus 14 = .ok (.iadd, 1) := by decide +kernel
theorem dX1_minus_15 : decode cX1_minus 15 = .ok (.iaload, 1) := by decide +kernel
theorem dX1_minus_16 : decode cX1_minus 16 = .ok (.ireturn, 1) := by decide +kernel
theorem dX1_times_0 : decode cX1_times 0 = .ok (.aload_n 0, 1) := by decide +kernel
theorem dX1_times_1 : decode cX1_times 1 = .ok (.getfield 15, 3) := by decide +kernel
theorem dX1_times_4 : decode cX1_times 4 = .ok (.iload_n 1, 1) := by decide +kernel
theorem dX1_times_5 : decode cX1_times 5 = .ok (.bipush 9, 2) := by decide +kernel
theorem dX1_times_7 : decode cX1_times 7 = .ok (.imul, 1) := by decide +kernel
theorem dX1_times_8 : decode cX1_times 8 = .ok (.iload_n 2, 1) := by decide +kernel
theorem dX1_times_9 : decode cX1_times 9 = .ok (.iadd, 1) := by decide +kernel
theorem dX1_times_10 : decode cX1_times 10 = .ok (.iaload, 1) := by decide +kernel
theorem dX1_times_11 : decode cX1_times 11 = .ok (.ireturn, 1) := by decide +kernel
theorem dX1_over_0 : decode cX1_over 0 = .ok (.aload_n 0, 1) := by decide +kernel
theorem dX1_over_1 : decode cX1_over 1 = .ok (.getfield 15, 3) := by decide +kernel
theorem dX1_over_4 : decode cX1_over 4 = .ok (.iload_n 1, 1) := by decide +kernel
theorem dX1_over_5 : decode cX1_over 5 = .ok (.bipush 9, 2) := by decide +kernel
theorem dX1_over_7 : decode cX1_over 7 = .ok (.imul, 1) := by decide +kernel
theorem dX1_over_8 : decode cX1_over 8 = .ok (.aload_n 0, 1) := by decide +kernel
theorem dX1_over_9 : decode cX1_over 9 = .ok (.getfield 21, 3) := by decide +kernel
theorem dX1_over_12 : decode cX1_over 12 = .ok (.iload_n 2, 1) := by decide +kernel
theorem dX1_over_13 : decode cX1_over 13 = .ok (.iaload, 1) := by decide +kernel
theorem dX1_over_14 : decode cX1_over 14 = .ok (.iadd, 1) := by decide +kernel
theorem dX1_over_15 : decode cX1_over 15 = .ok (.iaload, 1) := by decide +kernel
theorem dX1_over_16 : decode cX1_over 16 = .ok (.ireturn, 1) := by decide +kernel
theorem dX1_opposite_0 : decode cX1_opposite 0 = .ok (.aload_n 0, 1) := by decide +kernel
theorem dX1_opposite_1 : decode cX1_opposite 1 = .ok (.getfield 18, 3) := by decide +kernel
theorem dX1_opposite_4 : decode cX1_opposite 4 = .ok (.iload_n 1, 1) := by decide +kernel
theorem dX1_opposite_5 : decode cX1_opposite 5 = .ok (.iaload, 1) := by decide +kernel
theorem dX1_opposite_6 : decode cX1_opposite 6 = .ok (.ireturn, 1) := by decide +kernel
set_option maxRecDepth 20000 in
theorem ggX1_crosswise_X1_times : GoodIn wsX1_crosswise wsX1_times := goodIn_r _ [5, 6, 13, 14, 15, 16, 17] (by decide +kernel) (by decide +kernel)
set_option maxRecDepth 20000 in
theorem gX1_crosswise_X1_times : GoodIn wsX1_crosswise (wsV RX1 43 RX1 yX1_times wsX1_times) := goodIn_app (goodIn_of _ (by decide +kernel)) ggX1_crosswise_X1_times
set_option maxRecDepth 20000 in
theorem ggX1_crosswise_X1_minus : GoodIn wsX1_crosswise wsX1_minus := goodIn_r _ [10, 11, 12, 13, 14, 15, 16, 17] (by decide +kernel) (by decide +kernel)
set_option maxRecDepth 20000 in
theorem gX1_crosswise_X1_minus : GoodIn wsX1_crosswise (wsV RX1 46 RX1 yX1_minus wsX1_minus) := goodIn_app (goodIn_of _ (by decide +kernel)) ggX1_crosswise_X1_minus
theorem dX1_crosswise_0 : decode cX1_crosswise 0 = .ok (.aload_n 0, 1) := by decide +kernel
theorem dX1_crosswise_1 : decode cX1_crosswise 1 = .ok (.aload_n 0, 1) := by decide +kernel
theorem dX1_crosswise_2 : decode cX1_crosswise 2 = .ok (.iload_n 1, 1) := by decide +kernel
theorem dX1_crosswise_3 : decode cX1_crosswise 3 = .ok (.iload 4, 2) := by decide +kernel
theorem dX1_crosswise_5 : decode cX1_crosswise 5 = .ok (.invokevirtual 43, 3) := by decide +kernel
theorem dX1_crosswise_8 : decode cX1_crosswise 8 = .ok (.aload_n 0, 1) := by decide +kernel
theorem dX1_crosswise_9 : decode cX1_crosswise 9 = .ok (.iload_n 2, 1) := by decide +kernel
theorem dX1_crosswise_10 : decode cX1_crosswise 10 = .ok (.iload_n 3, 1) := by decide +kernel
theorem dX1_crosswise_11 : decode cX1_crosswise 11 = .ok (.invokevirtual 43, 3) := by decide +kernel
theorem dX1_crosswise_14 : decode cX1_crosswise 14 = .ok (.invokevirtual 46, 3) := by decide +kernel
theorem dX1_crosswise_17 : decode cX1_crosswise 17 = .ok (.ireturn, 1) := by decide +kernel
set_option maxRecDepth 20000 in
theorem ggX2_init_X2_reset : GoodIn wsX2_init wsX2_reset := goodIn_r _ [15, 5, 16, 17, 18, 19, 20] (by decide +kernel) (by decide +kernel)
set_option maxRecDepth 20000 in
theorem gX2_init_X2_reset : GoodIn wsX2_init (wsV RX2 33 RX2 yX2_reset wsX2_reset) := goodIn_app (goodIn_of _ (by decide +kernel)) ggX2_init_X2_reset
theorem dX2_init_0 : decode cX2_init 0 = .ok (.aload_n 0, 1) := by decide +kernel
theorem dX2_init_1 : decode cX2_init 1 = .ok (.invokespecial 3, 3) := by decide +kernel
theorem dX2_init_4 : decode cX2_init 4 = .ok (.aload_n 0, 1) := by decide +kernel
theorem dX2_init_5 : decode cX2_init 5 = .ok (.bipush 9, 2) := by decide +kernel
theorem dX2_init_7 : decode cX2_init 7 = .ok (.newarray .int, 2) := by decide +kernel
theorem dX2_init_9 : decode cX2_init 9 = .ok (.putfield 9, 3) := by decide +kernel
theorem dX2_init_12 : decode cX2_init 12 = .ok (.aload_n 0, 1) := by decide +kernel
theorem dX2_init_13 : decode cX2_init 13 = .ok (.bipush 9, 2) := by decide +kernel
theorem dX2_init_15 : decode cX2_init 15 = .ok (.newarray .int, 2) := by decide +kernel
theorem dX2_init_17 : decode cX2_init 17 = .ok (.putfield 15, 3) := by decide +kernel
theorem dX2_init_20 : decode cX2_init 20 = .ok (.aload_n 0, 1) := by decide +kernel
theorem dX2_init_21 : decode cX2_init 21 = .ok (.bipush 91, 2) := by decide +kernel
theorem dX2_init_23 : decode cX2_init 23 = .ok (.newarray .boolean, 2) := by decide +kernel
theorem dX2_init_25 : decode cX2_init 25 = .ok (.putfield 18, 3) := by decide +kernel
theorem dX2_init_28 : decode cX2_init 28 = .ok (.aload_n 0, 1) := by decide +kernel
theorem dX2_init_29 : decode cX2_init 29 = .ok (.aload_n 1, 1) := by decide +kernel
theorem dX2_init_30 : decode cX2_init 30 = .ok (.putfield 22, 3) := by decide +kernel
theorem dX2_init_33 : decode cX2_init 33 = .ok (.aload_n 0, 1) := by decide +kernel
theorem dX2_init_34 : decode cX2_init 34 = .ok (.aload_n 1, 1) := by decide +kernel
theorem dX2_init_35 : decode cX2_init 35 = .ok (.getfield 26, 3) := by decide +kernel
theorem dX2_init_38 : decode cX2_init 38 = .ok (.putfield 32, 3) := by decide +kernel
theorem dX2_init_41 : decode cX2_init 41 = .ok (.aload_n 0, 1) := by decide +kernel
theorem dX2_init_42 : decode cX2_init 42 = .ok (.invokevirtual 33, 3) := by decide +kernel
theorem dX2_init_45 : decode cX2_init 45 = .ok (.return_, 1) := by decide +kernel
theorem dX2_reset_0 : decode cX2_reset 0 = .ok (.iconst 0, 1) := by decide +kernel
theorem dX2_reset_1 : decode cX2_reset 1 = .ok (.istore_n 1, 1) := by decide +kernel
theorem dX2_reset_2 : decode cX2_reset 2 = .ok (.iload_n 1, 1) := by decide +kernel
theorem dX2_reset_3 : decode cX2_reset 3 = .ok (.bipush 9, 2) := by decide +kernel
theorem dX2_reset_5 : decode cX2_reset 5 = .ok (.if_icmp .ge 26, 3) := by decide +kernel
theorem dX2_reset_8 : decode cX2_reset 8 = .ok (.aload_n 0, 1) := by decide +kernel
theorem dX2_reset_9 : decode cX2_reset 9 = .ok (.getfield 9, 3) := by decide +kernel
theorem dX2_reset_12 : decode cX2_reset 12 = .ok (.iload_n 1, 1) := by decide +kernel
theorem dX2_reset_13 : decode cX2_reset 13 = .ok (.iload_n 1, 1) := by decide +kernel
theorem dX2_reset_14 : decode cX2_reset 14 = .ok (.iconst 4, 1) := by decide +kernel
theorem dX2_reset_15 : decode cX2_reset 15 = .ok (.irem, 1) := by decide +kernel
theorem dX2_reset_16 : decode cX2_reset 16 = .ok (.ifCond .ne 7, 3) := by decide +kernel
theorem dX2_reset_19 : decode cX2_reset 19 = .ok (.iconst 1, 1) := by decide +kernel
theorem dX2_reset_20 : decode cX2_reset 20 = .ok (.goto 4, 3) := by decide +kernel
theorem dX2_reset_23 : decode cX2_reset 23 = .ok (.iconst 0, 1) := by decide +kernel
theorem dX2_reset_24 : decode cX2_reset 24 = .ok (.iastore, 1) := by decide +kernel
theorem dX2_reset_25 : decode cX2_reset 25 = .ok (.iinc 1 1, 3) := by decide +kernel
theorem dX2_reset_28 : decode cX2_reset 28 = .ok (.goto (-26), 3) := by decide +kernel
theorem dX2_reset_31 : decode cX2_reset 31 = .ok (.return_, 1) := by decide +kernel
set_option maxRecDepth 20000 in
theorem ggX2_cofactor_X1_crosswise : GoodIn wsX2_cofactor wsX1_crosswise := goodIn_r _ [7, 8, 9, 10, 6, 11, 12, 13, 14, 15, 16, 17, 18, 24, 25, 26, 27, 28] (by decide +kernel) (by decide +kernel)
set_option maxRecDepth 20000 in
theorem gX2_cofactor_X1_crosswise : GoodIn wsX2_cofactor (wsV RX2 36 RX1 yX1_crosswise wsX1_crosswise) := goodIn_app (goodIn_of _ (by decide +kernel)) ggX2_cofactor_X1_crosswise
theorem dX2_cofactor_0 : decode cX2_cofactor 0 = .ok (.iconst 3, 1) := by decide +kernel
theorem dX2_cofactor_1 : decode cX2_cofactor 1 = .ok (.iload_n 1, 1) := by decide +kernel
theorem dX2_cofactor_2 : decode cX2_cofactor 2 = .ok (.iconst 1, 1) := by decide +kernel
theorem dX2_cofactor_3 : decode cX2_cofactor 3 = .ok (.iadd, 1) := by decide +kernel
theorem dX2_cofactor_4 : decode cX2_cofactor 4 = .ok (.iconst 3, 1) := by decide +kernel
theorem dX2_cofactor_5 : decode cX2_cofactor 5 = .ok (.irem, 1) := by decide +kernel
theorem dX2_cofactor_6 : decode cX2_cofactor 6 = .ok (.imul, 1) := by decide +kernel
theorem dX2_cofactor_7 : decode cX2_cofactor 7 = .ok (.istore_n 3, 1) := by decide +kernel
theorem dX2_cofactor_8 : decode cX2_cofactor 8 = .ok (.iconst 3, 1) := by decide +kernel
theorem dX2_cofactor_9 : decode cX2_cofactor 9 = .ok (.iload_n 1, 1) := by decide +kernel
theorem dX2_cofactor_10 : decode cX2_cofactor 10 = .ok (.iconst 2, 1) := by decide +kernel
theorem dX2_cofactor_11 : decode cX2_cofactor 11 = .ok (.iadd, 1) := by decide +kernel
theorem dX2_cofactor_12 : decode cX2_cofactor 12 = .ok (.iconst 3, 1) := by decide +kernel
theorem dX2_cofactor_13 : decode cX2_cofactor 13 = .ok (.irem, 1) := by decide +kernel
theorem dX2_cofactor_14 : decode cX2_cofactor 14 = .ok (.imul, 1) := by decide +kernel
theorem dX2_cofactor_15 : decode cX2_cofactor 15 = .ok (.istore 4, 2) := by decide +kernel
theorem dX2_cofactor_17 : decode cX2_cofactor 17 = .ok (.iload_n 2, 1) := by decide +kernel
theorem dX2_cofactor_18 : decode cX2_cofactor 18 = .ok (.iconst 1, 1) := by decide +kernel
theorem dX2_cofactor_19 : decode cX2_cofactor 19 = .ok (.iadd, 1) := by decide +kernel
theorem dX2_cofactor_20 : decode cX2_cofactor 20 = .ok (.iconst 3, 1) := by decide +kernel
theorem dX2_cofactor_21 : decode cX2_cofactor 21 = .ok (.irem, 1) := by decide +kernel
theorem dX2_cofactor_22 : decode cX2_cofactor 22 = .ok (.istore 5, 2) := by decide +kernel
theorem dX2_cofactor_24 : decode cX2_cofactor 24 = .ok (.iload_n 2, 1) := by decide +kernel
theorem dX2_cofactor_25 : decode cX2_cofactor 25 = .ok (.iconst 2, 1) := by decide +kernel
theorem dX2_cofactor_26 : decode cX2_cofactor 26 = .ok (.iadd, 1) := by decide +kernel
theorem dX2_cofactor_27 : decode cX2_cofactor 27 = .ok (.iconst 3, 1) := by decide +kernel
theorem dX2_cofactor_28 : decode cX2_cofactor 28 = .ok (.irem, 1) := by decide +kernel
theorem dX2_cofactor_29 : decode cX2_cofactor 29 = .ok (.istore 6, 2) := by decide +kernel
theorem dX2_cofactor_31 : decode cX2_cofactor 31 = .ok (.aload_n 0, 1) := by decide +kernel
theorem dX2_cofactor_32 : decode cX2_cofactor 32 = .ok (.getfield 32, 3) := by decide +kernel
theorem dX2_cofactor_35 : decode cX2_cofactor 35 = .ok (.aload_n 0, 1) := by decide +kernel
theorem dX2_cofactor_36 : decode cX2_cofactor 36 = .ok (.getfield 9, 3) := by decide +kernel
theorem dX2_cofactor_39 : decode cX2_cofactor 39 = .ok (.iload_n 3, 1) := by decide +kernel
theorem dX2_cofactor_40 : decode cX2_cofactor 40 = .ok (.iload 5, 2) := by decide +kernel
theorem dX2_cofactor_42 : decode cX2_cofactor 42 = .ok (.iadd, 1) := by decide +kernel
theorem dX2_cofactor_43 : decode cX2_cofactor 43 = .ok (.iaload, 1) := by decide +kernel
theorem dX2_cofactor_44 : decode cX2_cofactor 44 = .ok (.aload_n 0, 1) := by decide +kernel
theorem dX2_cofactor_45 : decode cX2_cofactor 45 = .ok (.getfield 9, 3) := by decide +kernel
theorem dX2_cofactor_48 : decode cX2_cofactor 48 = .ok (.iload_n 3, 1) := by decide +kernel
theorem dX2_cofactor_49 : decode cX2_cofactor 49 = .ok (.iload 6, 2) := by decide +kernel
theorem dX2_cofactor_51 : decode cX2_cofactor 51 = .ok (.iadd, 1) := by decide +kernel
theorem dX2_cofactor_52 : decode cX2_cofactor 52 = .ok (.iaload, 1) := by decide +kernel
theorem dX2_cofactor_53 : decode cX2_cofactor 53 = .ok (.aload_n 0, 1) := by decide +kernel
theorem dX2_cofactor_54 : decode cX2_cofactor 54 = .ok (.getfield 9, 3) := by decide +kernel
theorem dX2_cofactor_57 : decode cX2_cofactor 57 = .ok (.iload 4, 2) := by decide +kernel
theorem dX2_cofactor_59 : decode cX2_cofactor 59 = .ok (.iload 5, 2) := by decide +kernel
theorem dX2_cofactor_61 : decode cX2_cofactor 61 = .ok (.iadd, 1) := by decide +kernel
theorem dX2_cofactor_62 : decode cX2_cofactor 62 = .ok (.iaload, 1) := by decide +kernel
theorem dX2_cofactor_63 : decode cX2_cofactor 63 = .ok (.aload_n 0, 1) := by decide +kernel
theorem dX2_cofactor_64 : decode cX2_cofactor 64 = .ok (.getfield 9, 3) := by decide +kernel
theorem dX2_cofactor_67 : decode cX2_cofactor 67 = .ok (.iload 4, 2) := by decide +kernel
theorem dX2_cofactor_69 : decode cX2_cofactor 69 = .ok (.iload 6, 2) := by decide +kernel
theorem dX2_cofactor_71 : decode cX2_cofactor 71 = .ok (.iadd, 1) := by decide +kernel
theorem dX2_cofactor_72 : decode cX2_cofactor 72 = .ok (.iaload, 1) := by decide +kernel
theorem dX2_cofactor_73 : decode cX2_cofactor 73 = .ok (.invokevirtual 36, 3) := by decide +kernel
theorem dX2_cofactor_76 : decode cX2_cofactor 76 = .ok (.ireturn, 1) := by decide +kernel
set_option maxRecDepth 20000 in
theorem ggX2_det_X2_cofactor : GoodIn wsX2_det wsX2_cofactor := goodIn_r _ [7, 1, 2, 8, 9, 10, 11, 12, 13, 14, 15, 16, 17, 18, 19, 20, 21, 22, 23, 29, 30, 31, 32, 33, 34, 35, 36, 37, 38] (by decide +kernel) (by decide +kernel)
set_option maxRecDepth 20000 in
theorem gX2_det_X2_cofactor : GoodIn wsX2_det (wsV RX2 42 RX2 yX2_cofactor wsX2_cofactor) := goodIn_app (goodIn_of _ (by decide +kernel)) ggX2_det_X2_cofactor
set_option maxRecDepth 20000 in
theorem ggX2_det_X1_times : GoodIn wsX2_det wsX1_times := goodIn_r _ [16, 17, 34, 35, 36, 37, 38] (by decide +kernel) (by decide +kernel)
set_option maxRecDepth 20000 in
theorem gX2_det_X1_times : GoodIn wsX2_det (wsV RX2 46 RX1 yX1_times wsX1_times) := goodIn_app (goodIn_of _ (by decide +kernel)) ggX2_det_X1_times
set_option maxRecDepth 20000 in
theorem ggX2_det_X1_plus : GoodIn wsX2_det wsX1_plus := goodIn_r _ [28, 22, 34, 35, 36, 37, 38] (by decide +kernel) (by decide +kernel)
set_option maxRecDepth 20000 in
theorem gX2_det_X1_plus : GoodIn wsX2_det (wsV RX2 49 RX1 yX1_plus wsX1_plus) := goodIn_app (goodIn_of _ (by decide +kernel)) ggX2_det_X1_plus
theorem dX2_det_0 : decode cX2_det 0 = .ok (.iconst 0, 1) := by decide +kernel
theorem dX2_det_1 : decode cX2_det 1 = .ok (.istore_n 1, 1) := by decide +kernel
theorem dX2_det_2 : decode cX2_det 2 = .ok (.iconst 0, 1) := by decide +kernel
theorem dX2_det_3 : decode cX2_det 3 = .ok (.istore_n 2, 1) := by decide +kernel
theorem dX2_det_4 : decode cX2_det 4 = .ok (.iload_n 2, 1) := by decide +kernel
theorem dX2_det_5 : decode cX2_det 5 = .ok (.iconst 3, 1) := by decide +kernel
theorem dX2_det_6 : decode cX2_det 6 = .ok (.if_icmp .ge 37, 3) := by decide +kernel
theorem dX2_det_9 : decode cX2_det 9 = .ok (.aload_n 0, 1) := by decide +kernel
theorem dX2_det_10 : decode cX2_det 10 = .ok (.getfield 32, 3) := by decide +kernel
theorem dX2_det_13 : decode cX2_det 13 = .ok (.iload_n 1, 1) := by decide +kernel
theorem dX2_det_14 : decode cX2_det 14 = .ok (.aload_n 0, 1) := by decide +kernel
theorem dX2_det_15 : decode cX2_det 15 = .ok (.getfield 32, 3) := by decide +kernel
theorem dX2_det_18 : decode cX2_det 18 = .ok (.aload_n 0, 1) := by decide +kernel
theorem dX2_det_19 : decode cX2_det 19 = .ok (.getfield 9, 3) := by decide +kernel
theorem dX2_det_22 : decode cX2_det 22 = .ok (.iload_n 2, 1) := by decide +kernel
theorem dX2_det_23 : decode cX2_det 23 = .ok (.iaload, 1) := by decide +kernel
theorem dX2_det_24 : decode cX2_det 24 = .ok (.aload_n 0, 1) := by decide +kernel
theorem dX2_det_25 : decode cX2_det 25 = .ok (.iconst 0, 1) := by decide +kernel
theorem dX2_det_26 : decode cX2_det 26 = .ok (.iload_n 2, 1) := by decide +kernel
theorem dX2_det_27 : decode cX2_det 27 = .ok (.invokevirtual 42, 3) := by decide +kernel
theorem dX2_det_30 : decode cX2_det 30 = .ok (.invokevirtual 46, 3) := by decide +kernel
theorem dX2_det_33 : decode cX2_det 33 = .ok (.invokevirtual 49, 3) := by decide +kernel
theorem dX2_det_36 : decode cX2_det 36 = .ok (.istore_n 1, 1) := by decide +kernel
theorem dX2_det_37 : decode cX2_det 37 = .ok (.iinc 2 1, 3) := by decide +kernel
theorem dX2_det_40 : decode cX2_det 40 = .ok (.goto (-36), 3) := by decide +kernel
theorem dX2_det_43 : decode cX2_det 43 = .ok (.iload_n 1, 1) := by decide +kernel
theorem dX2_det_44 : decode cX2_det 44 = .ok (.ireturn, 1) := by decide +kernel
set_option maxRecDepth 20000 in
theorem ggX2_imagePart_X3_part : GoodIn wsX2_imagePart wsX3_part := goodIn_r _ [8, 9, 26, 27, 28, 29] (by decide +kernel) (by decide +kernel)
set_option maxRecDepth 20000 in
theorem gX2_imagePart_X3_part : GoodIn wsX2_imagePart (wsV RX2 52 RX3 yX3_part wsX3_part) := goodIn_app (goodIn_of _ (by decide +kernel)) ggX2_imagePart_X3_part
set_option maxRecDepth 20000 in
theorem ggX2_imagePart_X1_times : GoodIn wsX2_imagePart wsX1_times := goodIn_r _ [14, 15, 30, 31, 32, 33, 34] (by decide +kernel) (by decide +kernel)
set_option maxRecDepth 20000 in
theorem gX2_imagePart_X1_times : GoodIn wsX2_imagePart (wsV RX2 46 RX1 yX1_times wsX1_times) := goodIn_app (goodIn_of _ (by decide +kernel)) ggX2_imagePart_X1_times
set_option maxRecDepth 20000 in
theorem ggX2_imagePart_X1_plus : GoodIn wsX2_imagePart wsX1_plus := goodIn_r _ [19, 20, 30, 31, 32, 33, 34] (by decide +kernel) (by decide +kernel)
set_option maxRecDepth 20000 in
theorem gX2_imagePart_X1_plus : GoodIn wsX2_imagePart (wsV RX2 49 RX1 yX1_plus wsX1_plus) := goodIn_app (goodIn_of _ (by decide +kernel)) ggX2_imagePart_X1_plus
theorem dX2_imagePart_0 : decode cX2_imagePart 0 = .ok (.iconst 0, 1) := by decide +kernel
theorem dX2_imagePart_1 : decode cX2_imagePart 1 = .ok (.istore_n 3, 1) := by decide +kernel
theorem dX2_imagePart_2 : decode cX2_imagePart 2 = .ok (.iconst 0, 1) := by decide +kernel
theorem dX2_imagePart_3 : decode cX2_imagePart 3 = .ok (.istore 4, 2) := by decide +kernel
theorem dX2_imagePart_5 : decode cX2_imagePart 5 = .ok (.iload 4, 2) := by decide +kernel
theorem dX2_imagePart_7 : decode cX2_imagePart 7 = .ok (.iconst 3, 1) := by decide +kernel
theorem dX2_imagePart_8 : decode cX2_imagePart 8 = .ok (.if_icmp .ge 46, 3) := by decide +kernel
theorem dX2_imagePart_11 : decode cX2_imagePart 11 = .ok (.aload_n 0, 1) := by decide +kernel
theorem dX2_imagePart_12 : decode cX2_imagePart 12 = .ok (.getfield 32, 3) := by decide +kernel
theorem dX2_imagePart_15 : decode cX2_imagePart 15 = .ok (.iload_n 3, 1) := by decide +kernel
theorem dX2_imagePart_16 : decode cX2_imagePart 16 = .ok (.aload_n 0, 1) := by decide +kernel
theorem dX2_imagePart_17 : decode cX2_imagePart 17 = .ok (.getfield 32, 3) := by decide +kernel
theorem dX2_imagePart_20 : decode cX2_imagePart 20 = .ok (.aload_n 0, 1) := by decide +kernel
theorem dX2_imagePart_21 : decode cX2_imagePart 21 = .ok (.getfield 9, 3) := by decide +kernel
theorem dX2_imagePart_24 : decode cX2_imagePart 24 = .ok (.iconst 3, 1) := by decide +kernel
theorem dX2_imagePart_25 : decode cX2_imagePart 25 = .ok (.iload_n 2, 1) := by decide +kernel
theorem dX2_imagePart_26 : decode cX2_imagePart 26 = .ok (.imul, 1) := by decide +kernel
theorem dX2_imagePart_27 : decode cX2_imagePart 27 = .ok (.iload 4, 2) := by decide +kernel
theorem dX2_imagePart_29 : decode cX2_imagePart 29 = .ok (.iadd, 1) := by decide +kernel
theorem dX2_imagePart_30 : decode cX2_imagePart 30 = .ok (.iaload, 1) := by decide +kernel
theorem dX2_imagePart_31 : decode cX2_imagePart 31 = .ok (.aload_n 0, 1) := by decide +kernel
theorem dX2_imagePart_32 : decode cX2_imagePart 32 = .ok (.getfield 22, 3) := by decide +kernel
theorem dX2_imagePart_35 : decode cX2_imagePart 35 = .ok (.iload_n 1, 1) := by decide +kernel
theorem dX2_imagePart_36 : decode cX2_imagePart 36 = .ok (.iload 4, 2) := by decide +kernel
theorem dX2_imagePart_38 : decode cX2_imagePart 38 = .ok (.invokevirtual 52, 3) := by decide +kernel
theorem dX2_imagePart_41 : decode cX2_imagePart 41 = .ok (.invokevirtual 46, 3) := by decide +kernel
theorem dX2_imagePart_44 : decode cX2_imagePart 44 = .ok (.invokevirtual 49, 3) := by decide +kernel
theorem dX2_imagePart_47 : decode cX2_imagePart 47 = .ok (.istore_n 3, 1) := by decide +kernel
theorem dX2_imagePart_48 : decode cX2_imagePart 48 = .ok (.iinc 4 1, 3) := by decide +kernel
theorem dX2_imagePart_51 : decode cX2_imagePart 51 = .ok (.goto (-46), 3) := by decide +kernel
theorem dX2_imagePart_54 : decode cX2_imagePart 54 = .ok (.iload_n 3, 1) := by decide +kernel
theorem dX2_imagePart_55 : decode cX2_imagePart 55 = .ok (.ireturn, 1) := by decide +kernel
set_option maxRecDepth 20000 in
theorem ggX2_goesTo_X2_imagePart : GoodIn wsX2_goesTo wsX2_imagePart := goodIn_r _ [6, 7, 8, 1, 9, 10, 11, 12, 13, 14, 15, 16, 17, 18, 19, 20, 21, 22, 23, 24, 25, 36, 37, 38, 39, 40, 41, 42, 43, 44, 45, 46, 47, 48, 49] (by decide +kernel) (by decide +kernel)
set_option maxRecDepth 20000 in
theorem gX2_goesTo_X2_imagePart : GoodIn wsX2_goesTo (wsV RX2 55 RX2 yX2_imagePart wsX2_imagePart) := goodIn_app (goodIn_of _ (by decide +kernel)) ggX2_goesTo_X2_imagePart
set_option maxRecDepth 20000 in
theorem ggX2_goesTo_X3_numberOf : GoodIn wsX2_goesTo wsX3_numberOf := goodIn_r _ [29, 30, 31, 32, 33, 18, 34, 20, 35, 41, 42, 43, 44, 45, 46, 47, 48, 49] (by decide +kernel) (by decide +kernel)
set_option maxRecDepth 20000 in
theorem gX2_goesTo_X3_numberOf : GoodIn wsX2_goesTo (wsV RX2 58 RX3 yX3_numberOf wsX3_numberOf) := goodIn_app (goodIn_of _ (by decide +kernel)) ggX2_goesTo_X3_numberOf
theorem dX2_goesTo_0 : decode cX2_goesTo 0 = .ok (.aload_n 0, 1) := by decide +kernel
theorem dX2_goesTo_1 : decode cX2_goesTo 1 = .ok (.getfield 22, 3) := by decide +kernel
theorem dX2_goesTo_4 : decode cX2_goesTo 4 = .ok (.aload_n 0, 1) := by decide +kernel
theorem dX2_goesTo_5 : decode cX2_goesTo 5 = .ok (.iload_n 1, 1) := by decide +kernel
theorem dX2_goesTo_6 : decode cX2_goesTo 6 = .ok (.iconst 0, 1) := by decide +kernel
theorem dX2_goesTo_7 : decode cX2_goesTo 7 = .ok (.invokevirtual 55, 3) := by decide +kernel
theorem dX2_goesTo_10 : decode cX2_goesTo 10 = .ok (.aload_n 0, 1) := by decide +kernel
theorem dX2_goesTo_11 : decode cX2_goesTo 11 = .ok (.iload_n 1, 1) := by decide +kernel
theorem dX2_goesTo_12 : decode cX2_goesTo 12 = .ok (.iconst 1, 1) := by decide +kernel
theorem dX2_goesTo_13 : decode cX2_goesTo 13 = .ok (.invokevirtual 55, 3) := by decide +kernel
theorem dX2_goesTo_16 : decode cX2_goesTo 16 = .ok (.aload_n 0, 1) := by decide +kernel
theorem dX2_goesTo_17 : decode cX2_goesTo 17 = .ok (.iload_n 1, 1) := by decide +kernel
theorem dX2_goesTo_18 : decode cX2_goesTo 18 = .ok (.iconst 2, 1) := by decide +kernel
theorem dX2_goesTo_19 : decode cX2_goesTo 19 = .ok (.invokevirtual 55, 3) := by decide +kernel
theorem dX2_goesTo_22 : decode cX2_goesTo 22 = .ok (.invokevirtual 58, 3) := by decide +kernel
theorem dX2_goesTo_25 : decode cX2_goesTo 25 = .ok (.ireturn, 1) := by decide +kernel
set_option maxRecDepth 20000 in
theorem ggX2_period_X3_numberOf : GoodIn wsX2_period wsX3_numberOf := goodIn_r _ [7, 8, 9, 10, 11, 12, 13, 14, 15, 59, 60, 61, 62, 54, 55, 56, 57, 58] (by decide +kernel) (by decide +kernel)
set_option maxRecDepth 20000 in
theorem gX2_period_X3_numberOf : GoodIn wsX2_period (wsV RX2 58 RX3 yX3_numberOf wsX3_numberOf) := goodIn_app (goodIn_of _ (by decide +kernel)) ggX2_period_X3_numberOf
set_option maxRecDepth 20000 in
theorem ggX2_period_X2_goesTo : GoodIn wsX2_period wsX2_goesTo := goodIn_r _ [20, 1, 21, 22, 23, 19, 24, 2, 25, 26, 27, 28, 6, 29, 30, 31, 32, 33, 12, 34, 14, 35, 36, 37, 38, 39, 3, 4, 5, 7, 8, 9, 10, 11, 13, 15, 49, 50, 51, 52, 53, 59, 60, 61, 62, 54, 55, 56, 57, 58] (by decide +kernel) (by decide +kernel)
set_option maxRecDepth 20000 in
theorem gX2_period_X2_goesTo : GoodIn wsX2_period (wsV RX2 69 RX2 yX2_goesTo wsX2_goesTo) := goodIn_app (goodIn_of _ (by decide +kernel)) ggX2_period_X2_goesTo
set_option maxRecDepth 20000 in
theorem ggX2_period_X3_hasFour : GoodIn wsX2_period wsX3_hasFour := goodIn_r _ [43, 44, 45, 46, 6, 47, 48, 59, 60, 61, 62] (by decide +kernel) (by decide +kernel)
set_option maxRecDepth 20000 in
theorem gX2_period_X3_hasFour : GoodIn wsX2_period (wsV RX2 73 RX3 yX3_hasFour wsX3_hasFour) := goodIn_app (goodIn_of _ (by decide +kernel)) ggX2_period_X3_hasFour
theorem dX2_period_0 : decode cX2_period 0 = .ok (.aload_n 0, 1) := by decide +kernel
theorem dX2_period_1 : decode cX2_period 1 = .ok (.getfield 22, 3) := by decide +kernel
theorem dX2_period_4 : decode cX2_period 4 = .ok (.iconst 1, 1) := by decide +kernel
theorem dX2_period_5 : decode cX2_period 5 = .ok (.iconst 1, 1) := by decide +kernel
theorem dX2_period_6 : decode cX2_period 6 = .ok (.iconst 1, 1) := by decide +kernel
theorem dX2_period_7 : decode cX2_period 7 = .ok (.invokevirtual 58, 3) := by decide +kernel
theorem dX2_period_10 : decode cX2_period 10 = .ok (.istore_n 1, 1) := by decide +kernel
theorem dX2_period_11 : decode cX2_period 11 = .ok (.iconst 0, 1) := by decide +kernel
theorem dX2_period_12 : decode cX2_period 12 = .ok (.istore_n 2, 1) := by decide +kernel
theorem dX2_period_13 : decode cX2_period 13 = .ok (.iconst 1, 1) := by decide +kernel
theorem dX2_period_14 : decode cX2_period 14 = .ok (.istore_n 3, 1) := by decide +kernel
theorem dX2_period_15 : decode cX2_period 15 = .ok (.iconst 1, 1) := by decide +kernel
theorem dX2_period_16 : decode cX2_period 16 = .ok (.aload_n 0, 1) := by decide +kernel
theorem dX2_period_17 : decode cX2_period 17 = .ok (.getfield 32, 3) := by decide +kernel
theorem dX2_period_20 : decode cX2_period 20 = .ok (.getfield 62, 3) := by decide +kernel
theorem dX2_period_23 : decode cX2_period 23 = .ok (.iadd, 1) := by decide +kernel
theorem dX2_period_24 : decode cX2_period 24 = .ok (.istore 4, 2) := by decide +kernel
theorem dX2_period_26 : decode cX2_period 26 = .ok (.iload_n 1, 1) := by decide +kernel
theorem dX2_period_27 : decode cX2_period 27 = .ok (.istore 5, 2) := by decide +kernel
theorem dX2_period_29 : decode cX2_period 29 = .ok (.iconst 1, 1) := by decide +kernel
theorem dX2_period_30 : decode cX2_period 30 = .ok (.istore 6, 2) := by decide +kernel
theorem dX2_period_32 : decode cX2_period 32 = .ok (.iload 6, 2) := by decide +kernel
theorem dX2_period_34 : decode cX2_period 34 = .ok (.aload_n 0, 1) := by decide +kernel
theorem dX2_period_35 : decode cX2_period 35 = .ok (.getfield 22, 3) := by decide +kernel
theorem dX2_period_38 : decode cX2_period 38 = .ok (.getfield 66, 3) := by decide +kernel
theorem dX2_period_41 : decode cX2_period 41 = .ok (.if_icmp .gt 88, 3) := by decide +kernel
theorem dX2_period_44 : decode cX2_period 44 = .ok (.aload_n 0, 1) := by decide +kernel
theorem dX2_period_45 : decode cX2_period 45 = .ok (.iload_n 2, 1) := by decide +kernel
theorem dX2_period_46 : decode cX2_period 46 = .ok (.invokevirtual 69, 3) := by decide +kernel
theorem dX2_period_49 : decode cX2_period 49 = .ok (.istore_n 2, 1) := by decide +kernel
theorem dX2_period_50 : decode cX2_period 50 = .ok (.aload_n 0, 1) := by decide +kernel
theorem dX2_period_51 : decode cX2_period 51 = .ok (.iload_n 3, 1) := by decide +kernel
theorem dX2_period_52 : decode cX2_period 52 = .ok (.invokevirtual 69, 3) := by decide +kernel
theorem dX2_period_55 : decode cX2_period 55 = .ok (.istore_n 3, 1) := by decide +kernel
theorem dX2_period_56 : decode cX2_period 56 = .ok (.aload_n 0, 1) := by decide +kernel
theorem dX2_period_57 : decode cX2_period 57 = .ok (.iload 4, 2) := by decide +kernel
theorem dX2_period_59 : decode cX2_period 59 = .ok (.invokevirtual 69, 3) := by decide +kernel
theorem dX2_period_62 : decode cX2_period 62 = .ok (.istore 4, 2) := by decide +kernel
theorem dX2_period_64 : decode cX2_period 64 = .ok (.aload_n 0, 1) := by decide +kernel
theorem dX2_period_65 : decode cX2_period 65 = .ok (.iload 5, 2) := by decide +kernel
theorem dX2_period_67 : decode cX2_period 67 = .ok (.invokevirtual 69, 3) := by decide +kernel
theorem dX2_period_70 : decode cX2_period 70 = .ok (.istore 5, 2) := by decide +kernel
theorem dX2_period_72 : decode cX2_period 72 = .ok (.iload_n 2, 1) := by decide +kernel
theorem dX2_period_73 : decode cX2_period 73 = .ok (.ifCond .ne 31, 3) := by decide +kernel
theorem dX2_period_76 : decode cX2_period 76 = .ok (.iload_n 3, 1) := by decide +kernel
theorem dX2_period_77 : decode cX2_period 77 = .ok (.iconst 1, 1) := by decide +kernel
theorem dX2_period_78 : decode cX2_period 78 = .ok (.if_icmp .ne 26, 3) := by decide +kernel
theorem dX2_period_81 : decode cX2_period 81 = .ok (.iload 4, 2) := by decide +kernel
theorem dX2_period_83 : decode cX2_period 83 = .ok (.iconst 1, 1) := by decide +kernel
theorem dX2_period_84 : decode cX2_period 84 = .ok (.aload_n 0, 1) := by decide +kernel
theorem dX2_period_85 : decode cX2_period 85 = .ok (.getfield 32, 3) := by decide +kernel
theorem dX2_period_88 : decode cX2_period 88 = .ok (.getfield 62, 3) := by decide +kernel
theorem dX2_period_91 : decode cX2_period 91 = .ok (.iadd, 1) := by decide +kernel
theorem dX2_period_92 : decode cX2_period 92 = .ok (.if_icmp .ne 12, 3) := by decide +kernel
theorem dX2_period_95 : decode cX2_period 95 = .ok (.iload 5, 2) := by decide +kernel
theorem dX2_period_97 : decode cX2_period 97 = .ok (.iload_n 1, 1) := by decide +kernel
theorem dX2_period_98 : decode cX2_period 98 = .ok (.if_icmp .ne 6, 3) := by decide +kernel
theorem dX2_period_101 : decode cX2_period 101 = .ok (.iload 6, 2) := by decide +kernel
theorem dX2_period_103 : decode cX2_period 103 = .ok (.ireturn, 1) := by decide +kernel
theorem dX2_period_104 : decode cX2_period 104 = .ok (.aload_n 0, 1) := by decide +kernel
theorem dX2_period_105 : decode cX2_period 105 = .ok (.getfield 22, 3) := by decide +kernel
theorem dX2_period_108 : decode cX2_period 108 = .ok (.iload_n 2, 1) := by decide +kernel
theorem dX2_period_109 : decode cX2_period 109 = .ok (.iload_n 3, 1) := by decide +kernel
theorem dX2_period_110 : decode cX2_period 110 = .ok (.iload 4, 2) := by decide +kernel
theorem dX2_period_112 : decode cX2_period 112 = .ok (.iload 5, 2) := by decide +kernel
theorem dX2_period_114 : decode cX2_period 114 = .ok (.invokevirtual 73, 3) := by decide +kernel
theorem dX2_period_117 : decode cX2_period 117 = .ok (.ifCond .ne 6, 3) := by decide +kernel
theorem dX2_period_120 : decode cX2_period 120 = .ok (.bipush (-3), 2) := by decide +kernel
theorem dX2_period_122 : decode cX2_period 122 = .ok (.ireturn, 1) := by decide +kernel
theorem dX2_period_123 : decode cX2_period 123 = .ok (.iinc 6 1, 3) := by decide +kernel
theorem dX2_period_126 : decode cX2_period 126 = .ok (.goto (-94), 3) := by decide +kernel
theorem dX2_period_129 : decode cX2_period 129 = .ok (.bipush (-3), 2) := by decide +kernel
theorem dX2_period_131 : decode cX2_period 131 = .ok (.ireturn, 1) := by decide +kernel
set_option maxRecDepth 20000 in
theorem ggX2_fixedPoints_X2_goesTo : GoodIn wsX2_fixedPoints wsX2_goesTo := goodIn_r _ [6, 1, 7, 8, 9, 5, 10, 11, 12, 13, 14, 15, 16, 17, 18, 19, 20, 21, 22, 23, 24, 25, 26, 27, 28, 29, 30, 31, 32, 33, 34, 35, 36, 37, 38, 39, 40, 41, 42, 43, 44, 45, 46, 47, 48, 49, 50, 51, 52, 53] (by decide +kernel) (by decide +kernel)
set_option maxRecDepth 20000 in
theorem gX2_fixedPoints_X2_goesTo : GoodIn wsX2_fixedPoints (wsV RX2 69 RX2 yX2_goesTo wsX2_goesTo) := goodIn_app (goodIn_of _ (by decide +kernel)) ggX2_fixedPoints_X2_goesTo
theorem dX2_fixedPoints_0 : decode cX2_fixedPoints 0 = .ok (.iconst 0, 1) := by decide +kernel
theorem dX2_fixedPoints_1 : decode cX2_fixedPoints 1 = .ok (.istore_n 1, 1) := by decide +kernel
theorem dX2_fixedPoints_2 : decode cX2_fixedPoints 2 = .ok (.iconst 0, 1) := by decide +kernel
theorem dX2_fixedPoints_3 : decode cX2_fixedPoints 3 = .ok (.istore_n 2, 1) := by decide +kernel
theorem dX2_fixedPoints_4 : decode cX2_fixedPoints 4 = .ok (.iload_n 2, 1) := by decide +kernel
theorem dX2_fixedPoints_5 : decode cX2_fixedPoints 5 = .ok (.aload_n 0, 1) := by decide +kernel
theorem dX2_fixedPoints_6 : decode cX2_fixedPoints 6 = .ok (.getfield 22, 3) := by decide +kernel
theorem dX2_fixedPoints_9 : decode cX2_fixedPoints 9 = .ok (.getfield 66, 3) := by decide +kernel
theorem dX2_fixedPoints_12 : decode cX2_fixedPoints 12 = .ok (.if_icmp .ge 21, 3) := by decide +kernel
theorem dX2_fixedPoints_15 : decode cX2_fixedPoints 15 = .ok (.aload_n 0, 1) := by decide +kernel
theorem dX2_fixedPoints_16 : decode cX2_fixedPoints 16 = .ok (.iload_n 2, 1) := by decide +kernel
theorem dX2_fixedPoints_17 : decode cX2_fixedPoints 17 = .ok (.invokevirtual 69, 3) := by decide +kernel
theorem dX2_fixedPoints_20 : decode cX2_fixedPoints 20 = .ok (.iload_n 2, 1) := by decide +kernel
theorem dX2_fixedPoints_21 : decode cX2_fixedPoints 21 = .ok (.if_icmp .ne 6, 3) := by decide +kernel
theorem dX2_fixedPoints_24 : decode cX2_fixedPoints 24 = .ok (.iinc 1 1, 3) := by decide +kernel
theorem dX2_fixedPoints_27 : decode cX2_fixedPoints 27 = .ok (.iinc 2 1, 3) := by decide +kernel
theorem dX2_fixedPoints_30 : decode cX2_fixedPoints 30 = .ok (.goto (-26), 3) := by decide +kernel
theorem dX2_fixedPoints_33 : decode cX2_fixedPoints 33 = .ok (.iload_n 1, 1) := by decide +kernel
theorem dX2_fixedPoints_34 : decode cX2_fixedPoints 34 = .ok (.ireturn, 1) := by decide +kernel
set_option maxRecDepth 20000 in
theorem ggX2_turnBack_X2_cofactor : GoodIn wsX2_turnBack wsX2_cofactor := goodIn_r _ [6, 7, 8, 9, 10, 11, 12, 13, 14, 15, 16, 17, 18, 19, 20, 21, 22, 23, 24, 37, 38, 39, 40, 41, 42, 43, 44, 45, 46] (by decide +kernel) (by decide +kernel)
set_option maxRecDepth 20000 in
theorem gX2_turnBack_X2_cofactor : GoodIn wsX2_turnBack (wsV RX2 42 RX2 yX2_cofactor wsX2_cofactor) := goodIn_app (goodIn_of _ (by decide +kernel)) ggX2_turnBack_X2_cofactor
set_option maxRecDepth 20000 in
theorem ggX2_turnBack_X2_takeMade : GoodIn wsX2_turnBack wsX2_takeMade := goodIn_r _ [28, 8, 1, 7, 29, 30, 31, 32, 33, 34, 12, 35, 18, 36, 37, 38, 39, 40, 41, 42, 43, 44, 45, 46] (by decide +kernel) (by decide +kernel)
set_option maxRecDepth 20000 in
theorem gX2_turnBack_X2_takeMade : GoodIn wsX2_turnBack (wsV RX2 77 RX2 yX2_takeMade wsX2_takeMade) := goodIn_app (goodIn_of _ (by decide +kernel)) ggX2_turnBack_X2_takeMade
theorem dX2_turnBack_0 : decode cX2_turnBack 0 = .ok (.iconst 0, 1) := by decide +kernel
theorem dX2_turnBack_1 : decode cX2_turnBack 1 = .ok (.istore_n 1, 1) := by decide +kernel
theorem dX2_turnBack_2 : decode cX2_turnBack 2 = .ok (.iload_n 1, 1) := by decide +kernel
theorem dX2_turnBack_3 : decode cX2_turnBack 3 = .ok (.iconst 3, 1) := by decide +kernel
theorem dX2_turnBack_4 : decode cX2_turnBack 4 = .ok (.if_icmp .ge 38, 3) := by decide +kernel
theorem dX2_turnBack_7 : decode cX2_turnBack 7 = .ok (.iconst 0, 1) := by decide +kernel
theorem dX2_turnBack_8 : decode cX2_turnBack 8 = .ok (.istore_n 2, 1) := by decide +kernel
theorem dX2_turnBack_9 : decode cX2_turnBack 9 = .ok (.iload_n 2, 1) := by decide +kernel
theorem dX2_turnBack_10 : decode cX2_turnBack 10 = .ok (.iconst 3, 1) := by decide +kernel
theorem dX2_turnBack_11 : decode cX2_turnBack 11 = .ok (.if_icmp .ge 25, 3) := by decide +kernel
theorem dX2_turnBack_14 : decode cX2_turnBack 14 = .ok (.aload_n 0, 1) := by decide +kernel
theorem dX2_turnBack_15 : decode cX2_turnBack 15 = .ok (.getfield 15, 3) := by decide +kernel
theorem dX2_turnBack_18 : decode cX2_turnBack 18 = .ok (.iconst 3, 1) := by decide +kernel
theorem dX2_turnBack_19 : decode cX2_turnBack 19 = .ok (.iload_n 2, 1) := by decide +kernel
theorem dX2_turnBack_20 : decode cX2_turnBack 20 = .ok (.imul, 1) := by decide +kernel
theorem dX2_turnBack_21 : decode cX2_turnBack 21 = .ok (.iload_n 1, 1) := by decide +kernel
theorem dX2_turnBack_22 : decode cX2_turnBack 22 = .ok (.iadd, 1) := by decide +kernel
theorem dX2_turnBack_23 : decode cX2_turnBack 23 = .ok (.aload_n 0, 1) := by decide +kernel
theorem dX2_turnBack_24 : decode cX2_turnBack 24 = .ok (.iload_n 1, 1) := by decide +kernel
theorem dX2_turnBack_25 : decode cX2_turnBack 25 = .ok (.iload_n 2, 1) := by decide +kernel
theorem dX2_turnBack_26 : decode cX2_turnBack 26 = .ok (.invokevirtual 42, 3) := by decide +kernel
theorem dX2_turnBack_29 : decode cX2_turnBack 29 = .ok (.iastore, 1) := by decide +kernel
theorem dX2_turnBack_30 : decode cX2_turnBack 30 = .ok (.iinc 2 1, 3) := by decide +kernel
theorem dX2_turnBack_33 : decode cX2_turnBack 33 = .ok (.goto (-24), 3) := by decide +kernel
theorem dX2_turnBack_36 : decode cX2_turnBack 36 = .ok (.iinc 1 1, 3) := by decide +kernel
theorem dX2_turnBack_39 : decode cX2_turnBack 39 = .ok (.goto (-37), 3) := by decide +kernel
theorem dX2_turnBack_42 : decode cX2_turnBack 42 = .ok (.aload_n 0, 1) := by decide +kernel
theorem dX2_turnBack_43 : decode cX2_turnBack 43 = .ok (.invokevirtual 77, 3) := by decide +kernel
theorem dX2_turnBack_46 : decode cX2_turnBack 46 = .ok (.return_, 1) := by decide +kernel
set_option maxRecDepth 20000 in
theorem ggX2_carry_X2_goesTo : GoodIn wsX2_carry wsX2_goesTo := goodIn_r _ [7, 1, 8, 9, 10, 6, 11, 12, 13, 14, 15, 16, 17, 18, 19, 20, 21, 22, 23, 24, 25, 26, 27, 28, 29, 30, 31, 32, 33, 34, 35, 36, 37, 38, 39, 40, 41, 42, 43, 44, 45, 46, 47, 48, 49, 50, 51, 52, 53, 54] (by decide +kernel) (by decide +kernel)
set_option maxRecDepth 20000 in
theorem gX2_carry_X2_goesTo : GoodIn wsX2_carry (wsV RX2 69 RX2 yX2_goesTo wsX2_goesTo) := goodIn_app (goodIn_of _ (by decide +kernel)) ggX2_carry_X2_goesTo
theorem dX2_carry_0 : decode cX2_carry 0 = .ok (.iconst 0, 1) := by decide +kernel
theorem dX2_carry_1 : decode cX2_carry 1 = .ok (.istore_n 2, 1) := by decide +kernel
theorem dX2_carry_2 : decode cX2_carry 2 = .ok (.iload_n 2, 1) := by decide +kernel
theorem dX2_carry_3 : decode cX2_carry 3 = .ok (.aload_n 0, 1) := by decide +kernel
theorem dX2_carry_4 : decode cX2_carry 4 = .ok (.getfield 22, 3) := by decide +kernel
theorem dX2_carry_7 : decode cX2_carry 7 = .ok (.getfield 66, 3) := by decide +kernel
theorem dX2_carry_10 : decode cX2_carry 10 = .ok (.if_icmp .ge 16, 3) := by decide +kernel
theorem dX2_carry_13 : decode cX2_carry 13 = .ok (.aload_n 0, 1) := by decide +kernel
theorem dX2_carry_14 : decode cX2_carry 14 = .ok (.getfield 18, 3) := by decide +kernel
theorem dX2_carry_17 : decode cX2_carry 17 = .ok (.iload_n 2, 1) := by decide +kernel
theorem dX2_carry_18 : decode cX2_carry 18 = .ok (.iconst 0, 1) := by decide +kernel
theorem dX2_carry_19 : decode cX2_carry 19 = .ok (.bastore, 1) := by decide +kernel
theorem dX2_carry_20 : decode cX2_carry 20 = .ok (.iinc 2 1, 3) := by decide +kernel
theorem dX2_carry_23 : decode cX2_carry 23 = .ok (.goto (-21), 3) := by decide +kernel
theorem dX2_carry_26 : decode cX2_carry 26 = .ok (.iconst 0, 1) := by decide +kernel
theorem dX2_carry_27 : decode cX2_carry 27 = .ok (.istore_n 2, 1) := by decide +kernel
theorem dX2_carry_28 : decode cX2_carry 28 = .ok (.iload_n 2, 1) := by decide +kernel
theorem dX2_carry_29 : decode cX2_carry 29 = .ok (.aload_n 0, 1) := by decide +kernel
theorem dX2_carry_30 : decode cX2_carry 30 = .ok (.getfield 22, 3) := by decide +kernel
theorem dX2_carry_33 : decode cX2_carry 33 = .ok (.getfield 66, 3) := by decide +kernel
theorem dX2_carry_36 : decode cX2_carry 36 = .ok (.if_icmp .ge 39, 3) := by decide +kernel
theorem dX2_carry_39 : decode cX2_carry 39 = .ok (.aload_n 1, 1) := by decide +kernel
theorem dX2_carry_40 : decode cX2_carry 40 = .ok (.iload_n 2, 1) := by decide +kernel
theorem dX2_carry_41 : decode cX2_carry 41 = .ok (.baload, 1) := by decide +kernel
theorem dX2_carry_42 : decode cX2_carry 42 = .ok (.ifCond .eq 11, 3) := by decide +kernel
theorem dX2_carry_45 : decode cX2_carry 45 = .ok (.aload_n 0, 1) := by decide +kernel
theorem dX2_carry_46 : decode cX2_carry 46 = .ok (.iload_n 2, 1) := by decide +kernel
theorem dX2_carry_47 : decode cX2_carry 47 = .ok (.invokevirtual 69, 3) := by decide +kernel
theorem dX2_carry_50 : decode cX2_carry 50 = .ok (.goto 5, 3) := by decide +kernel
theorem dX2_carry_53 : decode cX2_carry 53 = .ok (.bipush (-3), 2) := by decide +kernel
theorem dX2_carry_55 : decode cX2_carry 55 = .ok (.istore_n 3, 1) := by decide +kernel
theorem dX2_carry_56 : decode cX2_carry 56 = .ok (.iload_n 3, 1) := by decide +kernel
theorem dX2_carry_57 : decode cX2_carry 57 = .ok (.bipush (-3), 2) := by decide +kernel
theorem dX2_carry_59 : decode cX2_carry 59 = .ok (.if_icmp .eq 10, 3) := by decide +kernel
theorem dX2_carry_62 : decode cX2_carry 62 = .ok (.aload_n 0, 1) := by decide +kernel
theorem dX2_carry_63 : decode cX2_carry 63 = .ok (.getfield 18, 3) := by decide +kernel
theorem dX2_carry_66 : decode cX2_carry 66 = .ok (.iload_n 3, 1) := by decide +kernel
theorem dX2_carry_67 : decode cX2_carry 67 = .ok (.iconst 1, 1) := by decide +kernel
theorem dX2_carry_68 : decode cX2_carry 68 = .ok (.bastore, 1) := by decide +kernel
theorem dX2_carry_69 : decode cX2_carry 69 = .ok (.iinc 2 1, 3) := by decide +kernel
theorem dX2_carry_72 : decode cX2_carry 72 = .ok (.goto (-44), 3) := by decide +kernel
theorem dX2_carry_75 : decode cX2_carry 75 = .ok (.iconst 0, 1) := by decide +kernel
theorem dX2_carry_76 : decode cX2_carry 76 = .ok (.istore_n 2, 1) := by decide +kernel
theorem dX2_carry_77 : decode cX2_carry 77 = .ok (.iload_n 2, 1) := by decide +kernel
theorem dX2_carry_78 : decode cX2_carry 78 = .ok (.aload_n 0, 1) := by decide +kernel
theorem dX2_carry_79 : decode cX2_carry 79 = .ok (.getfield 22, 3) := by decide +kernel
theorem dX2_carry_82 : decode cX2_carry 82 = .ok (.getfield 66, 3) := by decide +kernel
theorem dX2_carry_85 : decode cX2_carry 85 = .ok (.if_icmp .ge 18, 3) := by decide +kernel
theorem dX2_carry_88 : decode cX2_carry 88 = .ok (.aload_n 1, 1) := by decide +kernel
theorem dX2_carry_89 : decode cX2_carry 89 = .ok (.iload_n 2, 1) := by decide +kernel
theorem dX2_carry_90 : decode cX2_carry 90 = .ok (.aload_n 0, 1) := by decide +kernel
theorem dX2_carry_91 : decode cX2_carry 91 = .ok (.getfield 18, 3) := by decide +kernel
theorem dX2_carry_94 : decode cX2_carry 94 = .ok (.iload_n 2, 1) := by decide +kernel
theorem dX2_carry_95 : decode cX2_carry 95 = .ok (.baload, 1) := by decide +kernel
theorem dX2_carry_96 : decode cX2_carry 96 = .ok (.bastore, 1) := by decide +kernel
theorem dX2_carry_97 : decode cX2_carry 97 = .ok (.iinc 2 1, 3) := by decide +kernel
theorem dX2_carry_100 : decode cX2_carry 100 = .ok (.goto (-23), 3) := by decide +kernel
theorem dX2_carry_103 : decode cX2_carry 103 = .ok (.return_, 1) := by decide +kernel
set_option maxRecDepth 20000 in
theorem ggX2_takeFrame_X3_det : GoodIn wsX2_takeFrame wsX3_det := goodIn_r _ [6, 7, 8, 9, 10, 5, 11, 12, 13, 14, 15, 16, 17, 18, 19, 20, 21, 22, 23, 24, 25, 26, 27, 28, 29, 30, 31, 32, 33, 34, 35, 36, 37, 65, 66, 67, 68, 69, 70, 71, 72, 73] (by decide +kernel) (by decide +kernel)
set_option maxRecDepth 20000 in
theorem gX2_takeFrame_X3_det : GoodIn wsX2_takeFrame (wsV RX2 80 RX3 yX3_det wsX3_det) := goodIn_app (goodIn_of _ (by decide +kernel)) ggX2_takeFrame_X3_det
set_option maxRecDepth 20000 in
theorem ggX2_takeFrame_X2_setColumn : GoodIn wsX2_takeFrame wsX2_setColumn := goodIn_r _ [42, 43, 44, 1, 45, 9, 10, 5, 11, 12, 46, 23, 24, 20, 25, 26, 60, 61, 62, 63, 64, 65, 66, 67, 68, 69, 70, 71, 72, 73] (by decide +kernel) (by decide +kernel)
set_option maxRecDepth 20000 in
theorem gX2_takeFrame_X2_setColumn : GoodIn wsX2_takeFrame (wsV RX2 83 RX2 yX2_setColumn wsX2_setColumn) := goodIn_app (goodIn_of _ (by decide +kernel)) ggX2_takeFrame_X2_setColumn
set_option maxRecDepth 20000 in
theorem ggX2_takeFrame_X2_takeMade : GoodIn wsX2_takeFrame wsX2_takeMade := goodIn_r _ [50, 51, 43, 44, 52, 53, 54, 55, 56, 57, 20, 58, 26, 59, 60, 61, 62, 63, 64, 69, 70, 71, 72, 73] (by decide +kernel) (by decide +kernel)
set_option maxRecDepth 20000 in
theorem gX2_takeFrame_X2_takeMade : GoodIn wsX2_takeFrame (wsV RX2 77 RX2 yX2_takeMade wsX2_takeMade) := goodIn_app (goodIn_of _ (by decide +kernel)) ggX2_takeFrame_X2_takeMade
theorem dX2_takeFrame_0 : decode cX2_takeFrame 0 = .ok (.aload_n 0, 1) := by decide +kernel
theorem dX2_takeFrame_1 : decode cX2_takeFrame 1 = .ok (.iconst 0, 1) := by decide +kernel
theorem dX2_takeFrame_2 : decode cX2_takeFrame 2 = .ok (.iload_n 1, 1) := by decide +kernel
theorem dX2_takeFrame_3 : decode cX2_takeFrame 3 = .ok (.aload_n 0, 1) := by decide +kernel
theorem dX2_takeFrame_4 : decode cX2_takeFrame 4 = .ok (.getfield 22, 3) := by decide +kernel
theorem dX2_takeFrame_7 : decode cX2_takeFrame 7 = .ok (.iload 4, 2) := by decide +kernel
theorem dX2_takeFrame_9 : decode cX2_takeFrame 9 = .ok (.iload_n 2, 1) := by decide +kernel
theorem dX2_takeFrame_10 : decode cX2_takeFrame 10 = .ok (.iload_n 3, 1) := by decide +kernel
theorem dX2_takeFrame_11 : decode cX2_takeFrame 11 = .ok (.invokevirtual 80, 3) := by decide +kernel
theorem dX2_takeFrame_14 : decode cX2_takeFrame 14 = .ok (.invokevirtual 83, 3) := by decide +kernel
theorem dX2_takeFrame_17 : decode cX2_takeFrame 17 = .ok (.aload_n 0, 1) := by decide +kernel
theorem dX2_takeFrame_18 : decode cX2_takeFrame 18 = .ok (.iconst 1, 1) := by decide +kernel
theorem dX2_takeFrame_19 : decode cX2_takeFrame 19 = .ok (.iload_n 2, 1) := by decide +kernel
theorem dX2_takeFrame_20 : decode cX2_takeFrame 20 = .ok (.aload_n 0, 1) := by decide +kernel
theorem dX2_takeFrame_21 : decode cX2_takeFrame 21 = .ok (.getfield 22, 3) := by decide +kernel
theorem dX2_takeFrame_24 : decode cX2_takeFrame 24 = .ok (.iload_n 1, 1) := by decide +kernel
theorem dX2_takeFrame_25 : decode cX2_takeFrame 25 = .ok (.iload 4, 2) := by decide +kernel
theorem dX2_takeFrame_27 : decode cX2_takeFrame 27 = .ok (.iload_n 3, 1) := by decide +kernel
theorem dX2_takeFrame_28 : decode cX2_takeFrame 28 = .ok (.invokevirtual 80, 3) := by decide +kernel
theorem dX2_takeFrame_31 : decode cX2_takeFrame 31 = .ok (.invokevirtual 83, 3) := by decide +kernel
theorem dX2_takeFrame_34 : decode cX2_takeFrame 34 = .ok (.aload_n 0, 1) := by decide +kernel
theorem dX2_takeFrame_35 : decode cX2_takeFrame 35 = .ok (.iconst 2, 1) := by decide +kernel
theorem dX2_takeFrame_36 : decode cX2_takeFrame 36 = .ok (.iload_n 3, 1) := by decide +kernel
theorem dX2_takeFrame_37 : decode cX2_takeFrame 37 = .ok (.aload_n 0, 1) := by decide +kernel
theorem dX2_takeFrame_38 : decode cX2_takeFrame 38 = .ok (.getfield 22, 3) := by decide +kernel
theorem dX2_takeFrame_41 : decode cX2_takeFrame 41 = .ok (.iload_n 1, 1) := by decide +kernel
theorem dX2_takeFrame_42 : decode cX2_takeFrame 42 = .ok (.iload_n 2, 1) := by decide +kernel
theorem dX2_takeFrame_43 : decode cX2_takeFrame 43 = .ok (.iload 4, 2) := by decide +kernel
theorem dX2_takeFrame_45 : decode cX2_takeFrame 45 = .ok (.invokevirtual 80, 3) := by decide +kernel
theorem dX2_takeFrame_48 : decode cX2_takeFrame 48 = .ok (.invokevirtual 83, 3) := by decide +kernel
theorem dX2_takeFrame_51 : decode cX2_takeFrame 51 = .ok (.aload_n 0, 1) := by decide +kernel
theorem dX2_takeFrame_52 : decode cX2_takeFrame 52 = .ok (.invokevirtual 77, 3) := by decide +kernel
theorem dX2_takeFrame_55 : decode cX2_takeFrame 55 = .ok (.return_, 1) := by decide +kernel
set_option maxRecDepth 20000 in
theorem ggX2_setColumn_X3_part : GoodIn wsX2_setColumn wsX3_part := goodIn_r _ [8, 9, 21, 22, 23, 24] (by decide +kernel) (by decide +kernel)
set_option maxRecDepth 20000 in
theorem gX2_setColumn_X3_part : GoodIn wsX2_setColumn (wsV RX2 52 RX3 yX3_part wsX3_part) := goodIn_app (goodIn_of _ (by decide +kernel)) ggX2_setColumn_X3_part
set_option maxRecDepth 20000 in
theorem ggX2_setColumn_X1_times : GoodIn wsX2_setColumn wsX1_times := goodIn_r _ [14, 15, 25, 26, 27, 28, 29] (by decide +kernel) (by decide +kernel)
set_option maxRecDepth 20000 in
theorem gX2_setColumn_X1_times : GoodIn wsX2_setColumn (wsV RX2 46 RX1 yX1_times wsX1_times) := goodIn_app (goodIn_of _ (by decide +kernel)) ggX2_setColumn_X1_times
theorem dX2_setColumn_0 : decode cX2_setColumn 0 = .ok (.iconst 0, 1) := by decide +kernel
theorem dX2_setColumn_1 : decode cX2_setColumn 1 = .ok (.istore 4, 2) := by decide +kernel
theorem dX2_setColumn_3 : decode cX2_setColumn 3 = .ok (.iload 4, 2) := by decide +kernel
theorem dX2_setColumn_5 : decode cX2_setColumn 5 = .ok (.iconst 3, 1) := by decide +kernel
theorem dX2_setColumn_6 : decode cX2_setColumn 6 = .ok (.if_icmp .ge 38, 3) := by decide +kernel
theorem dX2_setColumn_9 : decode cX2_setColumn 9 = .ok (.aload_n 0, 1) := by decide +kernel
theorem dX2_setColumn_10 : decode cX2_setColumn 10 = .ok (.getfield 15, 3) := by decide +kernel
theorem dX2_setColumn_13 : decode cX2_setColumn 13 = .ok (.iconst 3, 1) := by decide +kernel
theorem dX2_setColumn_14 : decode cX2_setColumn 14 = .ok (.iload 4, 2) := by decide +kernel
theorem dX2_setColumn_16 : decode cX2_setColumn 16 = .ok (.imul, 1) := by decide +kernel
theorem dX2_setColumn_17 : decode cX2_setColumn 17 = .ok (.iload_n 1, 1) := by decide +kernel
theorem dX2_setColumn_18 : decode cX2_setColumn 18 = .ok (.iadd, 1) := by decide +kernel
theorem dX2_setColumn_19 : decode cX2_setColumn 19 = .ok (.aload_n 0, 1) := by decide +kernel
theorem dX2_setColumn_20 : decode cX2_setColumn 20 = .ok (.getfield 32, 3) := by decide +kernel
theorem dX2_setColumn_23 : decode cX2_setColumn 23 = .ok (.iload_n 3, 1) := by decide +kernel
theorem dX2_setColumn_24 : decode cX2_setColumn 24 = .ok (.aload_n 0, 1) := by decide +kernel
theorem dX2_setColumn_25 : decode cX2_setColumn 25 = .ok (.getfield 22, 3) := by decide +kernel
theorem dX2_setColumn_28 : decode cX2_setColumn 28 = .ok (.iload_n 2, 1) := by decide +kernel
theorem dX2_setColumn_29 : decode cX2_setColumn 29 = .ok (.iload 4, 2) := by decide +kernel
theorem dX2_setColumn_31 : decode cX2_setColumn 31 = .ok (.invokevirtual 52, 3) := by decide +kernel
theorem dX2_setColumn_34 : decode cX2_setColumn 34 = .ok (.invokevirtual 46, 3) := by decide +kernel
theorem dX2_setColumn_37 : decode cX2_setColumn 37 = .ok (.iastore, 1) := by decide +kernel
theorem dX2_setColumn_38 : decode cX2_setColumn 38 = .ok (.iinc 4 1, 3) := by decide +kernel
theorem dX2_setColumn_41 : decode cX2_setColumn 41 = .ok (.goto (-38), 3) := by decide +kernel
theorem dX2_setColumn_44 : decode cX2_setColumn 44 = .ok (.return_, 1) := by decide +kernel
set_option maxRecDepth 20000 in
theorem ggX2_goBehind_X1_times : GoodIn wsX2_goBehind wsX1_times := goodIn_r _ [8, 9, 33, 34, 35, 36, 37] (by decide +kernel) (by decide +kernel)
set_option maxRecDepth 20000 in
theorem gX2_goBehind_X1_times : GoodIn wsX2_goBehind (wsV RX2 46 RX1 yX1_times wsX1_times) := goodIn_app (goodIn_of _ (by decide +kernel)) ggX2_goBehind_X1_times
set_option maxRecDepth 20000 in
theorem ggX2_goBehind_X1_plus : GoodIn wsX2_goBehind wsX1_plus := goodIn_r _ [13, 14, 33, 34, 35, 36, 37] (by decide +kernel) (by decide +kernel)
set_option maxRecDepth 20000 in
theorem gX2_goBehind_X1_plus : GoodIn wsX2_goBehind (wsV RX2 49 RX1 yX1_plus wsX1_plus) := goodIn_app (goodIn_of _ (by decide +kernel)) ggX2_goBehind_X1_plus
set_option maxRecDepth 20000 in
theorem ggX2_goBehind_X2_takeMade : GoodIn wsX2_goBehind wsX2_takeMade := goodIn_r _ [19, 2, 3, 1, 20, 21, 22, 23, 24, 25, 7, 26, 9, 27, 28, 29, 30, 31, 32, 33, 34, 35, 36, 37] (by decide +kernel) (by decide +kernel)
set_option maxRecDepth 20000 in
theorem gX2_goBehind_X2_takeMade : GoodIn wsX2_goBehind (wsV RX2 77 RX2 yX2_takeMade wsX2_takeMade) := goodIn_app (goodIn_of _ (by decide +kernel)) ggX2_goBehind_X2_takeMade
theorem dX2_goBehind_0 : decode cX2_goBehind 0 = .ok (.iconst 0, 1) := by decide +kernel
theorem dX2_goBehind_1 : decode cX2_goBehind 1 = .ok (.istore_n 2, 1) := by decide +kernel
theorem dX2_goBehind_2 : decode cX2_goBehind 2 = .ok (.iload_n 2, 1) := by decide +kernel
theorem dX2_goBehind_3 : decode cX2_goBehind 3 = .ok (.iconst 3, 1) := by decide +kernel
theorem dX2_goBehind_4 : decode cX2_goBehind 4 = .ok (.if_icmp .ge 92, 3) := by decide +kernel
theorem dX2_goBehind_7 : decode cX2_goBehind 7 = .ok (.iconst 0, 1) := by decide +kernel
theorem dX2_goBehind_8 : decode cX2_goBehind 8 = .ok (.istore_n 3, 1) := by decide +kernel
theorem dX2_goBehind_9 : decode cX2_goBehind 9 = .ok (.iload_n 3, 1) := by decide +kernel
theorem dX2_goBehind_10 : decode cX2_goBehind 10 = .ok (.iconst 3, 1) := by decide +kernel
theorem dX2_goBehind_11 : decode cX2_goBehind 11 = .ok (.if_icmp .ge 79, 3) := by decide +kernel
theorem dX2_goBehind_14 : decode cX2_goBehind 14 = .ok (.iconst 0, 1) := by decide +kernel
theorem dX2_goBehind_15 : decode cX2_goBehind 15 = .ok (.istore 4, 2) := by decide +kernel
theorem dX2_goBehind_17 : decode cX2_goBehind 17 = .ok (.iconst 0, 1) := by decide +kernel
theorem dX2_goBehind_18 : decode cX2_goBehind 18 = .ok (.istore 5, 2) := by decide +kernel
theorem dX2_goBehind_20 : decode cX2_goBehind 20 = .ok (.iload 5, 2) := by decide +kernel
theorem dX2_goBehind_22 : decode cX2_goBehind 22 = .ok (.iconst 3, 1) := by decide +kernel
theorem dX2_goBehind_23 : decode cX2_goBehind 23 = .ok (.if_icmp .ge 49, 3) := by decide +kernel
theorem dX2_goBehind_26 : decode cX2_goBehind 26 = .ok (.aload_n 0, 1) := by decide +kernel
theorem dX2_goBehind_27 : decode cX2_goBehind 27 = .ok (.getfield 32, 3) := by decide +kernel
theorem dX2_goBehind_30 : decode cX2_goBehind 30 = .ok (.iload 4, 2) := by decide +kernel
theorem dX2_goBehind_32 : decode cX2_goBehind 32 = .ok (.aload_n 0, 1) := by decide +kernel
theorem dX2_goBehind_33 : decode cX2_goBehind 33 = .ok (.getfield 32, 3) := by decide +kernel
theorem dX2_goBehind_36 : decode cX2_goBehind 36 = .ok (.aload_n 0, 1) := by decide +kernel
theorem dX2_goBehind_37 : decode cX2_goBehind 37 = .ok (.getfield 9, 3) := by decide +kernel
theorem dX2_goBehind_40 : decode cX2_goBehind 40 = .ok (.iconst 3, 1) := by decide +kernel
theorem dX2_goBehind_41 : decode cX2_goBehind 41 = .ok (.iload_n 2, 1) := by decide +kernel
theorem dX2_goBehind_42 : decode cX2_goBehind 42 = .ok (.imul, 1) := by decide +kernel
theorem dX2_goBehind_43 : decode cX2_goBehind 43 = .ok (.iload 5, 2) := by decide +kernel
theorem dX2_goBehind_45 : decode cX2_goBehind 45 = .ok (.iadd, 1) := by decide +kernel
theorem dX2_goBehind_46 : decode cX2_goBehind 46 = .ok (.iaload, 1) := by decide +kernel
theorem dX2_goBehind_47 : decode cX2_goBehind 47 = .ok (.aload_n 1, 1) := by decide +kernel
theorem dX2_goBehind_48 : decode cX2_goBehind 48 = .ok (.getfield 9, 3) := by decide +kernel
theorem dX2_goBehind_51 : decode cX2_goBehind 51 = .ok (.iconst 3, 1) := by decide +kernel
theorem dX2_goBehind_52 : decode cX2_goBehind 52 = .ok (.iload 5, 2) := by decide +kernel
theorem dX2_goBehind_54 : decode cX2_goBehind 54 = .ok (.imul, 1) := by decide +kernel
