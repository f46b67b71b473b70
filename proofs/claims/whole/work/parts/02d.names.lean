theorem dX6_init_0 : decode cX6_init 0 = .ok (.aload_n 0, 1) := by decide +kernel
theorem dX6_init_1 : decode cX6_init 1 = .ok (.invokespecial 1, 3) := by decide +kernel
theorem dX6_init_4 : decode cX6_init 4 = .ok (.aload_n 0, 1) := by decide +kernel
theorem dX6_init_5 : decode cX6_init 5 = .ok (.new 7, 3) := by decide +kernel
theorem dX6_init_8 : decode cX6_init 8 = .ok (.dup, 1) := by decide +kernel
theorem dX6_init_9 : decode cX6_init 9 = .ok (.invokespecial 9, 3) := by decide +kernel
theorem dX6_init_12 : decode cX6_init 12 = .ok (.putfield 10, 3) := by decide +kernel
theorem dX6_init_15 : decode cX6_init 15 = .ok (.aload_n 0, 1) := by decide +kernel
theorem dX6_init_16 : decode cX6_init 16 = .ok (.new 16, 3) := by decide +kernel
theorem dX6_init_19 : decode cX6_init 19 = .ok (.dup, 1) := by decide +kernel
theorem dX6_init_20 : decode cX6_init 20 = .ok (.aload_n 0, 1) := by decide +kernel
theorem dX6_init_21 : decode cX6_init 21 = .ok (.getfield 10, 3) := by decide +kernel
theorem dX6_init_24 : decode cX6_init 24 = .ok (.invokespecial 18, 3) := by decide +kernel
theorem dX6_init_27 : decode cX6_init 27 = .ok (.putfield 21, 3) := by decide +kernel
theorem dX6_init_30 : decode cX6_init 30 = .ok (.aload_n 0, 1) := by decide +kernel
theorem dX6_init_31 : decode cX6_init 31 = .ok (.new 25, 3) := by decide +kernel
theorem dX6_init_34 : decode cX6_init 34 = .ok (.dup, 1) := by decide +kernel
theorem dX6_init_35 : decode cX6_init 35 = .ok (.aload_n 0, 1) := by decide +kernel
theorem dX6_init_36 : decode cX6_init 36 = .ok (.getfield 21, 3) := by decide +kernel
theorem dX6_init_39 : decode cX6_init 39 = .ok (.invokespecial 27, 3) := by decide +kernel
theorem dX6_init_42 : decode cX6_init 42 = .ok (.putfield 30, 3) := by decide +kernel
theorem dX6_init_45 : decode cX6_init 45 = .ok (.aload_n 0, 1) := by decide +kernel
theorem dX6_init_46 : decode cX6_init 46 = .ok (.new 34, 3) := by decide +kernel
theorem dX6_init_49 : decode cX6_init 49 = .ok (.dup, 1) := by decide +kernel
theorem dX6_init_50 : decode cX6_init 50 = .ok (.aload_n 0, 1) := by decide +kernel
theorem dX6_init_51 : decode cX6_init 51 = .ok (.getfield 21, 3) := by decide +kernel
theorem dX6_init_54 : decode cX6_init 54 = .ok (.invokespecial 36, 3) := by decide +kernel
theorem dX6_init_57 : decode cX6_init 57 = .ok (.putfield 37, 3) := by decide +kernel
theorem dX6_init_60 : decode cX6_init 60 = .ok (.aload_n 0, 1) := by decide +kernel
theorem dX6_init_61 : decode cX6_init 61 = .ok (.new 41, 3) := by decide +kernel
theorem dX6_init_64 : decode cX6_init 64 = .ok (.dup, 1) := by decide +kernel
theorem dX6_init_65 : decode cX6_init 65 = .ok (.aload_n 0, 1) := by decide +kernel
theorem dX6_init_66 : decode cX6_init 66 = .ok (.getfield 21, 3) := by decide +kernel
theorem dX6_init_69 : decode cX6_init 69 = .ok (.invokespecial 43, 3) := by decide +kernel
theorem dX6_init_72 : decode cX6_init 72 = .ok (.putfield 44, 3) := by decide +kernel
theorem dX6_init_75 : decode cX6_init 75 = .ok (.aload_n 0, 1) := by decide +kernel
theorem dX6_init_76 : decode cX6_init 76 = .ok (.new 41, 3) := by decide +kernel
theorem dX6_init_79 : decode cX6_init 79 = .ok (.dup, 1) := by decide +kernel
theorem dX6_init_80 : decode cX6_init 80 = .ok (.aload_n 0, 1) := by decide +kernel
theorem dX6_init_81 : decode cX6_init 81 = .ok (.getfield 21, 3) := by decide +kernel
theorem dX6_init_84 : decode cX6_init 84 = .ok (.invokespecial 43, 3) := by decide +kernel
theorem dX6_init_87 : decode cX6_init 87 = .ok (.putfield 48, 3) := by decide +kernel
theorem dX6_init_90 : decode cX6_init 90 = .ok (.aload_n 0, 1) := by decide +kernel
theorem dX6_init_91 : decode cX6_init 91 = .ok (.new 51, 3) := by decide +kernel
theorem dX6_init_94 : decode cX6_init 94 = .ok (.dup, 1) := by decide +kernel
theorem dX6_init_95 : decode cX6_init 95 = .ok (.invokespecial 53, 3) := by decide +kernel
theorem dX6_init_98 : decode cX6_init 98 = .ok (.putfield 54, 3) := by decide +kernel
theorem dX6_init_101 : decode cX6_init 101 = .ok (.return_, 1) := by decide +kernel
set_option maxRecDepth 20000 in
theorem ggX6_begin_X1_exists : GoodIn wsX6_begin wsX1_exists := goodIn_r _ [8] (by decide +kernel) (by decide +kernel)
set_option maxRecDepth 20000 in
theorem gX6_begin_X1_exists : GoodIn wsX6_begin (va_wsS RX6 58 yX1_exists wsX1_exists) := goodIn_app (goodIn_of _ (by decide +kernel)) ggX6_begin_X1_exists
set_option maxRecDepth 20000 in
theorem ggX6_begin_X1_build : GoodIn wsX6_begin wsX1_build := goodIn_r _ [12, 13, 14, 15, 16, 17, 18, 19, 20, 7, 21, 22, 23, 24, 25, 26, 27, 28, 29, 90, 91, 92, 93, 94] (by decide +kernel) (by decide +kernel)
set_option maxRecDepth 20000 in
theorem gX6_begin_X1_build : GoodIn wsX6_begin (wsV RX6 66 RX1 yX1_build wsX1_build) := goodIn_app (goodIn_of _ (by decide +kernel)) ggX6_begin_X1_build
set_option maxRecDepth 20000 in
theorem ggX6_begin_X3_build : GoodIn wsX6_begin wsX3_build := goodIn_r _ [34, 35, 36, 37, 38, 39, 33, 40, 41, 42, 43, 44, 45, 46, 47, 48, 49, 50, 51, 52, 53, 54, 55, 56, 57, 7, 58, 15, 59, 60, 61, 62, 14, 63, 64, 65, 66, 16, 67, 68, 69, 70, 17, 95, 96, 97, 98, 90, 91, 92, 93, 94] (by decide +kernel) (by decide +kernel)
set_option maxRecDepth 20000 in
theorem gX6_begin_X3_build : GoodIn wsX6_begin (wsV RX6 70 RX3 yX3_build wsX3_build) := goodIn_app (goodIn_of _ (by decide +kernel)) ggX6_begin_X3_build
set_option maxRecDepth 20000 in
theorem ggX6_begin_X4_clear : GoodIn wsX6_begin wsX4_clear := goodIn_r _ [75, 76, 99, 100, 101, 102] (by decide +kernel) (by decide +kernel)
set_option maxRecDepth 20000 in
theorem gX6_begin_X4_clear : GoodIn wsX6_begin (wsV RX6 72 RX4 yX4_clear wsX4_clear) := goodIn_app (goodIn_of _ (by decide +kernel)) ggX6_begin_X4_clear
set_option maxRecDepth 20000 in
theorem ggX6_begin_X2_reset : GoodIn wsX6_begin wsX2_reset := goodIn_r _ [81, 82, 103, 104, 105, 106, 107] (by decide +kernel) (by decide +kernel)
set_option maxRecDepth 20000 in
theorem gX6_begin_X2_reset : GoodIn wsX6_begin (wsV RX6 75 RX2 yX2_reset wsX2_reset) := goodIn_app (goodIn_of _ (by decide +kernel)) ggX6_begin_X2_reset
theorem dX6_begin_0 : decode cX6_begin 0 = .ok (.iload_n 1, 1) := by decide +kernel
theorem dX6_begin_1 : decode cX6_begin 1 = .ok (.invokestatic 58, 3) := by decide +kernel
theorem dX6_begin_4 : decode cX6_begin 4 = .ok (.ifCond .ne 6, 3) := by decide +kernel
theorem dX6_begin_7 : decode cX6_begin 7 = .ok (.bipush (-2), 2) := by decide +kernel
theorem dX6_begin_9 : decode cX6_begin 9 = .ok (.ireturn, 1) := by decide +kernel
theorem dX6_begin_10 : decode cX6_begin 10 = .ok (.aload_n 0, 1) := by decide +kernel
theorem dX6_begin_11 : decode cX6_begin 11 = .ok (.getfield 10, 3) := by decide +kernel
theorem dX6_begin_14 : decode cX6_begin 14 = .ok (.getfield 62, 3) := by decide +kernel
theorem dX6_begin_17 : decode cX6_begin 17 = .ok (.istore_n 2, 1) := by decide +kernel
theorem dX6_begin_18 : decode cX6_begin 18 = .ok (.aload_n 0, 1) := by decide +kernel
theorem dX6_begin_19 : decode cX6_begin 19 = .ok (.getfield 10, 3) := by decide +kernel
theorem dX6_begin_22 : decode cX6_begin 22 = .ok (.iload_n 1, 1) := by decide +kernel
theorem dX6_begin_23 : decode cX6_begin 23 = .ok (.invokevirtual 66, 3) := by decide +kernel
theorem dX6_begin_26 : decode cX6_begin 26 = .ok (.aload_n 0, 1) := by decide +kernel
theorem dX6_begin_27 : decode cX6_begin 27 = .ok (.getfield 21, 3) := by decide +kernel
theorem dX6_begin_30 : decode cX6_begin 30 = .ok (.invokevirtual 70, 3) := by decide +kernel
theorem dX6_begin_33 : decode cX6_begin 33 = .ok (.aload_n 0, 1) := by decide +kernel
theorem dX6_begin_34 : decode cX6_begin 34 = .ok (.getfield 30, 3) := by decide +kernel
theorem dX6_begin_37 : decode cX6_begin 37 = .ok (.invokevirtual 72, 3) := by decide +kernel
theorem dX6_begin_40 : decode cX6_begin 40 = .ok (.aload_n 0, 1) := by decide +kernel
theorem dX6_begin_41 : decode cX6_begin 41 = .ok (.getfield 44, 3) := by decide +kernel
theorem dX6_begin_44 : decode cX6_begin 44 = .ok (.invokevirtual 75, 3) := by decide +kernel
theorem dX6_begin_47 : decode cX6_begin 47 = .ok (.iload_n 2, 1) := by decide +kernel
theorem dX6_begin_48 : decode cX6_begin 48 = .ok (.ireturn, 1) := by decide +kernel
set_option maxRecDepth 20000 in
theorem ggX6_reckon_X1_has : GoodIn wsX6_reckon wsX1_has := goodIn_r _ [6, 7, 35, 36, 37, 38, 39] (by decide +kernel) (by decide +kernel)
set_option maxRecDepth 20000 in
theorem gX6_reckon_X1_has : GoodIn wsX6_reckon (wsV RX6 78 RX1 yX1_has wsX1_has) := goodIn_app (goodIn_of _ (by decide +kernel)) ggX6_reckon_X1_has
set_option maxRecDepth 20000 in
theorem ggX6_reckon_X1_plus : GoodIn wsX6_reckon wsX1_plus := goodIn_r _ [11, 12, 35, 36, 37, 38, 39] (by decide +kernel) (by decide +kernel)
set_option maxRecDepth 20000 in
theorem gX6_reckon_X1_plus : GoodIn wsX6_reckon (wsV RX6 81 RX1 yX1_plus wsX1_plus) := goodIn_app (goodIn_of _ (by decide +kernel)) ggX6_reckon_X1_plus
set_option maxRecDepth 20000 in
theorem ggX6_reckon_X1_minus : GoodIn wsX6_reckon wsX1_minus := goodIn_r _ [16, 12, 17, 35, 36, 37, 38, 39] (by decide +kernel) (by decide +kernel)
set_option maxRecDepth 20000 in
theorem gX6_reckon_X1_minus : GoodIn wsX6_reckon (wsV RX6 85 RX1 yX1_minus wsX1_minus) := goodIn_app (goodIn_of _ (by decide +kernel)) ggX6_reckon_X1_minus
set_option maxRecDepth 20000 in
theorem ggX6_reckon_X1_times : GoodIn wsX6_reckon wsX1_times := goodIn_r _ [21, 22, 35, 36, 37, 38, 39] (by decide +kernel) (by decide +kernel)
set_option maxRecDepth 20000 in
theorem gX6_reckon_X1_times : GoodIn wsX6_reckon (wsV RX6 88 RX1 yX1_times wsX1_times) := goodIn_app (goodIn_of _ (by decide +kernel)) ggX6_reckon_X1_times
set_option maxRecDepth 20000 in
theorem ggX6_reckon_X1_over : GoodIn wsX6_reckon wsX1_over := goodIn_r _ [26, 22, 27, 35, 36, 37, 38, 39] (by decide +kernel) (by decide +kernel)
set_option maxRecDepth 20000 in
theorem gX6_reckon_X1_over : GoodIn wsX6_reckon (wsV RX6 91 RX1 yX1_over wsX1_over) := goodIn_app (goodIn_of _ (by decide +kernel)) ggX6_reckon_X1_over
theorem dX6_reckon_0 : decode cX6_reckon 0 = .ok (.iload_n 1, 1) := by decide +kernel
theorem dX6_reckon_1 : decode cX6_reckon 1 = .ok (.ifCond .lt 30, 3) := by decide +kernel
theorem dX6_reckon_4 : decode cX6_reckon 4 = .ok (.iload_n 1, 1) := by decide +kernel
theorem dX6_reckon_5 : decode cX6_reckon 5 = .ok (.iconst 3, 1) := by decide +kernel
theorem dX6_reckon_6 : decode cX6_reckon 6 = .ok (.if_icmp .gt 25, 3) := by decide +kernel
theorem dX6_reckon_9 : decode cX6_reckon 9 = .ok (.aload_n 0, 1) := by decide +kernel
theorem dX6_reckon_10 : decode cX6_reckon 10 = .ok (.getfield 10, 3) := by decide +kernel
theorem dX6_reckon_13 : decode cX6_reckon 13 = .ok (.iload_n 2, 1) := by decide +kernel
theorem dX6_reckon_14 : decode cX6_reckon 14 = .ok (.invokevirtual 78, 3) := by decide +kernel
theorem dX6_reckon_17 : decode cX6_reckon 17 = .ok (.ifCond .eq 14, 3) := by decide +kernel
theorem dX6_reckon_20 : decode cX6_reckon 20 = .ok (.aload_n 0, 1) := by decide +kernel
theorem dX6_reckon_21 : decode cX6_reckon 21 = .ok (.getfield 10, 3) := by decide +kernel
theorem dX6_reckon_24 : decode cX6_reckon 24 = .ok (.iload_n 3, 1) := by decide +kernel
theorem dX6_reckon_25 : decode cX6_reckon 25 = .ok (.invokevirtual 78, 3) := by decide +kernel
theorem dX6_reckon_28 : decode cX6_reckon 28 = .ok (.ifCond .ne 6, 3) := by decide +kernel
theorem dX6_reckon_31 : decode cX6_reckon 31 = .ok (.bipush (-2), 2) := by decide +kernel
theorem dX6_reckon_33 : decode cX6_reckon 33 = .ok (.ireturn, 1) := by decide +kernel
theorem dX6_reckon_34 : decode cX6_reckon 34 = .ok (.iload_n 1, 1) := by decide +kernel
theorem dX6_reckon_35 : decode cX6_reckon 35 = .ok (.tableswitch 55 0 2 #[25, 35, 45], 25) := by decide +kernel
theorem dX6_reckon_60 : decode cX6_reckon 60 = .ok (.aload_n 0, 1) := by decide +kernel
theorem dX6_reckon_61 : decode cX6_reckon 61 = .ok (.getfield 10, 3) := by decide +kernel
theorem dX6_reckon_64 : decode cX6_reckon 64 = .ok (.iload_n 2, 1) := by decide +kernel
theorem dX6_reckon_65 : decode cX6_reckon 65 = .ok (.iload_n 3, 1) := by decide +kernel
theorem dX6_reckon_66 : decode cX6_reckon 66 = .ok (.invokevirtual 81, 3) := by decide +kernel
theorem dX6_reckon_69 : decode cX6_reckon 69 = .ok (.ireturn, 1) := by decide +kernel
theorem dX6_reckon_70 : decode cX6_reckon 70 = .ok (.aload_n 0, 1) := by decide +kernel
theorem dX6_reckon_71 : decode cX6_reckon 71 = .ok (.getfield 10, 3) := by decide +kernel
theorem dX6_reckon_74 : decode cX6_reckon 74 = .ok (.iload_n 2, 1) := by decide +kernel
theorem dX6_reckon_75 : decode cX6_reckon 75 = .ok (.iload_n 3, 1) := by decide +kernel
theorem dX6_reckon_76 : decode cX6_reckon 76 = .ok (.invokevirtual 85, 3) := by decide +kernel
theorem dX6_reckon_79 : decode cX6_reckon 79 = .ok (.ireturn, 1) := by decide +kernel
theorem dX6_reckon_80 : decode cX6_reckon 80 = .ok (.aload_n 0, 1) := by decide +kernel
theorem dX6_reckon_81 : decode cX6_reckon 81 = .ok (.getfield 10, 3) := by decide +kernel
theorem dX6_reckon_84 : decode cX6_reckon 84 = .ok (.iload_n 2, 1) := by decide +kernel
theorem dX6_reckon_85 : decode cX6_reckon 85 = .ok (.iload_n 3, 1) := by decide +kernel
theorem dX6_reckon_86 : decode cX6_reckon 86 = .ok (.invokevirtual 88, 3) := by decide +kernel
theorem dX6_reckon_89 : decode cX6_reckon 89 = .ok (.ireturn, 1) := by decide +kernel
theorem dX6_reckon_90 : decode cX6_reckon 90 = .ok (.iload_n 3, 1) := by decide +kernel
theorem dX6_reckon_91 : decode cX6_reckon 91 = .ok (.ifCond .ne 8, 3) := by decide +kernel
theorem dX6_reckon_94 : decode cX6_reckon 94 = .ok (.bipush (-3), 2) := by decide +kernel
theorem dX6_reckon_96 : decode cX6_reckon 96 = .ok (.goto 12, 3) := by decide +kernel
theorem dX6_reckon_99 : decode cX6_reckon 99 = .ok (.aload_n 0, 1) := by decide +kernel
theorem dX6_reckon_100 : decode cX6_reckon 100 = .ok (.getfield 10, 3) := by decide +kernel
theorem dX6_reckon_103 : decode cX6_reckon 103 = .ok (.iload_n 2, 1) := by decide +kernel
theorem dX6_reckon_104 : decode cX6_reckon 104 = .ok (.iload_n 3, 1) := by decide +kernel
theorem dX6_reckon_105 : decode cX6_reckon 105 = .ok (.invokevirtual 91, 3) := by decide +kernel
theorem dX6_reckon_108 : decode cX6_reckon 108 = .ok (.ireturn, 1) := by decide +kernel
set_option maxRecDepth 20000 in
theorem ggX6_triple_X3_has : GoodIn wsX6_triple wsX3_has := goodIn_r _ [6, 7, 20, 21, 22, 23] (by decide +kernel) (by decide +kernel)
set_option maxRecDepth 20000 in
theorem gX6_triple_X3_has : GoodIn wsX6_triple (wsV RX6 94 RX3 yX3_has wsX3_has) := goodIn_app (goodIn_of _ (by decide +kernel)) ggX6_triple_X3_has
set_option maxRecDepth 20000 in
theorem ggX6_triple_X3_part : GoodIn wsX6_triple wsX3_part := goodIn_r _ [11, 12, 20, 21, 22, 23] (by decide +kernel) (by decide +kernel)
set_option maxRecDepth 20000 in
theorem gX6_triple_X3_part : GoodIn wsX6_triple (wsV RX6 95 RX3 yX3_part wsX3_part) := goodIn_app (goodIn_of _ (by decide +kernel)) ggX6_triple_X3_part
theorem dX6_triple_0 : decode cX6_triple 0 = .ok (.aload_n 0, 1) := by decide +kernel
theorem dX6_triple_1 : decode cX6_triple 1 = .ok (.getfield 21, 3) := by decide +kernel
theorem dX6_triple_4 : decode cX6_triple 4 = .ok (.iload_n 1, 1) := by decide +kernel
theorem dX6_triple_5 : decode cX6_triple 5 = .ok (.invokevirtual 94, 3) := by decide +kernel
theorem dX6_triple_8 : decode cX6_triple 8 = .ok (.ifCond .eq 12, 3) := by decide +kernel
theorem dX6_triple_11 : decode cX6_triple 11 = .ok (.iload_n 2, 1) := by decide +kernel
theorem dX6_triple_12 : decode cX6_triple 12 = .ok (.ifCond .lt 8, 3) := by decide +kernel
theorem dX6_triple_15 : decode cX6_triple 15 = .ok (.iload_n 2, 1) := by decide +kernel
theorem dX6_triple_16 : decode cX6_triple 16 = .ok (.iconst 2, 1) := by decide +kernel
theorem dX6_triple_17 : decode cX6_triple 17 = .ok (.if_icmp .le 6, 3) := by decide +kernel
theorem dX6_triple_20 : decode cX6_triple 20 = .ok (.bipush (-2), 2) := by decide +kernel
theorem dX6_triple_22 : decode cX6_triple 22 = .ok (.ireturn, 1) := by decide +kernel
theorem dX6_triple_23 : decode cX6_triple 23 = .ok (.aload_n 0, 1) := by decide +kernel
theorem dX6_triple_24 : decode cX6_triple 24 = .ok (.getfield 21, 3) := by decide +kernel
theorem dX6_triple_27 : decode cX6_triple 27 = .ok (.iload_n 1, 1) := by decide +kernel
theorem dX6_triple_28 : decode cX6_triple 28 = .ok (.iload_n 2, 1) := by decide +kernel
theorem dX6_triple_29 : decode cX6_triple 29 = .ok (.invokevirtual 95, 3) := by decide +kernel
theorem dX6_triple_32 : decode cX6_triple 32 = .ok (.ireturn, 1) := by decide +kernel
set_option maxRecDepth 20000 in
theorem ggX6_number_X1_has : GoodIn wsX6_number wsX1_has := goodIn_r _ [7, 8, 28, 29, 30, 31, 32] (by decide +kernel) (by decide +kernel)
set_option maxRecDepth 20000 in
theorem gX6_number_X1_has : GoodIn wsX6_number (wsV RX6 78 RX1 yX1_has wsX1_has) := goodIn_app (goodIn_of _ (by decide +kernel)) ggX6_number_X1_has
set_option maxRecDepth 20000 in
theorem ggX6_number_X3_numberOf : GoodIn wsX6_number wsX3_numberOf := goodIn_r _ [13, 14, 15, 16, 17, 6, 18, 19, 20, 33, 34, 35, 36, 28, 29, 30, 31, 32] (by decide +kernel) (by decide +kernel)
set_option maxRecDepth 20000 in
theorem gX6_number_X3_numberOf : GoodIn wsX6_number (wsV RX6 98 RX3 yX3_numberOf wsX3_numberOf) := goodIn_app (goodIn_of _ (by decide +kernel)) ggX6_number_X3_numberOf
theorem dX6_number_0 : decode cX6_number 0 = .ok (.aload_n 0, 1) := by decide +kernel
theorem dX6_number_1 : decode cX6_number 1 = .ok (.getfield 10, 3) := by decide +kernel
theorem dX6_number_4 : decode cX6_number 4 = .ok (.iload_n 1, 1) := by decide +kernel
theorem dX6_number_5 : decode cX6_number 5 = .ok (.invokevirtual 78, 3) := by decide +kernel
theorem dX6_number_8 : decode cX6_number 8 = .ok (.ifCond .eq 25, 3) := by decide +kernel
theorem dX6_number_11 : decode cX6_number 11 = .ok (.aload_n 0, 1) := by decide +kernel
theorem dX6_number_12 : decode cX6_number 12 = .ok (.getfield 10, 3) := by decide +kernel
theorem dX6_number_15 : decode cX6_number 15 = .ok (.iload_n 2, 1) := by decide +kernel
theorem dX6_number_16 : decode cX6_number 16 = .ok (.invokevirtual 78, 3) := by decide +kernel
theorem dX6_number_19 : decode cX6_number 19 = .ok (.ifCond .eq 14, 3) := by decide +kernel
theorem dX6_number_22 : decode cX6_number 22 = .ok (.aload_n 0, 1) := by decide +kernel
theorem dX6_number_23 : decode cX6_number 23 = .ok (.getfield 10, 3) := by decide +kernel
theorem dX6_number_26 : decode cX6_number 26 = .ok (.iload_n 3, 1) := by decide +kernel
theorem dX6_number_27 : decode cX6_number 27 = .ok (.invokevirtual 78, 3) := by decide +kernel
theorem dX6_number_30 : decode cX6_number 30 = .ok (.ifCond .ne 6, 3) := by decide +kernel
theorem dX6_number_33 : decode cX6_number 33 = .ok (.bipush (-2), 2) := by decide +kernel
theorem dX6_number_35 : decode cX6_number 35 = .ok (.ireturn, 1) := by decide +kernel
theorem dX6_number_36 : decode cX6_number 36 = .ok (.aload_n 0, 1) := by decide +kernel
theorem dX6_number_37 : decode cX6_number 37 = .ok (.getfield 21, 3) := by decide +kernel
theorem dX6_number_40 : decode cX6_number 40 = .ok (.iload_n 1, 1) := by decide +kernel
theorem dX6_number_41 : decode cX6_number 41 = .ok (.iload_n 2, 1) := by decide +kernel
theorem dX6_number_42 : decode cX6_number 42 = .ok (.iload_n 3, 1) := by decide +kernel
theorem dX6_number_43 : decode cX6_number 43 = .ok (.invokevirtual 98, 3) := by decide +kernel
theorem dX6_number_46 : decode cX6_number 46 = .ok (.ireturn, 1) := by decide +kernel
set_option maxRecDepth 20000 in
theorem ggX6_on_X3_has : GoodIn wsX6_on wsX3_has := goodIn_r _ [6, 7, 44, 45, 46, 47] (by decide +kernel) (by decide +kernel)
set_option maxRecDepth 20000 in
theorem gX6_on_X3_has : GoodIn wsX6_on (wsV RX6 94 RX3 yX3_has wsX3_has) := goodIn_app (goodIn_of _ (by decide +kernel)) ggX6_on_X3_has
set_option maxRecDepth 20000 in
theorem ggX6_on_X3_isOn : GoodIn wsX6_on wsX3_isOn := goodIn_r _ [11, 12, 13, 14, 5, 15, 16, 17, 18, 19, 20, 21, 22, 23, 24, 25, 26, 27, 28, 29, 30, 31, 32, 44, 45, 46, 47, 48, 49, 50, 51, 52] (by decide +kernel) (by decide +kernel)
set_option maxRecDepth 20000 in
theorem gX6_on_X3_isOn : GoodIn wsX6_on (wsV RX6 102 RX3 yX3_isOn wsX3_isOn) := goodIn_app (goodIn_of _ (by decide +kernel)) ggX6_on_X3_isOn
set_option maxRecDepth 20000 in
theorem ggX6_on_X6_bit : GoodIn wsX6_on wsX6_bit := goodIn_r _ [36] (by decide +kernel) (by decide +kernel)
set_option maxRecDepth 20000 in
theorem gX6_on_X6_bit : GoodIn wsX6_on (va_wsS RX6 106 yX6_bit wsX6_bit) := goodIn_app (goodIn_of _ (by decide +kernel)) ggX6_on_X6_bit
theorem dX6_on_0 : decode cX6_on 0 = .ok (.aload_n 0, 1) := by decide +kernel
theorem dX6_on_1 : decode cX6_on 1 = .ok (.getfield 21, 3) := by decide +kernel
theorem dX6_on_4 : decode cX6_on 4 = .ok (.iload_n 1, 1) := by decide +kernel
theorem dX6_on_5 : decode cX6_on 5 = .ok (.invokevirtual 94, 3) := by decide +kernel
theorem dX6_on_8 : decode cX6_on 8 = .ok (.ifCond .eq 14, 3) := by decide +kernel
theorem dX6_on_11 : decode cX6_on 11 = .ok (.aload_n 0, 1) := by decide +kernel
theorem dX6_on_12 : decode cX6_on 12 = .ok (.getfield 21, 3) := by decide +kernel
theorem dX6_on_15 : decode cX6_on 15 = .ok (.iload_n 2, 1) := by decide +kernel
theorem dX6_on_16 : decode cX6_on 16 = .ok (.invokevirtual 94, 3) := by decide +kernel
theorem dX6_on_19 : decode cX6_on 19 = .ok (.ifCond .ne 6, 3) := by decide +kernel
theorem dX6_on_22 : decode cX6_on 22 = .ok (.bipush (-2), 2) := by decide +kernel
theorem dX6_on_24 : decode cX6_on 24 = .ok (.ireturn, 1) := by decide +kernel
theorem dX6_on_25 : decode cX6_on 25 = .ok (.aload_n 0, 1) := by decide +kernel
theorem dX6_on_26 : decode cX6_on 26 = .ok (.getfield 21, 3) := by decide +kernel
theorem dX6_on_29 : decode cX6_on 29 = .ok (.iload_n 1, 1) := by decide +kernel
theorem dX6_on_30 : decode cX6_on 30 = .ok (.iload_n 2, 1) := by decide +kernel
theorem dX6_on_31 : decode cX6_on 31 = .ok (.invokevirtual 102, 3) := by decide +kernel
theorem dX6_on_34 : decode cX6_on 34 = .ok (.invokestatic 106, 3) := by decide +kernel
theorem dX6_on_37 : decode cX6_on 37 = .ok (.ireturn, 1) := by decide +kernel
set_option maxRecDepth 20000 in
theorem ggX6_join_X3_has : GoodIn wsX6_join wsX3_has := goodIn_r _ [6, 7, 50, 51, 52, 53] (by decide +kernel) (by decide +kernel)
set_option maxRecDepth 20000 in
theorem gX6_join_X3_has : GoodIn wsX6_join (wsV RX6 94 RX3 yX3_has wsX3_has) := goodIn_app (goodIn_of _ (by decide +kernel)) ggX6_join_X3_has
set_option maxRecDepth 20000 in
theorem ggX6_join_X3_cross : GoodIn wsX6_join wsX3_cross := goodIn_r _ [11, 12, 13, 14, 15, 5, 16, 17, 18, 19, 20, 21, 22, 23, 24, 25, 26, 27, 28, 29, 30, 31, 32, 33, 50, 51, 52, 53, 54, 55, 56, 57, 58] (by decide +kernel) (by decide +kernel)
set_option maxRecDepth 20000 in
theorem gX6_join_X3_cross : GoodIn wsX6_join (wsV RX6 110 RX3 yX3_cross wsX3_cross) := goodIn_app (goodIn_of _ (by decide +kernel)) ggX6_join_X3_cross
set_option maxRecDepth 20000 in
theorem ggX6_join_X3_numberOf : GoodIn wsX6_join wsX3_numberOf := goodIn_r _ [37, 12, 38, 39, 40, 21, 41, 27, 42, 50, 51, 52, 53, 54, 55, 56, 57, 58] (by decide +kernel) (by decide +kernel)
set_option maxRecDepth 20000 in
theorem gX6_join_X3_numberOf : GoodIn wsX6_join (wsV RX6 98 RX3 yX3_numberOf wsX3_numberOf) := goodIn_app (goodIn_of _ (by decide +kernel)) ggX6_join_X3_numberOf
theorem dX6_join_0 : decode cX6_join 0 = .ok (.aload_n 0, 1) := by decide +kernel
theorem dX6_join_1 : decode cX6_join 1 = .ok (.getfield 21, 3) := by decide +kernel
theorem dX6_join_4 : decode cX6_join 4 = .ok (.iload_n 1, 1) := by decide +kernel
theorem dX6_join_5 : decode cX6_join 5 = .ok (.invokevirtual 94, 3) := by decide +kernel
theorem dX6_join_8 : decode cX6_join 8 = .ok (.ifCond .eq 19, 3) := by decide +kernel
theorem dX6_join_11 : decode cX6_join 11 = .ok (.aload_n 0, 1) := by decide +kernel
theorem dX6_join_12 : decode cX6_join 12 = .ok (.getfield 21, 3) := by decide +kernel
theorem dX6_join_15 : decode cX6_join 15 = .ok (.iload_n 2, 1) := by decide +kernel
theorem dX6_join_16 : decode cX6_join 16 = .ok (.invokevirtual 94, 3) := by decide +kernel
theorem dX6_join_19 : decode cX6_join 19 = .ok (.ifCond .eq 8, 3) := by decide +kernel
theorem dX6_join_22 : decode cX6_join 22 = .ok (.iload_n 1, 1) := by decide +kernel
theorem dX6_join_23 : decode cX6_join 23 = .ok (.iload_n 2, 1) := by decide +kernel
theorem dX6_join_24 : decode cX6_join 24 = .ok (.if_icmp .ne 6, 3) := by decide +kernel
theorem dX6_join_27 : decode cX6_join 27 = .ok (.bipush (-2), 2) := by decide +kernel
theorem dX6_join_29 : decode cX6_join 29 = .ok (.ireturn, 1) := by decide +kernel
theorem dX6_join_30 : decode cX6_join 30 = .ok (.aload_n 0, 1) := by decide +kernel
theorem dX6_join_31 : decode cX6_join 31 = .ok (.getfield 21, 3) := by decide +kernel
theorem dX6_join_34 : decode cX6_join 34 = .ok (.aload_n 0, 1) := by decide +kernel
theorem dX6_join_35 : decode cX6_join 35 = .ok (.getfield 21, 3) := by decide +kernel
theorem dX6_join_38 : decode cX6_join 38 = .ok (.iload_n 1, 1) := by decide +kernel
theorem dX6_join_39 : decode cX6_join 39 = .ok (.iload_n 2, 1) := by decide +kernel
theorem dX6_join_40 : decode cX6_join 40 = .ok (.iconst 0, 1) := by decide +kernel
theorem dX6_join_41 : decode cX6_join 41 = .ok (.invokevirtual 110, 3) := by decide +kernel
theorem dX6_join_44 : decode cX6_join 44 = .ok (.aload_n 0, 1) := by decide +kernel
theorem dX6_join_45 : decode cX6_join 45 = .ok (.getfield 21, 3) := by decide +kernel
theorem dX6_join_48 : decode cX6_join 48 = .ok (.iload_n 1, 1) := by decide +kernel
theorem dX6_join_49 : decode cX6_join 49 = .ok (.iload_n 2, 1) := by decide +kernel
theorem dX6_join_50 : decode cX6_join 50 = .ok (.iconst 1, 1) := by decide +kernel
theorem dX6_join_51 : decode cX6_join 51 = .ok (.invokevirtual 110, 3) := by decide +kernel
theorem dX6_join_54 : decode cX6_join 54 = .ok (.aload_n 0, 1) := by decide +kernel
theorem dX6_join_55 : decode cX6_join 55 = .ok (.getfield 21, 3) := by decide +kernel
theorem dX6_join_58 : decode cX6_join 58 = .ok (.iload_n 1, 1) := by decide +kernel
theorem dX6_join_59 : decode cX6_join 59 = .ok (.iload_n 2, 1) := by decide +kernel
theorem dX6_join_60 : decode cX6_join 60 = .ok (.iconst 2, 1) := by decide +kernel
theorem dX6_join_61 : decode cX6_join 61 = .ok (.invokevirtual 110, 3) := by decide +kernel
theorem dX6_join_64 : decode cX6_join 64 = .ok (.invokevirtual 98, 3) := by decide +kernel
theorem dX6_join_67 : decode cX6_join 67 = .ok (.ireturn, 1) := by decide +kernel
set_option maxRecDepth 20000 in
theorem ggX6_row_X3_has : GoodIn wsX6_row wsX3_has := goodIn_r _ [7, 8, 26, 27, 28, 29] (by decide +kernel) (by decide +kernel)
set_option maxRecDepth 20000 in
theorem gX6_row_X3_has : GoodIn wsX6_row (wsV RX6 94 RX3 yX3_has wsX3_has) := goodIn_app (goodIn_of _ (by decide +kernel)) ggX6_row_X3_has
set_option maxRecDepth 20000 in
theorem ggX6_row_X3_onRow : GoodIn wsX6_row wsX3_onRow := goodIn_r _ [12, 13, 26, 27, 28, 29] (by decide +kernel) (by decide +kernel)
set_option maxRecDepth 20000 in
theorem gX6_row_X3_onRow : GoodIn wsX6_row (wsV RX6 113 RX3 yX3_onRow wsX3_onRow) := goodIn_app (goodIn_of _ (by decide +kernel)) ggX6_row_X3_onRow
theorem dX6_row_0 : decode cX6_row 0 = .ok (.aload_n 0, 1) := by decide +kernel
theorem dX6_row_1 : decode cX6_row 1 = .ok (.getfield 21, 3) := by decide +kernel
theorem dX6_row_4 : decode cX6_row 4 = .ok (.iload_n 1, 1) := by decide +kernel
theorem dX6_row_5 : decode cX6_row 5 = .ok (.invokevirtual 94, 3) := by decide +kernel
theorem dX6_row_8 : decode cX6_row 8 = .ok (.ifCond .ne 6, 3) := by decide +kernel
theorem dX6_row_11 : decode cX6_row 11 = .ok (.bipush (-2), 2) := by decide +kernel
theorem dX6_row_13 : decode cX6_row 13 = .ok (.ireturn, 1) := by decide +kernel
theorem dX6_row_14 : decode cX6_row 14 = .ok (.iload_n 2, 1) := by decide +kernel
theorem dX6_row_15 : decode cX6_row 15 = .ok (.ifCond .lt 14, 3) := by decide +kernel
theorem dX6_row_18 : decode cX6_row 18 = .ok (.iload_n 2, 1) := by decide +kernel
theorem dX6_row_19 : decode cX6_row 19 = .ok (.aload_n 0, 1) := by decide +kernel
theorem dX6_row_20 : decode cX6_row 20 = .ok (.getfield 10, 3) := by decide +kernel
theorem dX6_row_23 : decode cX6_row 23 = .ok (.getfield 62, 3) := by decide +kernel
theorem dX6_row_26 : decode cX6_row 26 = .ok (.if_icmp .le 7, 3) := by decide +kernel
theorem dX6_row_29 : decode cX6_row 29 = .ok (.iconst (-1), 1) := by decide +kernel
theorem dX6_row_30 : decode cX6_row 30 = .ok (.goto 12, 3) := by decide +kernel
theorem dX6_row_33 : decode cX6_row 33 = .ok (.aload_n 0, 1) := by decide +kernel
theorem dX6_row_34 : decode cX6_row 34 = .ok (.getfield 21, 3) := by decide +kernel
theorem dX6_row_37 : decode cX6_row 37 = .ok (.iload_n 1, 1) := by decide +kernel
theorem dX6_row_38 : decode cX6_row 38 = .ok (.iload_n 2, 1) := by decide +kernel
theorem dX6_row_39 : decode cX6_row 39 = .ok (.invokevirtual 113, 3) := by decide +kernel
theorem dX6_row_42 : decode cX6_row 42 = .ok (.ireturn, 1) := by decide +kernel
set_option maxRecDepth 20000 in
theorem ggX6_put_X3_has : GoodIn wsX6_put wsX3_has := goodIn_r _ [7, 8, 24, 25, 26, 27] (by decide +kernel) (by decide +kernel)
set_option maxRecDepth 20000 in
theorem gX6_put_X3_has : GoodIn wsX6_put (wsV RX6 94 RX3 yX3_has wsX3_has) := goodIn_app (goodIn_of _ (by decide +kernel)) ggX6_put_X3_has
set_option maxRecDepth 20000 in
theorem ggX6_put_X6_bit : GoodIn wsX6_put wsX6_bit := goodIn_r _ [12] (by decide +kernel) (by decide +kernel)
set_option maxRecDepth 20000 in
theorem gX6_put_X6_bit : GoodIn wsX6_put (va_wsS RX6 106 yX6_bit wsX6_bit) := goodIn_app (goodIn_of _ (by decide +kernel)) ggX6_put_X6_bit
theorem dX6_put_0 : decode cX6_put 0 = .ok (.aload_n 0, 1) := by decide +kernel
theorem dX6_put_1 : decode cX6_put 1 = .ok (.getfield 21, 3) := by decide +kernel
theorem dX6_put_4 : decode cX6_put 4 = .ok (.iload_n 1, 1) := by decide +kernel
theorem dX6_put_5 : decode cX6_put 5 = .ok (.invokevirtual 94, 3) := by decide +kernel
theorem dX6_put_8 : decode cX6_put 8 = .ok (.ifCond .ne 6, 3) := by decide +kernel
theorem dX6_put_11 : decode cX6_put 11 = .ok (.bipush (-2), 2) := by decide +kernel
theorem dX6_put_13 : decode cX6_put 13 = .ok (.ireturn, 1) := by decide +kernel
theorem dX6_put_14 : decode cX6_put 14 = .ok (.aload_n 0, 1) := by decide +kernel
theorem dX6_put_15 : decode cX6_put 15 = .ok (.getfield 30, 3) := by decide +kernel
theorem dX6_put_18 : decode cX6_put 18 = .ok (.getfield 116, 3) := by decide +kernel
theorem dX6_put_21 : decode cX6_put 21 = .ok (.iload_n 1, 1) := by decide +kernel
theorem dX6_put_22 : decode cX6_put 22 = .ok (.baload, 1) := by decide +kernel
theorem dX6_put_23 : decode cX6_put 23 = .ok (.invokestatic 106, 3) := by decide +kernel
theorem dX6_put_26 : decode cX6_put 26 = .ok (.istore_n 3, 1) := by decide +kernel
theorem dX6_put_27 : decode cX6_put 27 = .ok (.aload_n 0, 1) := by decide +kernel
theorem dX6_put_28 : decode cX6_put 28 = .ok (.getfield 30, 3) := by decide +kernel
theorem dX6_put_31 : decode cX6_put 31 = .ok (.getfield 116, 3) := by decide +kernel
theorem dX6_put_34 : decode cX6_put 34 = .ok (.iload_n 1, 1) := by decide +kernel
theorem dX6_put_35 : decode cX6_put 35 = .ok (.iload_n 2, 1) := by decide +kernel
theorem dX6_put_36 : decode cX6_put 36 = .ok (.bastore, 1) := by decide +kernel
theorem dX6_put_37 : decode cX6_put 37 = .ok (.iload_n 3, 1) := by decide +kernel
theorem dX6_put_38 : decode cX6_put 38 = .ok (.ireturn, 1) := by decide +kernel
set_option maxRecDepth 20000 in
theorem ggX6_member_X3_pick : GoodIn wsX6_member wsX3_pick := goodIn_r _ [7, 8, 20, 21, 22, 23] (by decide +kernel) (by decide +kernel)
set_option maxRecDepth 20000 in
theorem gX6_member_X3_pick : GoodIn wsX6_member (wsV RX6 120 RX3 yX3_pick wsX3_pick) := goodIn_app (goodIn_of _ (by decide +kernel)) ggX6_member_X3_pick
theorem dX6_member_0 : decode cX6_member 0 = .ok (.aload_n 0, 1) := by decide +kernel
theorem dX6_member_1 : decode cX6_member 1 = .ok (.getfield 21, 3) := by decide +kernel
theorem dX6_member_4 : decode cX6_member 4 = .ok (.aload_n 0, 1) := by decide +kernel
theorem dX6_member_5 : decode cX6_member 5 = .ok (.getfield 30, 3) := by decide +kernel
theorem dX6_member_8 : decode cX6_member 8 = .ok (.getfield 116, 3) := by decide +kernel
theorem dX6_member_11 : decode cX6_member 11 = .ok (.iload_n 1, 1) := by decide +kernel
theorem dX6_member_12 : decode cX6_member 12 = .ok (.invokevirtual 120, 3) := by decide +kernel
theorem dX6_member_15 : decode cX6_member 15 = .ok (.ireturn, 1) := by decide +kernel
set_option maxRecDepth 20000 in
theorem ggX6_count_X3_sizeOf : GoodIn wsX6_count wsX3_sizeOf := goodIn_r _ [9, 10, 96, 97, 98, 99] (by decide +kernel) (by decide +kernel)
set_option maxRecDepth 20000 in
theorem gX6_count_X3_sizeOf : GoodIn wsX6_count (wsV RX6 127 RX3 yX3_sizeOf wsX3_sizeOf) := goodIn_app (goodIn_of _ (by decide +kernel)) ggX6_count_X3_sizeOf
set_option maxRecDepth 20000 in
theorem ggX6_count_X4_spares : GoodIn wsX6_count wsX4_spares := goodIn_r _ [15, 16, 17, 18, 19, 20, 21, 14, 22, 23, 24, 25, 26, 27, 28, 29, 8, 30, 10, 31, 32, 33, 34, 35, 36, 37, 38, 39, 40, 100, 101, 102, 103, 96, 97, 98, 99, 91, 92, 93, 94, 95] (by decide +kernel) (by decide +kernel)
set_option maxRecDepth 20000 in
theorem gX6_count_X4_spares : GoodIn wsX6_count (wsV RX6 131 RX4 yX4_spares wsX4_spares) := goodIn_app (goodIn_of _ (by decide +kernel)) ggX6_count_X4_spares
set_option maxRecDepth 20000 in
theorem ggX6_count_X4_close : GoodIn wsX6_count wsX4_close := goodIn_r _ [44, 16, 45, 18, 46, 47, 48, 14, 49, 17, 27, 28, 29, 8, 30, 10, 31, 32, 33, 34, 35, 36, 50, 51, 52, 53, 37, 38, 39, 40, 100, 101, 102, 103, 96, 97, 98, 99, 91, 92, 93, 94, 95] (by decide +kernel) (by decide +kernel)
set_option maxRecDepth 20000 in
theorem gX6_count_X4_close : GoodIn wsX6_count (wsV RX6 135 RX4 yX4_close wsX4_close) := goodIn_app (goodIn_of _ (by decide +kernel)) ggX6_count_X4_close
set_option maxRecDepth 20000 in
theorem ggX6_count_X4_arcNewcomers : GoodIn wsX6_count wsX4_arcNewcomers := goodIn_r _ [57, 16, 17, 18, 58, 59, 60, 14, 61, 62, 63, 64, 65, 66, 67, 68, 69, 27, 28, 29, 8, 30, 10, 31, 32, 33, 34, 35, 36, 37, 38, 39, 40, 100, 101, 102, 103, 96, 97, 98, 99, 91, 92, 93, 94, 95] (by decide +kernel) (by decide +kernel)
set_option maxRecDepth 20000 in
theorem gX6_count_X4_arcNewcomers : GoodIn wsX6_count (wsV RX6 139 RX4 yX4_arcNewcomers wsX4_arcNewcomers) := goodIn_app (goodIn_of _ (by decide +kernel)) ggX6_count_X4_arcNewcomers
set_option maxRecDepth 20000 in
theorem ggX6_count_X5_marks : GoodIn wsX6_count wsX5_marks := goodIn_r _ [74, 75, 76, 77, 78, 79, 80, 81, 82, 83, 104, 105] (by decide +kernel) (by decide +kernel)
set_option maxRecDepth 20000 in
theorem gX6_count_X5_marks : GoodIn wsX6_count (wsV RX6 145 RX5 yX5_marks wsX5_marks) := goodIn_app (goodIn_of _ (by decide +kernel)) ggX6_count_X5_marks
theorem dX6_count_0 : decode cX6_count 0 = .ok (.iload_n 1, 1) := by decide +kernel
theorem dX6_count_1 : decode cX6_count 1 = .ok (.tableswitch 125 0 7 #[47, 55, 63, 78, 86, 101, 109, 117], 47) := by decide +kernel
theorem dX6_count_48 : decode cX6_count 48 = .ok (.aload_n 0, 1) := by decide +kernel
theorem dX6_count_49 : decode cX6_count 49 = .ok (.getfield 10, 3) := by decide +kernel
theorem dX6_count_52 : decode cX6_count 52 = .ok (.getfield 62, 3) := by decide +kernel
theorem dX6_count_55 : decode cX6_count 55 = .ok (.ireturn, 1) := by decide +kernel
theorem dX6_count_56 : decode cX6_count 56 = .ok (.aload_n 0, 1) := by decide +kernel
theorem dX6_count_57 : decode cX6_count 57 = .ok (.getfield 21, 3) := by decide +kernel
theorem dX6_count_60 : decode cX6_count 60 = .ok (.getfield 124, 3) := by decide +kernel
theorem dX6_count_63 : decode cX6_count 63 = .ok (.ireturn, 1) := by decide +kernel
theorem dX6_count_64 : decode cX6_count 64 = .ok (.aload_n 0, 1) := by decide +kernel
theorem dX6_count_65 : decode cX6_count 65 = .ok (.getfield 21, 3) := by decide +kernel
theorem dX6_count_68 : decode cX6_count 68 = .ok (.aload_n 0, 1) := by decide +kernel
theorem dX6_count_69 : decode cX6_count 69 = .ok (.getfield 30, 3) := by decide +kernel
theorem dX6_count_72 : decode cX6_count 72 = .ok (.getfield 116, 3) := by decide +kernel
theorem dX6_count_75 : decode cX6_count 75 = .ok (.invokevirtual 127, 3) := by decide +kernel
theorem dX6_count_78 : decode cX6_count 78 = .ok (.ireturn, 1) := by decide +kernel
theorem dX6_count_79 : decode cX6_count 79 = .ok (.aload_n 0, 1) := by decide +kernel
theorem dX6_count_80 : decode cX6_count 80 = .ok (.getfield 30, 3) := by decide +kernel
theorem dX6_count_83 : decode cX6_count 83 = .ok (.invokevirtual 131, 3) := by decide +kernel
theorem dX6_count_86 : decode cX6_count 86 = .ok (.ireturn, 1) := by decide +kernel
theorem dX6_count_87 : decode cX6_count 87 = .ok (.aload_n 0, 1) := by decide +kernel
theorem dX6_count_88 : decode cX6_count 88 = .ok (.getfield 21, 3) := by decide +kernel
theorem dX6_count_91 : decode cX6_count 91 = .ok (.aload_n 0, 1) := by decide +kernel
theorem dX6_count_92 : decode cX6_count 92 = .ok (.getfield 30, 3) := by decide +kernel
theorem dX6_count_95 : decode cX6_count 95 = .ok (.invokevirtual 135, 3) := by decide +kernel
theorem dX6_count_98 : decode cX6_count 98 = .ok (.invokevirtual 127, 3) := by decide +kernel
theorem dX6_count_101 : decode cX6_count 101 = .ok (.ireturn, 1) := by decide +kernel
theorem dX6_count_102 : decode cX6_count 102 = .ok (.aload_n 0, 1) := by decide +kernel
theorem dX6_count_103 : decode cX6_count 103 = .ok (.getfield 30, 3) := by decide +kernel
theorem dX6_count_106 : decode cX6_count 106 = .ok (.invokevirtual 139, 3) := by decide +kernel
theorem dX6_count_109 : decode cX6_count 109 = .ok (.ireturn, 1) := by decide +kernel
theorem dX6_count_110 : decode cX6_count 110 = .ok (.aload_n 0, 1) := by decide +kernel
theorem dX6_count_111 : decode cX6_count 111 = .ok (.getfield 54, 3) := by decide +kernel
theorem dX6_count_114 : decode cX6_count 114 = .ok (.getfield 142, 3) := by decide +kernel
theorem dX6_count_117 : decode cX6_count 117 = .ok (.ireturn, 1) := by decide +kernel
theorem dX6_count_118 : decode cX6_count 118 = .ok (.aload_n 0, 1) := by decide +kernel
theorem dX6_count_119 : decode cX6_count 119 = .ok (.getfield 54, 3) := by decide +kernel
theorem dX6_count_122 : decode cX6_count 122 = .ok (.invokevirtual 145, 3) := by decide +kernel
theorem dX6_count_125 : decode cX6_count 125 = .ok (.ireturn, 1) := by decide +kernel
theorem dX6_count_126 : decode cX6_count 126 = .ok (.bipush (-2), 2) := by decide +kernel
theorem dX6_count_128 : decode cX6_count 128 = .ok (.ireturn, 1) := by decide +kernel
set_option maxRecDepth 20000 in
theorem ggX6_meets_X4_linesWith : GoodIn wsX6_meets wsX4_linesWith := goodIn_r _ [6, 7, 8, 9, 10, 11, 12, 13, 14, 15, 16, 17, 18, 19, 20, 21, 29, 30, 31, 32, 33, 34, 35, 36, 37, 38, 39, 40, 41] (by decide +kernel) (by decide +kernel)
set_option maxRecDepth 20000 in
theorem gX6_meets_X4_linesWith : GoodIn wsX6_meets (wsV RX6 148 RX4 yX4_linesWith wsX4_linesWith) := goodIn_app (goodIn_of _ (by decide +kernel)) ggX6_meets_X4_linesWith
theorem dX6_meets_0 : decode cX6_meets 0 = .ok (.aload_n 0, 1) := by decide +kernel
theorem dX6_meets_1 : decode cX6_meets 1 = .ok (.getfield 30, 3) := by decide +kernel
theorem dX6_meets_4 : decode cX6_meets 4 = .ok (.iload_n 1, 1) := by decide +kernel
theorem dX6_meets_5 : decode cX6_meets 5 = .ok (.invokevirtual 148, 3) := by decide +kernel
theorem dX6_meets_8 : decode cX6_meets 8 = .ok (.ireturn, 1) := by decide +kernel
set_option maxRecDepth 20000 in
theorem ggX6_is_X4_isArc : GoodIn wsX6_is wsX4_isArc := goodIn_r _ [7, 8, 9, 10, 6, 11, 12, 13, 14, 15, 16, 17, 18, 19, 20, 21, 22, 23, 24, 25, 26, 27, 28, 29, 30, 76, 77, 78, 79, 80, 81, 82, 83, 84, 85, 86, 87, 88] (by decide +kernel) (by decide +kernel)
set_option maxRecDepth 20000 in
theorem gX6_is_X4_isArc : GoodIn wsX6_is (wsV RX6 152 RX4 yX4_isArc wsX4_isArc) := goodIn_app (goodIn_of _ (by decide +kernel)) ggX6_is_X4_isArc
set_option maxRecDepth 20000 in
theorem ggX6_is_X6_bit : GoodIn wsX6_is wsX6_bit := goodIn_r _ [34] (by decide +kernel) (by decide +kernel)
set_option maxRecDepth 20000 in
theorem gX6_is_X6_bit : GoodIn wsX6_is (va_wsS RX6 106 yX6_bit wsX6_bit) := goodIn_app (goodIn_of _ (by decide +kernel)) ggX6_is_X6_bit
set_option maxRecDepth 20000 in
theorem ggX6_is_X4_arcNewcomers : GoodIn wsX6_is wsX4_arcNewcomers := goodIn_r _ [38, 12, 13, 14, 39, 4, 5, 6, 7, 8, 9, 10, 11, 15, 16, 17, 18, 19, 20, 21, 22, 23, 24, 25, 26, 27, 28, 29, 30, 40, 41, 42, 43, 76, 77, 78, 79, 80, 81, 82, 83, 84, 85, 86, 87, 88] (by decide +kernel) (by decide +kernel)
set_option maxRecDepth 20000 in
theorem gX6_is_X4_arcNewcomers : GoodIn wsX6_is (wsV RX6 139 RX4 yX4_arcNewcomers wsX4_arcNewcomers) := goodIn_app (goodIn_of _ (by decide +kernel)) ggX6_is_X4_arcNewcomers
set_option maxRecDepth 20000 in
theorem ggX6_is_X4_blocks : GoodIn wsX6_is wsX4_blocks := goodIn_r _ [47, 48, 49, 50, 6, 51, 12, 13, 14, 19, 20, 21, 22, 23, 24, 25, 26, 27, 28, 29, 30, 76, 77, 78, 79, 80, 81, 82, 83, 84, 85, 86, 87, 88] (by decide +kernel) (by decide +kernel)
set_option maxRecDepth 20000 in
theorem gX6_is_X4_blocks : GoodIn wsX6_is (wsV RX6 156 RX4 yX4_blocks wsX4_blocks) := goodIn_app (goodIn_of _ (by decide +kernel)) ggX6_is_X4_blocks
set_option maxRecDepth 20000 in
theorem ggX6_is_X4_close : GoodIn wsX6_is wsX4_close := goodIn_r _ [55, 12, 56, 14, 57, 58, 59, 6, 60, 13, 19, 20, 21, 22, 23, 24, 25, 26, 27, 28, 29, 30, 61, 62, 63, 64, 40, 41, 42, 43, 76, 77, 78, 79, 80, 81, 82, 83, 84, 85, 86, 87, 88] (by decide +kernel) (by decide +kernel)
set_option maxRecDepth 20000 in
theorem gX6_is_X4_close : GoodIn wsX6_is (wsV RX6 135 RX4 yX4_close wsX4_close) := goodIn_app (goodIn_of _ (by decide +kernel)) ggX6_is_X4_close
set_option maxRecDepth 20000 in
theorem ggX6_is_X3_sizeOf : GoodIn wsX6_is wsX3_sizeOf := goodIn_r _ [68, 24, 80, 81, 82, 83] (by decide +kernel) (by decide +kernel)
set_option maxRecDepth 20000 in
theorem gX6_is_X3_sizeOf : GoodIn wsX6_is (wsV RX6 127 RX3 yX3_sizeOf wsX3_sizeOf) := goodIn_app (goodIn_of _ (by decide +kernel)) ggX6_is_X3_sizeOf
theorem dX6_is_0 : decode cX6_is 0 = .ok (.iload_n 1, 1) := by decide +kernel
theorem dX6_is_1 : decode cX6_is 1 = .ok (.tableswitch 122 0 3 #[31, 42, 71, 82], 31) := by decide +kernel
theorem dX6_is_32 : decode cX6_is 32 = .ok (.aload_n 0, 1) := by decide +kernel
theorem dX6_is_33 : decode cX6_is 33 = .ok (.getfield 30, 3) := by decide +kernel
theorem dX6_is_36 : decode cX6_is 36 = .ok (.invokevirtual 152, 3) := by decide +kernel
theorem dX6_is_39 : decode cX6_is 39 = .ok (.invokestatic 106, 3) := by decide +kernel
theorem dX6_is_42 : decode cX6_is 42 = .ok (.ireturn, 1) := by decide +kernel
theorem dX6_is_43 : decode cX6_is 43 = .ok (.aload_n 0, 1) := by decide +kernel
theorem dX6_is_44 : decode cX6_is 44 = .ok (.getfield 30, 3) := by decide +kernel
theorem dX6_is_47 : decode cX6_is 47 = .ok (.invokevirtual 152, 3) := by decide +kernel
theorem dX6_is_50 : decode cX6_is 50 = .ok (.ifCond .eq 17, 3) := by decide +kernel
theorem dX6_is_53 : decode cX6_is 53 = .ok (.aload_n 0, 1) := by decide +kernel
theorem dX6_is_54 : decode cX6_is 54 = .ok (.getfield 30, 3) := by decide +kernel
theorem dX6_is_57 : decode cX6_is 57 = .ok (.invokevirtual 139, 3) := by decide +kernel
theorem dX6_is_60 : decode cX6_is 60 = .ok (.ifCond .ne 7, 3) := by decide +kernel
theorem dX6_is_63 : decode cX6_is 63 = .ok (.iconst 1, 1) := by decide +kernel
theorem dX6_is_64 : decode cX6_is 64 = .ok (.goto 4, 3) := by decide +kernel
theorem dX6_is_67 : decode cX6_is 67 = .ok (.iconst 0, 1) := by decide +kernel
theorem dX6_is_68 : decode cX6_is 68 = .ok (.invokestatic 106, 3) := by decide +kernel
theorem dX6_is_71 : decode cX6_is 71 = .ok (.ireturn, 1) := by decide +kernel
theorem dX6_is_72 : decode cX6_is 72 = .ok (.aload_n 0, 1) := by decide +kernel
theorem dX6_is_73 : decode cX6_is 73 = .ok (.getfield 30, 3) := by decide +kernel
theorem dX6_is_76 : decode cX6_is 76 = .ok (.invokevirtual 156, 3) := by decide +kernel
theorem dX6_is_79 : decode cX6_is 79 = .ok (.invokestatic 106, 3) := by decide +kernel
theorem dX6_is_82 : decode cX6_is 82 = .ok (.ireturn, 1) := by decide +kernel
theorem dX6_is_83 : decode cX6_is 83 = .ok (.aload_n 0, 1) := by decide +kernel
theorem dX6_is_84 : decode cX6_is 84 = .ok (.getfield 21, 3) := by decide +kernel
theorem dX6_is_87 : decode cX6_is 87 = .ok (.aload_n 0, 1) := by decide +kernel
theorem dX6_is_88 : decode cX6_is 88 = .ok (.getfield 30, 3) := by decide +kernel
theorem dX6_is_91 : decode cX6_is 91 = .ok (.invokevirtual 135, 3) := by decide +kernel
theorem dX6_is_94 : decode cX6_is 94 = .ok (.invokevirtual 127, 3) := by decide +kernel
theorem dX6_is_97 : decode cX6_is 97 = .ok (.aload_n 0, 1) := by decide +kernel
theorem dX6_is_98 : decode cX6_is 98 = .ok (.getfield 21, 3) := by decide +kernel
theorem dX6_is_101 : decode cX6_is 101 = .ok (.aload_n 0, 1) := by decide +kernel
theorem dX6_is_102 : decode cX6_is 102 = .ok (.getfield 30, 3) := by decide +kernel
theorem dX6_is_105 : decode cX6_is 105 = .ok (.getfield 116, 3) := by decide +kernel
theorem dX6_is_108 : decode cX6_is 108 = .ok (.invokevirtual 127, 3) := by decide +kernel
theorem dX6_is_111 : decode cX6_is 111 = .ok (.if_icmp .ne 7, 3) := by decide +kernel
theorem dX6_is_114 : decode cX6_is 114 = .ok (.iconst 1, 1) := by decide +kernel
theorem dX6_is_115 : decode cX6_is 115 = .ok (.goto 4, 3) := by decide +kernel
theorem dX6_is_118 : decode cX6_is 118 = .ok (.iconst 0, 1) := by decide +kernel
theorem dX6_is_119 : decode cX6_is 119 = .ok (.invokestatic 106, 3) := by decide +kernel
theorem dX6_is_122 : decode cX6_is 122 = .ok (.ireturn, 1) := by decide +kernel
theorem dX6_is_123 : decode cX6_is 123 = .ok (.bipush (-2), 2) := by decide +kernel
theorem dX6_is_125 : decode cX6_is 125 = .ok (.ireturn, 1) := by decide +kernel
set_option maxRecDepth 20000 in
theorem ggX6_greatest_X4_isArc : GoodIn wsX6_greatest wsX4_isArc := goodIn_r _ [8, 9, 10, 11, 7, 12, 13, 14, 15, 16, 17, 18, 19, 20, 21, 22, 23, 24, 25, 26, 27, 28, 29, 30, 31, 65, 66, 67, 68, 69, 70, 71, 72, 60, 61, 62, 63, 64] (by decide +kernel) (by decide +kernel)
set_option maxRecDepth 20000 in
theorem gX6_greatest_X4_isArc : GoodIn wsX6_greatest (wsV RX6 152 RX4 yX4_isArc wsX4_isArc) := goodIn_app (goodIn_of _ (by decide +kernel)) ggX6_greatest_X4_isArc
set_option maxRecDepth 20000 in
theorem ggX6_greatest_X4_growArc : GoodIn wsX6_greatest wsX4_growArc := goodIn_r _ [35, 13, 36, 15, 37, 38, 39, 7, 40, 14, 20, 21, 22, 23, 24, 25, 26, 27, 28, 29, 30, 31, 41, 42, 43, 44, 65, 66, 67, 68, 69, 70, 71, 72, 60, 61, 62, 63, 64] (by decide +kernel) (by decide +kernel)
set_option maxRecDepth 20000 in
theorem gX6_greatest_X4_growArc : GoodIn wsX6_greatest (wsV RX6 159 RX4 yX4_growArc wsX4_growArc) := goodIn_app (goodIn_of _ (by decide +kernel)) ggX6_greatest_X4_growArc
set_option maxRecDepth 20000 in
theorem ggX6_greatest_X3_sizeOf : GoodIn wsX6_greatest wsX3_sizeOf := goodIn_r _ [48, 25, 69, 70, 71, 72] (by decide +kernel) (by decide +kernel)
set_option maxRecDepth 20000 in
theorem gX6_greatest_X3_sizeOf : GoodIn wsX6_greatest (wsV RX6 127 RX3 yX3_sizeOf wsX3_sizeOf) := goodIn_app (goodIn_of _ (by decide +kernel)) ggX6_greatest_X3_sizeOf
set_option maxRecDepth 20000 in
theorem ggX6_greatest_X3_pick : GoodIn wsX6_greatest wsX3_pick := goodIn_r _ [52, 25, 69, 70, 71, 72] (by decide +kernel) (by decide +kernel)
set_option maxRecDepth 20000 in
theorem gX6_greatest_X3_pick : GoodIn wsX6_greatest (wsV RX6 120 RX3 yX3_pick wsX3_pick) := goodIn_app (goodIn_of _ (by decide +kernel)) ggX6_greatest_X3_pick
theorem dX6_greatest_0 : decode cX6_greatest 0 = .ok (.aload_n 0, 1) := by decide +kernel
theorem dX6_greatest_1 : decode cX6_greatest 1 = .ok (.getfield 10, 3) := by decide +kernel
theorem dX6_greatest_4 : decode cX6_greatest 4 = .ok (.getfield 62, 3) := by decide +kernel
theorem dX6_greatest_7 : decode cX6_greatest 7 = .ok (.iconst 5, 1) := by decide +kernel
theorem dX6_greatest_8 : decode cX6_greatest 8 = .ok (.if_icmp .le 6, 3) := by decide +kernel
theorem dX6_greatest_11 : decode cX6_greatest 11 = .ok (.bipush (-2), 2) := by decide +kernel
theorem dX6_greatest_13 : decode cX6_greatest 13 = .ok (.ireturn, 1) := by decide +kernel
theorem dX6_greatest_14 : decode cX6_greatest 14 = .ok (.aload_n 0, 1) := by decide +kernel
theorem dX6_greatest_15 : decode cX6_greatest 15 = .ok (.getfield 30, 3) := by decide +kernel
theorem dX6_greatest_18 : decode cX6_greatest 18 = .ok (.invokevirtual 152, 3) := by decide +kernel
theorem dX6_greatest_21 : decode cX6_greatest 21 = .ok (.ifCond .ne 5, 3) := by decide +kernel
theorem dX6_greatest_24 : decode cX6_greatest 24 = .ok (.iconst (-1), 1) := by decide +kernel
theorem dX6_greatest_25 : decode cX6_greatest 25 = .ok (.ireturn, 1) := by decide +kernel
theorem dX6_greatest_26 : decode cX6_greatest 26 = .ok (.aload_n 0, 1) := by decide +kernel
theorem dX6_greatest_27 : decode cX6_greatest 27 = .ok (.getfield 30, 3) := by decide +kernel
theorem dX6_greatest_30 : decode cX6_greatest 30 = .ok (.invokevirtual 159, 3) := by decide +kernel
theorem dX6_greatest_33 : decode cX6_greatest 33 = .ok (.astore_n 2, 1) := by decide +kernel
theorem dX6_greatest_34 : decode cX6_greatest 34 = .ok (.iload_n 1, 1) := by decide +kernel
theorem dX6_greatest_35 : decode cX6_greatest 35 = .ok (.iconst (-1), 1) := by decide +kernel
theorem dX6_greatest_36 : decode cX6_greatest 36 = .ok (.if_icmp .ne 14, 3) := by decide +kernel
theorem dX6_greatest_39 : decode cX6_greatest 39 = .ok (.aload_n 0, 1) := by decide +kernel
theorem dX6_greatest_40 : decode cX6_greatest 40 = .ok (.getfield 21, 3) := by decide +kernel
theorem dX6_greatest_43 : decode cX6_greatest 43 = .ok (.aload_n 2, 1) := by decide +kernel
theorem dX6_greatest_44 : decode cX6_greatest 44 = .ok (.invokevirtual 127, 3) := by decide +kernel
theorem dX6_greatest_47 : decode cX6_greatest 47 = .ok (.goto 12, 3) := by decide +kernel
theorem dX6_greatest_50 : decode cX6_greatest 50 = .ok (.aload_n 0, 1) := by decide +kernel
theorem dX6_greatest_51 : decode cX6_greatest 51 = .ok (.getfield 21, 3) := by decide +kernel
theorem dX6_greatest_54 : decode cX6_greatest 54 = .ok (.aload_n 2, 1) := by decide +kernel
theorem dX6_greatest_55 : decode cX6_greatest 55 = .ok (.iload_n 1, 1) := by decide +kernel
theorem dX6_greatest_56 : decode cX6_greatest 56 = .ok (.invokevirtual 120, 3) := by decide +kernel
theorem dX6_greatest_59 : decode cX6_greatest 59 = .ok (.ireturn, 1) := by decide +kernel
set_option maxRecDepth 20000 in
theorem ggX6_closure_X4_close : GoodIn wsX6_closure wsX4_close := goodIn_r _ [7, 8, 9, 10, 11, 12, 13, 6, 14, 15, 16, 17, 18, 19, 20, 21, 22, 23, 24, 25, 26, 27, 28, 29, 30, 31, 32, 33, 34, 35, 47, 48, 49, 50, 51, 52, 53, 54, 55, 56, 57, 58, 59] (by decide +kernel) (by decide +kernel)
set_option maxRecDepth 20000 in
theorem gX6_closure_X4_close : GoodIn wsX6_closure (wsV RX6 135 RX4 yX4_close wsX4_close) := goodIn_app (goodIn_of _ (by decide +kernel)) ggX6_closure_X4_close
set_option maxRecDepth 20000 in
theorem ggX6_closure_X3_pick : GoodIn wsX6_closure wsX3_pick := goodIn_r _ [39, 21, 51, 52, 53, 54] (by decide +kernel) (by decide +kernel)
set_option maxRecDepth 20000 in
theorem gX6_closure_X3_pick : GoodIn wsX6_closure (wsV RX6 120 RX3 yX3_pick wsX3_pick) := goodIn_app (goodIn_of _ (by decide +kernel)) ggX6_closure_X3_pick
theorem dX6_closure_0 : decode cX6_closure 0 = .ok (.aload_n 0, 1) := by decide +kernel
theorem dX6_closure_1 : decode cX6_closure 1 = .ok (.getfield 21, 3) := by decide +kernel
theorem dX6_closure_4 : decode cX6_closure 4 = .ok (.aload_n 0, 1) := by decide +kernel
theorem dX6_closure_5 : decode cX6_closure 5 = .ok (.getfield 30, 3) := by decide +kernel
theorem dX6_closure_8 : decode cX6_closure 8 = .ok (.invokevirtual 135, 3) := by decide +kernel
theorem dX6_closure_11 : decode cX6_closure 11 = .ok (.iload_n 1, 1) := by decide +kernel
theorem dX6_closure_12 : decode cX6_closure 12 = .ok (.invokevirtual 120, 3) := by decide +kernel
theorem dX6_closure_15 : decode cX6_closure 15 = .ok (.ireturn, 1) := by decide +kernel
set_option maxRecDepth 20000 in
theorem ggX6_curve_X1_has : GoodIn wsX6_curve wsX1_has := goodIn_r _ [9, 10, 59, 60, 61, 62, 63] (by decide +kernel) (by decide +kernel)
set_option maxRecDepth 20000 in
theorem gX6_curve_X1_has : GoodIn wsX6_curve (wsV RX6 78 RX1 yX1_has wsX1_has) := goodIn_app (goodIn_of _ (by decide +kernel)) ggX6_curve_X1_has
set_option maxRecDepth 20000 in
theorem ggX6_curve_X0_choose : GoodIn wsX6_curve wsX0_choose := goodIn_r _ [15, 16, 64, 65, 66, 67, 68] (by decide +kernel) (by decide +kernel)
set_option maxRecDepth 20000 in
theorem gX6_curve_X0_choose : GoodIn wsX6_curve (wsV RX6 162 RX0 yX0_choose wsX0_choose) := goodIn_app (goodIn_of _ (by decide +kernel)) ggX6_curve_X0_choose
set_option maxRecDepth 20000 in
theorem ggX6_curve_X0_copyPointsTo : GoodIn wsX6_curve wsX0_copyPointsTo := goodIn_r _ [20, 21, 22, 16, 23, 24, 25, 14, 26, 27, 28, 29, 30, 31, 32, 33, 34, 35, 8, 36, 37, 38, 39, 40, 41, 42, 64, 65, 66, 67, 68, 69, 70, 71, 72, 59, 60, 61, 62, 63] (by decide +kernel) (by decide +kernel)
set_option maxRecDepth 20000 in
theorem gX6_curve_X0_copyPointsTo : GoodIn wsX6_curve (wsV RX6 166 RX0 yX0_copyPointsTo wsX0_copyPointsTo) := goodIn_app (goodIn_of _ (by decide +kernel)) ggX6_curve_X0_copyPointsTo
set_option maxRecDepth 20000 in
theorem ggX6_curve_X3_sizeOf : GoodIn wsX6_curve wsX3_sizeOf := goodIn_r _ [46, 47, 69, 70, 71, 72] (by decide +kernel) (by decide +kernel)
set_option maxRecDepth 20000 in
theorem gX6_curve_X3_sizeOf : GoodIn wsX6_curve (wsV RX6 127 RX3 yX3_sizeOf wsX3_sizeOf) := goodIn_app (goodIn_of _ (by decide +kernel)) ggX6_curve_X3_sizeOf
theorem dX6_curve_0 : decode cX6_curve 0 = .ok (.aload_n 0, 1) := by decide +kernel
theorem dX6_curve_1 : decode cX6_curve 1 = .ok (.getfield 10, 3) := by decide +kernel
theorem dX6_curve_4 : decode cX6_curve 4 = .ok (.iload_n 1, 1) := by decide +kernel
theorem dX6_curve_5 : decode cX6_curve 5 = .ok (.invokevirtual 78, 3) := by decide +kernel
theorem dX6_curve_8 : decode cX6_curve 8 = .ok (.ifCond .eq 61, 3) := by decide +kernel
theorem dX6_curve_11 : decode cX6_curve 11 = .ok (.aload_n 0, 1) := by decide +kernel
theorem dX6_curve_12 : decode cX6_curve 12 = .ok (.getfield 10, 3) := by decide +kernel
theorem dX6_curve_15 : decode cX6_curve 15 = .ok (.iload_n 2, 1) := by decide +kernel
theorem dX6_curve_16 : decode cX6_curve 16 = .ok (.invokevirtual 78, 3) := by decide +kernel
theorem dX6_curve_19 : decode cX6_curve 19 = .ok (.ifCond .eq 50, 3) := by decide +kernel
theorem dX6_curve_22 : decode cX6_curve 22 = .ok (.aload_n 0, 1) := by decide +kernel
theorem dX6_curve_23 : decode cX6_curve 23 = .ok (.getfield 10, 3) := by decide +kernel
theorem dX6_curve_26 : decode cX6_curve 26 = .ok (.iload_n 3, 1) := by decide +kernel
theorem dX6_curve_27 : decode cX6_curve 27 = .ok (.invokevirtual 78, 3) := by decide +kernel
theorem dX6_curve_30 : decode cX6_curve 30 = .ok (.ifCond .eq 39, 3) := by decide +kernel
theorem dX6_curve_33 : decode cX6_curve 33 = .ok (.aload_n 0, 1) := by decide +kernel
theorem dX6_curve_34 : decode cX6_curve 34 = .ok (.getfield 10, 3) := by decide +kernel
theorem dX6_curve_37 : decode cX6_curve 37 = .ok (.iload 4, 2) := by decide +kernel
theorem dX6_curve_39 : decode cX6_curve 39 = .ok (.invokevirtual 78, 3) := by decide +kernel
theorem dX6_curve_42 : decode cX6_curve 42 = .ok (.ifCond .eq 27, 3) := by decide +kernel
theorem dX6_curve_45 : decode cX6_curve 45 = .ok (.aload_n 0, 1) := by decide +kernel
theorem dX6_curve_46 : decode cX6_curve 46 = .ok (.getfield 10, 3) := by decide +kernel
theorem dX6_curve_49 : decode cX6_curve 49 = .ok (.iload 5, 2) := by decide +kernel
theorem dX6_curve_51 : decode cX6_curve 51 = .ok (.invokevirtual 78, 3) := by decide +kernel
theorem dX6_curve_54 : decode cX6_curve 54 = .ok (.ifCond .eq 15, 3) := by decide +kernel
theorem dX6_curve_57 : decode cX6_curve 57 = .ok (.aload_n 0, 1) := by decide +kernel
theorem dX6_curve_58 : decode cX6_curve 58 = .ok (.getfield 10, 3) := by decide +kernel
theorem dX6_curve_61 : decode cX6_curve 61 = .ok (.iload 6, 2) := by decide +kernel
theorem dX6_curve_63 : decode cX6_curve 63 = .ok (.invokevirtual 78, 3) := by decide +kernel
theorem dX6_curve_66 : decode cX6_curve 66 = .ok (.ifCond .ne 6, 3) := by decide +kernel
theorem dX6_curve_69 : decode cX6_curve 69 = .ok (.bipush (-2), 2) := by decide +kernel
theorem dX6_curve_71 : decode cX6_curve 71 = .ok (.ireturn, 1) := by decide +kernel
theorem dX6_curve_72 : decode cX6_curve 72 = .ok (.iload_n 1, 1) := by decide +kernel
theorem dX6_curve_73 : decode cX6_curve 73 = .ok (.ifCond .ne 29, 3) := by decide +kernel
theorem dX6_curve_76 : decode cX6_curve 76 = .ok (.iload_n 2, 1) := by decide +kernel
theorem dX6_curve_77 : decode cX6_curve 77 = .ok (.ifCond .ne 25, 3) := by decide +kernel
theorem dX6_curve_80 : decode cX6_curve 80 = .ok (.iload_n 3, 1) := by decide +kernel
theorem dX6_curve_81 : decode cX6_curve 81 = .ok (.ifCond .ne 21, 3) := by decide +kernel
theorem dX6_curve_84 : decode cX6_curve 84 = .ok (.iload 4, 2) := by decide +kernel
theorem dX6_curve_86 : decode cX6_curve 86 = .ok (.ifCond .ne 16, 3) := by decide +kernel
theorem dX6_curve_89 : decode cX6_curve 89 = .ok (.iload 5, 2) := by decide +kernel
theorem dX6_curve_91 : decode cX6_curve 91 = .ok (.ifCond .ne 11, 3) := by decide +kernel
theorem dX6_curve_94 : decode cX6_curve 94 = .ok (.iload 6, 2) := by decide +kernel
theorem dX6_curve_96 : decode cX6_curve 96 = .ok (.ifCond .ne 6, 3) := by decide +kernel
theorem dX6_curve_99 : decode cX6_curve 99 = .ok (.bipush (-3), 2) := by decide +kernel
theorem dX6_curve_101 : decode cX6_curve 101 = .ok (.ireturn, 1) := by decide +kernel
theorem dX6_curve_102 : decode cX6_curve 102 = .ok (.aload_n 0, 1) := by decide +kernel
theorem dX6_curve_103 : decode cX6_curve 103 = .ok (.getfield 37, 3) := by decide +kernel
theorem dX6_curve_106 : decode cX6_curve 106 = .ok (.iload_n 1, 1) := by decide +kernel
theorem dX6_curve_107 : decode cX6_curve 107 = .ok (.iload_n 2, 1) := by decide +kernel
theorem dX6_curve_108 : decode cX6_curve 108 = .ok (.iload_n 3, 1) := by decide +kernel
theorem dX6_curve_109 : decode cX6_curve 109 = .ok (.iload 4, 2) := by decide +kernel
theorem dX6_curve_111 : decode cX6_curve 111 = .ok (.iload 5, 2) := by decide +kernel
theorem dX6_curve_113 : decode cX6_curve 113 = .ok (.iload 6, 2) := by decide +kernel
theorem dX6_curve_115 : decode cX6_curve 115 = .ok (.invokevirtual 162, 3) := by decide +kernel
theorem dX6_curve_118 : decode cX6_curve 118 = .ok (.aload_n 0, 1) := by decide +kernel
theorem dX6_curve_119 : decode cX6_curve 119 = .ok (.getfield 37, 3) := by decide +kernel
theorem dX6_curve_122 : decode cX6_curve 122 = .ok (.aload_n 0, 1) := by decide +kernel
theorem dX6_curve_123 : decode cX6_curve 123 = .ok (.getfield 30, 3) := by decide +kernel
theorem dX6_curve_126 : decode cX6_curve 126 = .ok (.getfield 116, 3) := by decide +kernel
theorem dX6_curve_129 : decode cX6_curve 129 = .ok (.invokevirtual 166, 3) := by decide +kernel
theorem dX6_curve_132 : decode cX6_curve 132 = .ok (.aload_n 0, 1) := by decide +kernel
theorem dX6_curve_133 : decode cX6_curve 133 = .ok (.getfield 21, 3) := by decide +kernel
theorem dX6_curve_136 : decode cX6_curve 136 = .ok (.aload_n 0, 1) := by decide +kernel
theorem dX6_curve_137 : decode cX6_curve 137 = .ok (.getfield 30, 3) := by decide +kernel
theorem dX6_curve_140 : decode cX6_curve 140 = .ok (.getfield 116, 3) := by decide +kernel
theorem dX6_curve_143 : decode cX6_curve 143 = .ok (.invokevirtual 127, 3) := by decide +kernel
theorem dX6_curve_146 : decode cX6_curve 146 = .ok (.ireturn, 1) := by decide +kernel
set_option maxRecDepth 20000 in
theorem ggX6_through_X3_sizeOf : GoodIn wsX6_through wsX3_sizeOf := goodIn_r _ [8, 9, 120, 121, 122, 123] (by decide +kernel) (by decide +kernel)
set_option maxRecDepth 20000 in
theorem gX6_through_X3_sizeOf : GoodIn wsX6_through (wsV RX6 127 RX3 yX3_sizeOf wsX3_sizeOf) := goodIn_app (goodIn_of _ (by decide +kernel)) ggX6_through_X3_sizeOf
set_option maxRecDepth 20000 in
theorem ggX6_through_X4_mostOnLine : GoodIn wsX6_through wsX4_mostOnLine := goodIn_r _ [14, 15, 16, 17, 18, 19, 20, 21, 22, 23, 24, 7, 25, 9, 26, 27, 28, 29, 30, 31, 111, 112, 113, 114, 120, 121, 122, 123, 124, 125, 126, 127, 128] (by decide +kernel) (by decide +kernel)
set_option maxRecDepth 20000 in
theorem gX6_through_X4_mostOnLine : GoodIn wsX6_through (wsV RX6 170 RX4 yX4_mostOnLine wsX4_mostOnLine) := goodIn_app (goodIn_of _ (by decide +kernel)) ggX6_through_X4_mostOnLine
set_option maxRecDepth 20000 in
theorem ggX6_through_X0_passThrough : GoodIn wsX6_through wsX0_passThrough := goodIn_r _ [36, 37, 38, 39, 40, 41, 42, 43, 35, 44, 45, 46, 47, 48, 7, 49, 9, 50, 51, 52, 53, 54, 55, 56, 57, 58, 59, 60, 61, 62, 63, 64, 65, 66, 67, 68, 69, 70, 71, 72, 73, 74, 75, 76, 77, 78, 79, 80, 81, 82, 83, 84, 85, 86, 87, 88, 89, 90, 91, 92, 93, 94, 95, 96, 97, 98, 99, 100, 101, 102, 103, 115, 116, 117, 118, 119, 120, 121, 122, 123, 124, 125, 126, 127, 128] (by decide +kernel) (by decide +kernel)
set_option maxRecDepth 20000 in
theorem gX6_through_X0_passThrough : GoodIn wsX6_through (wsV RX6 173 RX0 yX0_passThrough wsX0_passThrough) := goodIn_app (goodIn_of _ (by decide +kernel)) ggX6_through_X0_passThrough
theorem dX6_through_0 : decode cX6_through 0 = .ok (.iload_n 1, 1) := by decide +kernel
theorem dX6_through_1 : decode cX6_through 1 = .ok (.ifCond .lt 9, 3) := by decide +kernel
theorem dX6_through_4 : decode cX6_through 4 = .ok (.iload_n 1, 1) := by decide +kernel
theorem dX6_through_5 : decode cX6_through 5 = .ok (.bipush 6, 2) := by decide +kernel
theorem dX6_through_7 : decode cX6_through 7 = .ok (.if_icmp .lt 6, 3) := by decide +kernel
theorem dX6_through_10 : decode cX6_through 10 = .ok (.bipush (-2), 2) := by decide +kernel
theorem dX6_through_12 : decode cX6_through 12 = .ok (.ireturn, 1) := by decide +kernel
theorem dX6_through_13 : decode cX6_through 13 = .ok (.aload_n 0, 1) := by decide +kernel
theorem dX6_through_14 : decode cX6_through 14 = .ok (.getfield 21, 3) := by decide +kernel
theorem dX6_through_17 : decode cX6_through 17 = .ok (.aload_n 0, 1) := by decide +kernel
theorem dX6_through_18 : decode cX6_through 18 = .ok (.getfield 30, 3) := by decide +kernel
theorem dX6_through_21 : decode cX6_through 21 = .ok (.getfield 116, 3) := by decide +kernel
theorem dX6_through_24 : decode cX6_through 24 = .ok (.invokevirtual 127, 3) := by decide +kernel
theorem dX6_through_27 : decode cX6_through 27 = .ok (.iconst 5, 1) := by decide +kernel
theorem dX6_through_28 : decode cX6_through 28 = .ok (.if_icmp .ne 14, 3) := by decide +kernel
theorem dX6_through_31 : decode cX6_through 31 = .ok (.aload_n 0, 1) := by decide +kernel
theorem dX6_through_32 : decode cX6_through 32 = .ok (.getfield 30, 3) := by decide +kernel
theorem dX6_through_35 : decode cX6_through 35 = .ok (.invokevirtual 170, 3) := by decide +kernel
theorem dX6_through_38 : decode cX6_through 38 = .ok (.iconst 3, 1) := by decide +kernel
theorem dX6_through_39 : decode cX6_through 39 = .ok (.if_icmp .le 5, 3) := by decide +kernel
theorem dX6_through_42 : decode cX6_through 42 = .ok (.iconst (-1), 1) := by decide +kernel
theorem dX6_through_43 : decode cX6_through 43 = .ok (.ireturn, 1) := by decide +kernel
theorem dX6_through_44 : decode cX6_through 44 = .ok (.aload_n 0, 1) := by decide +kernel
theorem dX6_through_45 : decode cX6_through 45 = .ok (.getfield 37, 3) := by decide +kernel
theorem dX6_through_48 : decode cX6_through 48 = .ok (.aload_n 0, 1) := by decide +kernel
theorem dX6_through_49 : decode cX6_through 49 = .ok (.getfield 30, 3) := by decide +kernel
theorem dX6_through_52 : decode cX6_through 52 = .ok (.getfield 116, 3) := by decide +kernel
theorem dX6_through_55 : decode cX6_through 55 = .ok (.invokevirtual 173, 3) := by decide +kernel
theorem dX6_through_58 : decode cX6_through 58 = .ok (.aload_n 0, 1) := by decide +kernel
theorem dX6_through_59 : decode cX6_through 59 = .ok (.getfield 37, 3) := by decide +kernel
theorem dX6_through_62 : decode cX6_through 62 = .ok (.getfield 176, 3) := by decide +kernel
theorem dX6_through_65 : decode cX6_through 65 = .ok (.iload_n 1, 1) := by decide +kernel
theorem dX6_through_66 : decode cX6_through 66 = .ok (.iaload, 1) := by decide +kernel
theorem dX6_through_67 : decode cX6_through 67 = .ok (.ireturn, 1) := by decide +kernel
set_option maxRecDepth 20000 in
theorem ggX6_entry_X1_has : GoodIn wsX6_entry wsX1_has := goodIn_r _ [7, 8, 21, 22, 23, 24, 25] (by decide +kernel) (by decide +kernel)
set_option maxRecDepth 20000 in
theorem gX6_entry_X1_has : GoodIn wsX6_entry (wsV RX6 78 RX1 yX1_has wsX1_has) := goodIn_app (goodIn_of _ (by decide +kernel)) ggX6_entry_X1_has
theorem dX6_entry_0 : decode cX6_entry 0 = .ok (.iload_n 1, 1) := by decide +kernel
theorem dX6_entry_1 : decode cX6_entry 1 = .ok (.ifCond .lt 20, 3) := by decide +kernel
theorem dX6_entry_4 : decode cX6_entry 4 = .ok (.iload_n 1, 1) := by decide +kernel
theorem dX6_entry_5 : decode cX6_entry 5 = .ok (.bipush 8, 2) := by decide +kernel
theorem dX6_entry_7 : decode cX6_entry 7 = .ok (.if_icmp .gt 14, 3) := by decide +kernel
theorem dX6_entry_10 : decode cX6_entry 10 = .ok (.aload_n 0, 1) := by decide +kernel
theorem dX6_entry_11 : decode cX6_entry 11 = .ok (.getfield 10, 3) := by decide +kernel
theorem dX6_entry_14 : decode cX6_entry 14 = .ok (.iload_n 2, 1) := by decide +kernel
theorem dX6_entry_15 : decode cX6_entry 15 = .ok (.invokevirtual 78, 3) := by decide +kernel
theorem dX6_entry_18 : decode cX6_entry 18 = .ok (.ifCond .ne 6, 3) := by decide +kernel
theorem dX6_entry_21 : decode cX6_entry 21 = .ok (.bipush (-2), 2) := by decide +kernel
theorem dX6_entry_23 : decode cX6_entry 23 = .ok (.ireturn, 1) := by decide +kernel
theorem dX6_entry_24 : decode cX6_entry 24 = .ok (.aload_n 0, 1) := by decide +kernel
theorem dX6_entry_25 : decode cX6_entry 25 = .ok (.getfield 44, 3) := by decide +kernel
theorem dX6_entry_28 : decode cX6_entry 28 = .ok (.getfield 180, 3) := by decide +kernel
theorem dX6_entry_31 : decode cX6_entry 31 = .ok (.iload_n 1, 1) := by decide +kernel
theorem dX6_entry_32 : decode cX6_entry 32 = .ok (.iaload, 1) := by decide +kernel
theorem dX6_entry_33 : decode cX6_entry 33 = .ok (.istore_n 3, 1) := by decide +kernel
theorem dX6_entry_34 : decode cX6_entry 34 = .ok (.aload_n 0, 1) := by decide +kernel
theorem dX6_entry_35 : decode cX6_entry 35 = .ok (.getfield 44, 3) := by decide +kernel
theorem dX6_entry_38 : decode cX6_entry 38 = .ok (.getfield 180, 3) := by decide +kernel
theorem dX6_entry_41 : decode cX6_entry 41 = .ok (.iload_n 1, 1) := by decide +kernel
theorem dX6_entry_42 : decode cX6_entry 42 = .ok (.iload_n 2, 1) := by decide +kernel
theorem dX6_entry_43 : decode cX6_entry 43 = .ok (.iastore, 1) := by decide +kernel
theorem dX6_entry_44 : decode cX6_entry 44 = .ok (.iload_n 3, 1) := by decide +kernel
theorem dX6_entry_45 : decode cX6_entry 45 = .ok (.ireturn, 1) := by decide +kernel
set_option maxRecDepth 20000 in
theorem ggX6_determinant_X2_det : GoodIn wsX6_determinant wsX2_det := goodIn_r _ [6, 7, 8, 9, 10, 11, 5, 12, 13, 14, 15, 16, 17, 18, 19, 20, 21, 22, 23, 24, 25, 26, 27, 28, 29, 30, 31, 32, 33, 41, 42, 43, 44, 45, 46, 47, 48, 49, 50] (by decide +kernel) (by decide +kernel)
set_option maxRecDepth 20000 in
theorem gX6_determinant_X2_det : GoodIn wsX6_determinant (wsV RX6 183 RX2 yX2_det wsX2_det) := goodIn_app (goodIn_of _ (by decide +kernel)) ggX6_determinant_X2_det
theorem dX6_determinant_0 : decode cX6_determinant 0 = .ok (.aload_n 0, 1) := by decide +kernel
theorem dX6_determinant_1 : decode cX6_determinant 1 = .ok (.getfield 44, 3) := by decide +kernel
theorem dX6_determinant_4 : decode cX6_determinant 4 = .ok (.invokevirtual 183, 3) := by decide +kernel
theorem dX6_determinant_7 : decode cX6_determinant 7 = .ok (.ireturn, 1) := by decide +kernel
set_option maxRecDepth 20000 in
theorem ggX6_image_X3_has : GoodIn wsX6_image wsX3_has := goodIn_r _ [7, 8, 54, 55, 56, 57] (by decide +kernel) (by decide +kernel)
set_option maxRecDepth 20000 in
theorem gX6_image_X3_has : GoodIn wsX6_image (wsV RX6 94 RX3 yX3_has wsX3_has) := goodIn_app (goodIn_of _ (by decide +kernel)) ggX6_image_X3_has
set_option maxRecDepth 20000 in
theorem ggX6_image_X2_goesTo : GoodIn wsX6_image wsX2_goesTo := goodIn_r _ [13, 14, 15, 16, 17, 12, 18, 19, 20, 21, 22, 23, 6, 24, 25, 26, 27, 28, 29, 30, 31, 32, 33, 34, 35, 36, 37, 38, 39, 40, 41, 42, 43, 44, 45, 46, 58, 59, 60, 61, 62, 54, 55, 56, 57, 63, 64, 65, 66, 67] (by decide +kernel) (by decide +kernel)
set_option maxRecDepth 20000 in
theorem gX6_image_X2_goesTo : GoodIn wsX6_image (wsV RX6 186 RX2 yX2_goesTo wsX2_goesTo) := goodIn_app (goodIn_of _ (by decide +kernel)) ggX6_image_X2_goesTo
theorem dX6_image_0 : decode cX6_image 0 = .ok (.aload_n 0, 1) := by decide +kernel
theorem dX6_image_1 : decode cX6_image 1 = .ok (.getfield 21, 3) := by decide +kernel
theorem dX6_image_4 : decode cX6_image 4 = .ok (.iload_n 1, 1) := by decide +kernel
theorem dX6_image_5 : decode cX6_image 5 = .ok (.invokevirtual 94, 3) := by decide +kernel
theorem dX6_image_8 : decode cX6_image 8 = .ok (.ifCond .eq 14, 3) := by decide +kernel
theorem dX6_image_11 : decode cX6_image 11 = .ok (.aload_n 0, 1) := by decide +kernel
theorem dX6_image_12 : decode cX6_image 12 = .ok (.getfield 44, 3) := by decide +kernel
theorem dX6_image_15 : decode cX6_image 15 = .ok (.iload_n 1, 1) := by decide +kernel
theorem dX6_image_16 : decode cX6_image 16 = .ok (.invokevirtual 186, 3) := by decide +kernel
theorem dX6_image_19 : decode cX6_image 19 = .ok (.goto 5, 3) := by decide +kernel
theorem dX6_image_22 : decode cX6_image 22 = .ok (.bipush (-2), 2) := by decide +kernel
theorem dX6_image_24 : decode cX6_image 24 = .ok (.ireturn, 1) := by decide +kernel
set_option maxRecDepth 20000 in
theorem ggX6_order_X2_det : GoodIn wsX6_order wsX2_det := goodIn_r _ [6, 7, 8, 9, 10, 11, 5, 12, 13, 14, 15, 16, 17, 18, 19, 20, 21, 22, 23, 24, 25, 26, 27, 28, 29, 30, 31, 32, 33, 79, 80, 81, 82, 83, 84, 85, 86, 87, 88] (by decide +kernel) (by decide +kernel)
set_option maxRecDepth 20000 in
theorem gX6_order_X2_det : GoodIn wsX6_order (wsV RX6 183 RX2 yX2_det wsX2_det) := goodIn_app (goodIn_of _ (by decide +kernel)) ggX6_order_X2_det
set_option maxRecDepth 20000 in
theorem ggX6_order_X2_period : GoodIn wsX6_order wsX2_period := goodIn_r _ [37, 38, 7, 39, 40, 41, 42, 43, 44, 45, 46, 47, 16, 48, 22, 49, 50, 51, 52, 5, 53, 54, 55, 56, 57, 8, 58, 59, 60, 61, 62, 29, 19, 20, 21, 30, 31, 32, 33, 27, 63, 64, 65, 66, 67, 68, 69, 70, 71, 79, 80, 81, 82, 83, 84, 85, 86, 87, 88, 89, 90, 91, 92] (by decide +kernel) (by decide +kernel)
set_option maxRecDepth 20000 in
theorem gX6_order_X2_period : GoodIn wsX6_order (wsV RX6 189 RX2 yX2_period wsX2_period) := goodIn_app (goodIn_of _ (by decide +kernel)) ggX6_order_X2_period
theorem dX6_order_0 : decode cX6_order 0 = .ok (.aload_n 0, 1) := by decide +kernel
theorem dX6_order_1 : decode cX6_order 1 = .ok (.getfield 44, 3) := by decide +kernel
theorem dX6_order_4 : decode cX6_order 4 = .ok (.invokevirtual 183, 3) := by decide +kernel
theorem dX6_order_7 : decode cX6_order 7 = .ok (.ifCond .ne 8, 3) := by decide +kernel
theorem dX6_order_10 : decode cX6_order 10 = .ok (.bipush (-3), 2) := by decide +kernel
theorem dX6_order_12 : decode cX6_order 12 = .ok (.goto 10, 3) := by decide +kernel
theorem dX6_order_15 : decode cX6_order 15 = .ok (.aload_n 0, 1) := by decide +kernel
theorem dX6_order_16 : decode cX6_order 16 = .ok (.getfield 44, 3) := by decide +kernel
theorem dX6_order_19 : decode cX6_order 19 = .ok (.invokevirtual 189, 3) := by decide +kernel
theorem dX6_order_22 : decode cX6_order 22 = .ok (.ireturn, 1) := by decide +kernel
set_option maxRecDepth 20000 in
theorem ggX6_fixed_X2_fixedPoints : GoodIn wsX6_fixed wsX2_fixedPoints := goodIn_r _ [6, 7, 8, 9, 10, 5, 11, 12, 13, 14, 15, 16, 17, 18, 19, 20, 21, 22, 23, 24, 25, 26, 27, 28, 29, 30, 31, 32, 33, 34, 35, 36, 37, 38, 39, 40, 41, 42, 43, 44, 52, 53, 54, 55, 56, 57, 58, 59, 60, 61, 62, 63, 64, 65] (by decide +kernel) (by decide +kernel)
set_option maxRecDepth 20000 in
theorem gX6_fixed_X2_fixedPoints : GoodIn wsX6_fixed (wsV RX6 192 RX2 yX2_fixedPoints wsX2_fixedPoints) := goodIn_app (goodIn_of _ (by decide +kernel)) ggX6_fixed_X2_fixedPoints
theorem dX6_fixed_0 : decode cX6_fixed 0 = .ok (.aload_n 0, 1) := by decide +kernel
theorem dX6_fixed_1 : decode cX6_fixed 1 = .ok (.getfield 44, 3) := by decide +kernel
theorem dX6_fixed_4 : decode cX6_fixed 4 = .ok (.invokevirtual 192, 3) := by decide +kernel
theorem dX6_fixed_7 : decode cX6_fixed 7 = .ok (.ireturn, 1) := by decide +kernel
set_option maxRecDepth 20000 in
theorem ggX6_invert_X2_det : GoodIn wsX6_invert wsX2_det := goodIn_r _ [6, 7, 8, 9, 10, 11, 5, 12, 13, 14, 15, 16, 17, 18, 19, 20, 21, 22, 23, 24, 25, 26, 27, 28, 29, 30, 31, 32, 33, 58, 59, 60, 61, 62, 63, 64, 65, 66, 67] (by decide +kernel) (by decide +kernel)
set_option maxRecDepth 20000 in
theorem gX6_invert_X2_det : GoodIn wsX6_invert (wsV RX6 183 RX2 yX2_det wsX2_det) := goodIn_app (goodIn_of _ (by decide +kernel)) ggX6_invert_X2_det
set_option maxRecDepth 20000 in
theorem ggX6_invert_X2_turnBack : GoodIn wsX6_invert wsX2_turnBack := goodIn_r _ [37, 38, 9, 10, 11, 5, 12, 7, 8, 13, 14, 15, 16, 17, 18, 19, 20, 21, 22, 23, 24, 25, 26, 27, 28, 39, 40, 41, 42, 43, 44, 45, 46, 47, 48, 49, 50, 58, 59, 60, 61, 62, 63, 64, 65, 66, 67] (by decide +kernel) (by decide +kernel)
set_option maxRecDepth 20000 in
theorem gX6_invert_X2_turnBack : GoodIn wsX6_invert (wsV RX6 195 RX2 yX2_turnBack wsX2_turnBack) := goodIn_app (goodIn_of _ (by decide +kernel)) ggX6_invert_X2_turnBack
theorem dX6_invert_0 : decode cX6_invert 0 = .ok (.aload_n 0, 1) := by decide +kernel
theorem dX6_invert_1 : decode cX6_invert 1 = .ok (.getfield 44, 3) := by decide +kernel
theorem dX6_invert_4 : decode cX6_invert 4 = .ok (.invokevirtual 183, 3) := by decide +kernel
theorem dX6_invert_7 : decode cX6_invert 7 = .ok (.ifCond .ne 6, 3) := by decide +kernel
theorem dX6_invert_10 : decode cX6_invert 10 = .ok (.bipush (-3), 2) := by decide +kernel
theorem dX6_invert_12 : decode cX6_invert 12 = .ok (.ireturn, 1) := by decide +kernel
theorem dX6_invert_13 : decode cX6_invert 13 = .ok (.aload_n 0, 1) := by decide +kernel
theorem dX6_invert_14 : decode cX6_invert 14 = .ok (.getfield 44, 3) := by decide +kernel
theorem dX6_invert_17 : decode cX6_invert 17 = .ok (.invokevirtual 195, 3) := by decide +kernel
theorem dX6_invert_20 : decode cX6_invert 20 = .ok (.iconst 1, 1) := by decide +kernel
theorem dX6_invert_21 : decode cX6_invert 21 = .ok (.ireturn, 1) := by decide +kernel
set_option maxRecDepth 20000 in
theorem ggX6_move_X2_carry : GoodIn wsX6_move wsX2_carry := goodIn_r _ [8, 9, 10, 11, 12, 13, 7, 14, 15, 16, 17, 18, 19, 20, 21, 22, 23, 24, 25, 26, 27, 28, 29, 30, 31, 32, 33, 34, 35, 36, 37, 38, 39, 40, 41, 42, 43, 44, 45, 46, 47, 64, 65, 66, 67, 68, 69, 70, 71, 72, 73, 74, 75, 76, 77] (by decide +kernel) (by decide +kernel)
set_option maxRecDepth 20000 in
theorem gX6_move_X2_carry : GoodIn wsX6_move (wsV RX6 198 RX2 yX2_carry wsX2_carry) := goodIn_app (goodIn_of _ (by decide +kernel)) ggX6_move_X2_carry
set_option maxRecDepth 20000 in
theorem ggX6_move_X3_sizeOf : GoodIn wsX6_move wsX3_sizeOf := goodIn_r _ [51, 52, 69, 70, 71, 72] (by decide +kernel) (by decide +kernel)
set_option maxRecDepth 20000 in
theorem gX6_move_X3_sizeOf : GoodIn wsX6_move (wsV RX6 127 RX3 yX3_sizeOf wsX3_sizeOf) := goodIn_app (goodIn_of _ (by decide +kernel)) ggX6_move_X3_sizeOf
theorem dX6_move_0 : decode cX6_move 0 = .ok (.aload_n 0, 1) := by decide +kernel
theorem dX6_move_1 : decode cX6_move 1 = .ok (.getfield 44, 3) := by decide +kernel
theorem dX6_move_4 : decode cX6_move 4 = .ok (.aload_n 0, 1) := by decide +kernel
theorem dX6_move_5 : decode cX6_move 5 = .ok (.getfield 30, 3) := by decide +kernel
theorem dX6_move_8 : decode cX6_move 8 = .ok (.getfield 116, 3) := by decide +kernel
theorem dX6_move_11 : decode cX6_move 11 = .ok (.invokevirtual 198, 3) := by decide +kernel
theorem dX6_move_14 : decode cX6_move 14 = .ok (.aload_n 0, 1) := by decide +kernel
theorem dX6_move_15 : decode cX6_move 15 = .ok (.getfield 21, 3) := by decide +kernel
theorem dX6_move_18 : decode cX6_move 18 = .ok (.aload_n 0, 1) := by decide +kernel
theorem dX6_move_19 : decode cX6_move 19 = .ok (.getfield 30, 3) := by decide +kernel
theorem dX6_move_22 : decode cX6_move 22 = .ok (.getfield 116, 3) := by decide +kernel
theorem dX6_move_25 : decode cX6_move 25 = .ok (.invokevirtual 127, 3) := by decide +kernel
theorem dX6_move_28 : decode cX6_move 28 = .ok (.ireturn, 1) := by decide +kernel
set_option maxRecDepth 20000 in
theorem ggX6_frame_X3_hasFour : GoodIn wsX6_frame wsX3_hasFour := goodIn_r _ [7, 8, 9, 10, 6, 11, 12, 87, 88, 89, 90] (by decide +kernel) (by decide +kernel)
set_option maxRecDepth 20000 in
theorem gX6_frame_X3_hasFour : GoodIn wsX6_frame (wsV RX6 201 RX3 yX3_hasFour wsX3_hasFour) := goodIn_app (goodIn_of _ (by decide +kernel)) ggX6_frame_X3_hasFour
set_option maxRecDepth 20000 in
theorem ggX6_frame_X3_isFrame : GoodIn wsX6_frame wsX3_isFrame := goodIn_r _ [16, 17, 18, 19, 6, 20, 21, 22, 23, 24, 25, 26, 27, 28, 29, 30, 31, 32, 33, 34, 35, 36, 37, 38, 39, 40, 41, 42, 43, 44, 45, 46, 47, 48, 49, 50, 51, 87, 88, 89, 90, 91, 92, 93, 94, 95] (by decide +kernel) (by decide +kernel)
set_option maxRecDepth 20000 in
theorem gX6_frame_X3_isFrame : GoodIn wsX6_frame (wsV RX6 205 RX3 yX3_isFrame wsX3_isFrame) := goodIn_app (goodIn_of _ (by decide +kernel)) ggX6_frame_X3_isFrame
set_option maxRecDepth 20000 in
theorem ggX6_frame_X2_takeFrame : GoodIn wsX6_frame wsX2_takeFrame := goodIn_r _ [56, 57, 58, 18, 19, 6, 20, 21, 22, 23, 24, 25, 26, 27, 28, 29, 30, 31, 32, 33, 34, 35, 36, 37, 38, 39, 40, 41, 42, 43, 44, 45, 46, 47, 48, 49, 50, 51, 59, 60, 61, 55, 62, 63, 64, 65, 66, 67, 68, 69, 70, 71, 72, 73, 74, 75, 76, 77, 78, 79, 96, 97, 98, 99, 100, 87, 88, 89, 90, 91, 92, 93, 94, 95] (by decide +kernel) (by decide +kernel)
set_option maxRecDepth 20000 in
theorem gX6_frame_X2_takeFrame : GoodIn wsX6_frame (wsV RX6 208 RX2 yX2_takeFrame wsX2_takeFrame) := goodIn_app (goodIn_of _ (by decide +kernel)) ggX6_frame_X2_takeFrame
theorem dX6_frame_0 : decode cX6_frame 0 = .ok (.aload_n 0, 1) := by decide +kernel
theorem dX6_frame_1 : decode cX6_frame 1 = .ok (.getfield 21, 3) := by decide +kernel
theorem dX6_frame_4 : decode cX6_frame 4 = .ok (.iload_n 1, 1) := by decide +kernel
theorem dX6_frame_5 : decode cX6_frame 5 = .ok (.iload_n 2, 1) := by decide +kernel
theorem dX6_frame_6 : decode cX6_frame 6 = .ok (.iload_n 3, 1) := by decide +kernel
theorem dX6_frame_7 : decode cX6_frame 7 = .ok (.iload 4, 2) := by decide +kernel
theorem dX6_frame_9 : decode cX6_frame 9 = .ok (.invokevirtual 201, 3) := by decide +kernel
theorem dX6_frame_12 : decode cX6_frame 12 = .ok (.ifCond .ne 6, 3) := by decide +kernel
theorem dX6_frame_15 : decode cX6_frame 15 = .ok (.bipush (-2), 2) := by decide +kernel
theorem dX6_frame_17 : decode cX6_frame 17 = .ok (.ireturn, 1) := by decide +kernel
theorem dX6_frame_18 : decode cX6_frame 18 = .ok (.aload_n 0, 1) := by decide +kernel
theorem dX6_frame_19 : decode cX6_frame 19 = .ok (.getfield 21, 3) := by decide +kernel
theorem dX6_frame_22 : decode cX6_frame 22 = .ok (.iload_n 1, 1) := by decide +kernel
theorem dX6_frame_23 : decode cX6_frame 23 = .ok (.iload_n 2, 1) := by decide +kernel
theorem dX6_frame_24 : decode cX6_frame 24 = .ok (.iload_n 3, 1) := by decide +kernel
theorem dX6_frame_25 : decode cX6_frame 25 = .ok (.iload 4, 2) := by decide +kernel
theorem dX6_frame_27 : decode cX6_frame 27 = .ok (.invokevirtual 205, 3) := by decide +kernel
theorem dX6_frame_30 : decode cX6_frame 30 = .ok (.ifCond .ne 5, 3) := by decide +kernel
theorem dX6_frame_33 : decode cX6_frame 33 = .ok (.iconst (-1), 1) := by decide +kernel
theorem dX6_frame_34 : decode cX6_frame 34 = .ok (.ireturn, 1) := by decide +kernel
theorem dX6_frame_35 : decode cX6_frame 35 = .ok (.aload_n 0, 1) := by decide +kernel
theorem dX6_frame_36 : decode cX6_frame 36 = .ok (.getfield 44, 3) := by decide +kernel
theorem dX6_frame_39 : decode cX6_frame 39 = .ok (.iload_n 1, 1) := by decide +kernel
theorem dX6_frame_40 : decode cX6_frame 40 = .ok (.iload_n 2, 1) := by decide +kernel
theorem dX6_frame_41 : decode cX6_frame 41 = .ok (.iload_n 3, 1) := by decide +kernel
theorem dX6_frame_42 : decode cX6_frame 42 = .ok (.iload 4, 2) := by decide +kernel
theorem dX6_frame_44 : decode cX6_frame 44 = .ok (.invokevirtual 208, 3) := by decide +kernel
theorem dX6_frame_47 : decode cX6_frame 47 = .ok (.iconst 1, 1) := by decide +kernel
theorem dX6_frame_48 : decode cX6_frame 48 = .ok (.ireturn, 1) := by decide +kernel
set_option maxRecDepth 20000 in
theorem ggX6_behind_X3_hasFour : GoodIn wsX6_behind wsX3_hasFour := goodIn_r _ [8, 9, 10, 11, 7, 12, 13, 102, 103, 104, 105] (by decide +kernel) (by decide +kernel)
set_option maxRecDepth 20000 in
theorem gX6_behind_X3_hasFour : GoodIn wsX6_behind (wsV RX6 201 RX3 yX3_hasFour wsX3_hasFour) := goodIn_app (goodIn_of _ (by decide +kernel)) ggX6_behind_X3_hasFour
set_option maxRecDepth 20000 in
theorem ggX6_behind_X3_isFrame : GoodIn wsX6_behind wsX3_isFrame := goodIn_r _ [17, 18, 19, 20, 7, 21, 22, 23, 24, 25, 26, 27, 28, 29, 30, 31, 32, 33, 34, 35, 36, 37, 38, 39, 40, 41, 42, 43, 44, 45, 46, 47, 48, 49, 50, 51, 52, 102, 103, 104, 105, 106, 107, 108, 109, 110] (by decide +kernel) (by decide +kernel)
set_option maxRecDepth 20000 in
theorem gX6_behind_X3_isFrame : GoodIn wsX6_behind (wsV RX6 205 RX3 yX3_isFrame wsX3_isFrame) := goodIn_app (goodIn_of _ (by decide +kernel)) ggX6_behind_X3_isFrame
set_option maxRecDepth 20000 in
theorem ggX6_behind_X2_det : GoodIn wsX6_behind wsX2_det := goodIn_r _ [57, 58, 59, 60, 61, 62, 56, 63, 64, 33, 34, 35, 36, 37, 38, 39, 40, 41, 42, 43, 44, 45, 46, 47, 65, 66, 50, 51, 52, 111, 112, 113, 114, 115, 106, 107, 108, 109, 110] (by decide +kernel) (by decide +kernel)
set_option maxRecDepth 20000 in
theorem gX6_behind_X2_det : GoodIn wsX6_behind (wsV RX6 183 RX2 yX2_det wsX2_det) := goodIn_app (goodIn_of _ (by decide +kernel)) ggX6_behind_X2_det
set_option maxRecDepth 20000 in
theorem ggX6_behind_X2_takeFrame : GoodIn wsX6_behind wsX2_takeFrame := goodIn_r _ [70, 71, 72, 19, 20, 7, 21, 22, 23, 24, 25, 26, 27, 28, 29, 30, 31, 32, 33, 34, 35, 36, 37, 38, 39, 40, 41, 42, 43, 44, 45, 46, 47, 48, 49, 50, 51, 52, 73, 74, 75, 56, 76, 77, 58, 78, 65, 79, 80, 81, 82, 59, 83, 84, 85, 86, 87, 88, 89, 90, 111, 112, 113, 114, 115, 102, 103, 104, 105, 106, 107, 108, 109, 110] (by decide +kernel) (by decide +kernel)
set_option maxRecDepth 20000 in
theorem gX6_behind_X2_takeFrame : GoodIn wsX6_behind (wsV RX6 208 RX2 yX2_takeFrame wsX2_takeFrame) := goodIn_app (goodIn_of _ (by decide +kernel)) ggX6_behind_X2_takeFrame
set_option maxRecDepth 20000 in
theorem ggX6_behind_X2_goBehind : GoodIn wsX6_behind wsX2_goBehind := goodIn_r _ [94, 58, 59, 77, 65, 38, 39, 35, 40, 41, 66, 50, 51, 52, 46, 79, 80, 81, 56, 82, 83, 84, 85, 86, 87, 88, 89, 90, 111, 112, 113, 114, 115, 106, 107, 108, 109, 110] (by decide +kernel) (by decide +kernel)
set_option maxRecDepth 20000 in
theorem gX6_behind_X2_goBehind : GoodIn wsX6_behind (wsV RX6 212 RX2 yX2_goBehind wsX2_goBehind) := goodIn_app (goodIn_of _ (by decide +kernel)) ggX6_behind_X2_goBehind
theorem dX6_behind_0 : decode cX6_behind 0 = .ok (.aload_n 0, 1) := by decide +kernel
theorem dX6_behind_1 : decode cX6_behind 1 = .ok (.getfield 21, 3) := by decide +kernel
theorem dX6_behind_4 : decode cX6_behind 4 = .ok (.iload_n 1, 1) := by decide +kernel
theorem dX6_behind_5 : decode cX6_behind 5 = .ok (.iload_n 2, 1) := by decide +kernel
theorem dX6_behind_6 : decode cX6_behind 6 = .ok (.iload_n 3, 1) := by decide +kernel
theorem dX6_behind_7 : decode cX6_behind 7 = .ok (.iload 4, 2) := by decide +kernel
theorem dX6_behind_9 : decode cX6_behind 9 = .ok (.invokevirtual 201, 3) := by decide +kernel
theorem dX6_behind_12 : decode cX6_behind 12 = .ok (.ifCond .ne 6, 3) := by decide +kernel
theorem dX6_behind_15 : decode cX6_behind 15 = .ok (.bipush (-2), 2) := by decide +kernel
theorem dX6_behind_17 : decode cX6_behind 17 = .ok (.ireturn, 1) := by decide +kernel
theorem dX6_behind_18 : decode cX6_behind 18 = .ok (.aload_n 0, 1) := by decide +kernel
theorem dX6_behind_19 : decode cX6_behind 19 = .ok (.getfield 21, 3) := by decide +kernel
theorem dX6_behind_22 : decode cX6_behind 22 = .ok (.iload_n 1, 1) := by decide +kernel
theorem dX6_behind_23 : decode cX6_behind 23 = .ok (.iload_n 2, 1) := by decide +kernel
theorem dX6_behind_24 : decode cX6_behind 24 = .ok (.iload_n 3, 1) := by decide +kernel
theorem dX6_behind_25 : decode cX6_behind 25 = .ok (.iload 4, 2) := by decide +kernel
theorem dX6_behind_27 : decode cX6_behind 27 = .ok (.invokevirtual 205, 3) := by decide +kernel
theorem dX6_behind_30 : decode cX6_behind 30 = .ok (.ifCond .ne 5, 3) := by decide +kernel
theorem dX6_behind_33 : decode cX6_behind 33 = .ok (.iconst (-1), 1) := by decide +kernel
theorem dX6_behind_34 : decode cX6_behind 34 = .ok (.ireturn, 1) := by decide +kernel
theorem dX6_behind_35 : decode cX6_behind 35 = .ok (.aload_n 0, 1) := by decide +kernel
theorem dX6_behind_36 : decode cX6_behind 36 = .ok (.getfield 44, 3) := by decide +kernel
theorem dX6_behind_39 : decode cX6_behind 39 = .ok (.invokevirtual 183, 3) := by decide +kernel
theorem dX6_behind_42 : decode cX6_behind 42 = .ok (.ifCond .ne 6, 3) := by decide +kernel
theorem dX6_behind_45 : decode cX6_behind 45 = .ok (.bipush (-3), 2) := by decide +kernel
theorem dX6_behind_47 : decode cX6_behind 47 = .ok (.ireturn, 1) := by decide +kernel
theorem dX6_behind_48 : decode cX6_behind 48 = .ok (.aload_n 0, 1) := by decide +kernel
theorem dX6_behind_49 : decode cX6_behind 49 = .ok (.getfield 48, 3) := by decide +kernel
theorem dX6_behind_52 : decode cX6_behind 52 = .ok (.iload_n 1, 1) := by decide +kernel
theorem dX6_behind_53 : decode cX6_behind 53 = .ok (.iload_n 2, 1) := by decide +kernel
theorem dX6_behind_54 : decode cX6_behind 54 = .ok (.iload_n 3, 1) := by decide +kernel
theorem dX6_behind_55 : decode cX6_behind 55 = .ok (.iload 4, 2) := by decide +kernel
theorem dX6_behind_57 : decode cX6_behind 57 = .ok (.invokevirtual 208, 3) := by decide +kernel
theorem dX6_behind_60 : decode cX6_behind 60 = .ok (.aload_n 0, 1) := by decide +kernel
theorem dX6_behind_61 : decode cX6_behind 61 = .ok (.getfield 44, 3) := by decide +kernel
theorem dX6_behind_64 : decode cX6_behind 64 = .ok (.aload_n 0, 1) := by decide +kernel
theorem dX6_behind_65 : decode cX6_behind 65 = .ok (.getfield 48, 3) := by decide +kernel
theorem dX6_behind_68 : decode cX6_behind 68 = .ok (.invokevirtual 212, 3) := by decide +kernel
theorem dX6_behind_71 : decode cX6_behind 71 = .ok (.iconst 1, 1) := by decide +kernel
theorem dX6_behind_72 : decode cX6_behind 72 = .ok (.ireturn, 1) := by decide +kernel
set_option maxRecDepth 20000 in
theorem ggX6_ratio_X3_hasFour : GoodIn wsX6_ratio wsX3_hasFour := goodIn_r _ [6, 7, 8, 9, 5, 10, 11, 63, 64, 65, 66] (by decide +kernel) (by decide +kernel)
set_option maxRecDepth 20000 in
theorem gX6_ratio_X3_hasFour : GoodIn wsX6_ratio (wsV RX6 201 RX3 yX3_hasFour wsX3_hasFour) := goodIn_app (goodIn_of _ (by decide +kernel)) ggX6_ratio_X3_hasFour
set_option maxRecDepth 20000 in
theorem ggX6_ratio_X3_det : GoodIn wsX6_ratio wsX3_det := goodIn_r _ [15, 16, 17, 18, 19, 5, 20, 21, 22, 23, 24, 25, 26, 27, 28, 29, 30, 31, 32, 33, 34, 35, 36, 37, 38, 39, 40, 41, 42, 43, 44, 45, 46, 63, 64, 65, 66, 67, 68, 69, 70, 71] (by decide +kernel) (by decide +kernel)
set_option maxRecDepth 20000 in
theorem gX6_ratio_X3_det : GoodIn wsX6_ratio (wsV RX6 216 RX3 yX3_det wsX3_det) := goodIn_app (goodIn_of _ (by decide +kernel)) ggX6_ratio_X3_det
set_option maxRecDepth 20000 in
theorem ggX6_ratio_X3_ratioOf : GoodIn wsX6_ratio wsX3_ratioOf := goodIn_r _ [50, 16, 22, 23, 24, 5, 25, 17, 18, 19, 20, 21, 26, 27, 28, 29, 30, 31, 32, 33, 34, 35, 36, 37, 38, 39, 40, 41, 42, 51, 52, 53, 54, 55, 63, 64, 65, 66, 67, 68, 69, 70, 71] (by decide +kernel) (by decide +kernel)
set_option maxRecDepth 20000 in
theorem gX6_ratio_X3_ratioOf : GoodIn wsX6_ratio (wsV RX6 218 RX3 yX3_ratioOf wsX3_ratioOf) := goodIn_app (goodIn_of _ (by decide +kernel)) ggX6_ratio_X3_ratioOf
theorem dX6_ratio_0 : decode cX6_ratio 0 = .ok (.aload_n 0, 1) := by decide +kernel
theorem dX6_ratio_1 : decode cX6_ratio 1 = .ok (.getfield 21, 3) := by decide +kernel
theorem dX6_ratio_4 : decode cX6_ratio 4 = .ok (.iload_n 1, 1) := by decide +kernel
theorem dX6_ratio_5 : decode cX6_ratio 5 = .ok (.iload_n 2, 1) := by decide +kernel
theorem dX6_ratio_6 : decode cX6_ratio 6 = .ok (.iload_n 3, 1) := by decide +kernel
theorem dX6_ratio_7 : decode cX6_ratio 7 = .ok (.iload 4, 2) := by decide +kernel
theorem dX6_ratio_9 : decode cX6_ratio 9 = .ok (.invokevirtual 201, 3) := by decide +kernel
theorem dX6_ratio_12 : decode cX6_ratio 12 = .ok (.ifCond .ne 6, 3) := by decide +kernel
theorem dX6_ratio_15 : decode cX6_ratio 15 = .ok (.bipush (-2), 2) := by decide +kernel
theorem dX6_ratio_17 : decode cX6_ratio 17 = .ok (.ireturn, 1) := by decide +kernel
theorem dX6_ratio_18 : decode cX6_ratio 18 = .ok (.iload_n 1, 1) := by decide +kernel
theorem dX6_ratio_19 : decode cX6_ratio 19 = .ok (.iload_n 2, 1) := by decide +kernel
theorem dX6_ratio_20 : decode cX6_ratio 20 = .ok (.if_icmp .eq 40, 3) := by decide +kernel
theorem dX6_ratio_23 : decode cX6_ratio 23 = .ok (.iload_n 1, 1) := by decide +kernel
theorem dX6_ratio_24 : decode cX6_ratio 24 = .ok (.iload_n 3, 1) := by decide +kernel
theorem dX6_ratio_25 : decode cX6_ratio 25 = .ok (.if_icmp .eq 35, 3) := by decide +kernel
theorem dX6_ratio_28 : decode cX6_ratio 28 = .ok (.iload_n 2, 1) := by decide +kernel
theorem dX6_ratio_29 : decode cX6_ratio 29 = .ok (.iload_n 3, 1) := by decide +kernel
theorem dX6_ratio_30 : decode cX6_ratio 30 = .ok (.if_icmp .eq 30, 3) := by decide +kernel
theorem dX6_ratio_33 : decode cX6_ratio 33 = .ok (.aload_n 0, 1) := by decide +kernel
theorem dX6_ratio_34 : decode cX6_ratio 34 = .ok (.getfield 21, 3) := by decide +kernel
theorem dX6_ratio_37 : decode cX6_ratio 37 = .ok (.iload_n 1, 1) := by decide +kernel
theorem dX6_ratio_38 : decode cX6_ratio 38 = .ok (.iload_n 2, 1) := by decide +kernel
theorem dX6_ratio_39 : decode cX6_ratio 39 = .ok (.iload_n 3, 1) := by decide +kernel
theorem dX6_ratio_40 : decode cX6_ratio 40 = .ok (.invokevirtual 216, 3) := by decide +kernel
theorem dX6_ratio_43 : decode cX6_ratio 43 = .ok (.ifCond .ne 17, 3) := by decide +kernel
theorem dX6_ratio_46 : decode cX6_ratio 46 = .ok (.aload_n 0, 1) := by decide +kernel
theorem dX6_ratio_47 : decode cX6_ratio 47 = .ok (.getfield 21, 3) := by decide +kernel
theorem dX6_ratio_50 : decode cX6_ratio 50 = .ok (.iload_n 1, 1) := by decide +kernel
theorem dX6_ratio_51 : decode cX6_ratio 51 = .ok (.iload_n 2, 1) := by decide +kernel
theorem dX6_ratio_52 : decode cX6_ratio 52 = .ok (.iload 4, 2) := by decide +kernel
theorem dX6_ratio_54 : decode cX6_ratio 54 = .ok (.invokevirtual 216, 3) := by decide +kernel
theorem dX6_ratio_57 : decode cX6_ratio 57 = .ok (.ifCond .eq 5, 3) := by decide +kernel
theorem dX6_ratio_60 : decode cX6_ratio 60 = .ok (.iconst (-1), 1) := by decide +kernel
theorem dX6_ratio_61 : decode cX6_ratio 61 = .ok (.ireturn, 1) := by decide +kernel
theorem dX6_ratio_62 : decode cX6_ratio 62 = .ok (.aload_n 0, 1) := by decide +kernel
theorem dX6_ratio_63 : decode cX6_ratio 63 = .ok (.getfield 21, 3) := by decide +kernel
theorem dX6_ratio_66 : decode cX6_ratio 66 = .ok (.iload_n 1, 1) := by decide +kernel
theorem dX6_ratio_67 : decode cX6_ratio 67 = .ok (.iload_n 2, 1) := by decide +kernel
theorem dX6_ratio_68 : decode cX6_ratio 68 = .ok (.iload_n 3, 1) := by decide +kernel
theorem dX6_ratio_69 : decode cX6_ratio 69 = .ok (.iload 4, 2) := by decide +kernel
theorem dX6_ratio_71 : decode cX6_ratio 71 = .ok (.invokevirtual 218, 3) := by decide +kernel
theorem dX6_ratio_74 : decode cX6_ratio 74 = .ok (.ireturn, 1) := by decide +kernel
set_option maxRecDepth 20000 in
theorem ggX6_table_X5_empty : GoodIn wsX6_table wsX5_empty := goodIn_r _ [6, 7, 8, 16, 17] (by decide +kernel) (by decide +kernel)
set_option maxRecDepth 20000 in
theorem gX6_table_X5_empty : GoodIn wsX6_table (wsV RX6 222 RX5 yX5_empty wsX5_empty) := goodIn_app (goodIn_of _ (by decide +kernel)) ggX6_table_X5_empty
theorem dX6_table_0 : decode cX6_table 0 = .ok (.iload_n 1, 1) := by decide +kernel
theorem dX6_table_1 : decode cX6_table 1 = .ok (.iconst 1, 1) := by decide +kernel
theorem dX6_table_2 : decode cX6_table 2 = .ok (.if_icmp .lt 9, 3) := by decide +kernel
theorem dX6_table_5 : decode cX6_table 5 = .ok (.iload_n 1, 1) := by decide +kernel
theorem dX6_table_6 : decode cX6_table 6 = .ok (.bipush 13, 2) := by decide +kernel
theorem dX6_table_8 : decode cX6_table 8 = .ok (.if_icmp .le 6, 3) := by decide +kernel
theorem dX6_table_11 : decode cX6_table 11 = .ok (.bipush (-2), 2) := by decide +kernel
theorem dX6_table_13 : decode cX6_table 13 = .ok (.ireturn, 1) := by decide +kernel
theorem dX6_table_14 : decode cX6_table 14 = .ok (.aload_n 0, 1) := by decide +kernel
theorem dX6_table_15 : decode cX6_table 15 = .ok (.getfield 54, 3) := by decide +kernel
theorem dX6_table_18 : decode cX6_table 18 = .ok (.getfield 142, 3) := by decide +kernel
theorem dX6_table_21 : decode cX6_table 21 = .ok (.istore_n 2, 1) := by decide +kernel
theorem dX6_table_22 : decode cX6_table 22 = .ok (.aload_n 0, 1) := by decide +kernel
theorem dX6_table_23 : decode cX6_table 23 = .ok (.getfield 54, 3) := by decide +kernel
theorem dX6_table_26 : decode cX6_table 26 = .ok (.iload_n 1, 1) := by decide +kernel
theorem dX6_table_27 : decode cX6_table 27 = .ok (.invokevirtual 222, 3) := by decide +kernel
theorem dX6_table_30 : decode cX6_table 30 = .ok (.iload_n 2, 1) := by decide +kernel
theorem dX6_table_31 : decode cX6_table 31 = .ok (.ireturn, 1) := by decide +kernel
set_option maxRecDepth 20000 in
theorem ggX6_mark_X5_has : GoodIn wsX6_mark wsX5_has := goodIn_r _ [6, 7, 28, 29] (by decide +kernel) (by decide +kernel)
set_option maxRecDepth 20000 in
theorem gX6_mark_X5_has : GoodIn wsX6_mark (wsV RX6 225 RX5 yX5_has wsX5_has) := goodIn_app (goodIn_of _ (by decide +kernel)) ggX6_mark_X5_has
set_option maxRecDepth 20000 in
theorem ggX6_mark_X5_isMarked : GoodIn wsX6_mark wsX5_isMarked := goodIn_r _ [11, 12, 28, 29] (by decide +kernel) (by decide +kernel)
set_option maxRecDepth 20000 in
theorem gX6_mark_X5_isMarked : GoodIn wsX6_mark (wsV RX6 226 RX5 yX5_isMarked wsX5_isMarked) := goodIn_app (goodIn_of _ (by decide +kernel)) ggX6_mark_X5_isMarked
set_option maxRecDepth 20000 in
theorem ggX6_mark_X6_bit : GoodIn wsX6_mark wsX6_bit := goodIn_r _ [16] (by decide +kernel) (by decide +kernel)
set_option maxRecDepth 20000 in
theorem gX6_mark_X6_bit : GoodIn wsX6_mark (va_wsS RX6 106 yX6_bit wsX6_bit) := goodIn_app (goodIn_of _ (by decide +kernel)) ggX6_mark_X6_bit
set_option maxRecDepth 20000 in
theorem ggX6_mark_X5_setMark : GoodIn wsX6_mark wsX5_setMark := goodIn_r _ [20, 12, 28, 29] (by decide +kernel) (by decide +kernel)
set_option maxRecDepth 20000 in
theorem gX6_mark_X5_setMark : GoodIn wsX6_mark (wsV RX6 229 RX5 yX5_setMark wsX5_setMark) := goodIn_app (goodIn_of _ (by decide +kernel)) ggX6_mark_X5_setMark
theorem dX6_mark_0 : decode cX6_mark 0 = .ok (.aload_n 0, 1) := by decide +kernel
theorem dX6_mark_1 : decode cX6_mark 1 = .ok (.getfield 54, 3) := by decide +kernel
theorem dX6_mark_4 : decode cX6_mark 4 = .ok (.iload_n 1, 1) := by decide +kernel
theorem dX6_mark_5 : decode cX6_mark 5 = .ok (.invokevirtual 225, 3) := by decide +kernel
theorem dX6_mark_8 : decode cX6_mark 8 = .ok (.ifCond .eq 14, 3) := by decide +kernel
theorem dX6_mark_11 : decode cX6_mark 11 = .ok (.aload_n 0, 1) := by decide +kernel
theorem dX6_mark_12 : decode cX6_mark 12 = .ok (.getfield 54, 3) := by decide +kernel
theorem dX6_mark_15 : decode cX6_mark 15 = .ok (.iload_n 2, 1) := by decide +kernel
theorem dX6_mark_16 : decode cX6_mark 16 = .ok (.invokevirtual 225, 3) := by decide +kernel
theorem dX6_mark_19 : decode cX6_mark 19 = .ok (.ifCond .ne 6, 3) := by decide +kernel
theorem dX6_mark_22 : decode cX6_mark 22 = .ok (.bipush (-2), 2) := by decide +kernel
theorem dX6_mark_24 : decode cX6_mark 24 = .ok (.ireturn, 1) := by decide +kernel
theorem dX6_mark_25 : decode cX6_mark 25 = .ok (.aload_n 0, 1) := by decide +kernel
theorem dX6_mark_26 : decode cX6_mark 26 = .ok (.getfield 54, 3) := by decide +kernel
theorem dX6_mark_29 : decode cX6_mark 29 = .ok (.iload_n 1, 1) := by decide +kernel
theorem dX6_mark_30 : decode cX6_mark 30 = .ok (.iload_n 2, 1) := by decide +kernel
theorem dX6_mark_31 : decode cX6_mark 31 = .ok (.invokevirtual 226, 3) := by decide +kernel
theorem dX6_mark_34 : decode cX6_mark 34 = .ok (.invokestatic 106, 3) := by decide +kernel
theorem dX6_mark_37 : decode cX6_mark 37 = .ok (.istore 4, 2) := by decide +kernel
theorem dX6_mark_39 : decode cX6_mark 39 = .ok (.aload_n 0, 1) := by decide +kernel
theorem dX6_mark_40 : decode cX6_mark 40 = .ok (.getfield 54, 3) := by decide +kernel
theorem dX6_mark_43 : decode cX6_mark 43 = .ok (.iload_n 1, 1) := by decide +kernel
theorem dX6_mark_44 : decode cX6_mark 44 = .ok (.iload_n 2, 1) := by decide +kernel
theorem dX6_mark_45 : decode cX6_mark 45 = .ok (.iload_n 3, 1) := by decide +kernel
theorem dX6_mark_46 : decode cX6_mark 46 = .ok (.invokevirtual 229, 3) := by decide +kernel
theorem dX6_mark_49 : decode cX6_mark 49 = .ok (.iload 4, 2) := by decide +kernel
theorem dX6_mark_51 : decode cX6_mark 51 = .ok (.ireturn, 1) := by decide +kernel
set_option maxRecDepth 20000 in
theorem ggX6_flaw_X5_firstFlaw : GoodIn wsX6_flaw wsX5_firstFlaw := goodIn_r _ [6, 7, 8, 9, 10, 11, 12, 13, 14, 15, 16, 17, 18, 5, 19, 20, 21, 22, 23, 24, 25, 26, 27, 35, 36] (by decide +kernel) (by decide +kernel)
set_option maxRecDepth 20000 in
theorem gX6_flaw_X5_firstFlaw : GoodIn wsX6_flaw (wsV RX6 233 RX5 yX5_firstFlaw wsX5_firstFlaw) := goodIn_app (goodIn_of _ (by decide +kernel)) ggX6_flaw_X5_firstFlaw
theorem dX6_flaw_0 : decode cX6_flaw 0 = .ok (.aload_n 0, 1) := by decide +kernel
theorem dX6_flaw_1 : decode cX6_flaw 1 = .ok (.getfield 54, 3) := by decide +kernel
theorem dX6_flaw_4 : decode cX6_flaw 4 = .ok (.invokevirtual 233, 3) := by decide +kernel
theorem dX6_flaw_7 : decode cX6_flaw 7 = .ok (.ireturn, 1) := by decide +kernel
set_option maxRecDepth 20000 in
theorem ggX6_told_X5_takePlane : GoodIn wsX6_told wsX5_takePlane := goodIn_r _ [8, 9, 10, 11, 12, 13, 14, 15, 16, 7, 17, 18, 19, 20, 21, 22, 23, 24, 25, 26, 27, 28, 29, 30, 31, 32, 33, 34, 35, 36, 37, 38, 39, 40, 41, 42, 43, 44, 45, 46, 47, 48, 63, 64, 65, 66, 61, 62, 56, 57, 58, 59, 60] (by decide +kernel) (by decide +kernel)
set_option maxRecDepth 20000 in
theorem gX6_told_X5_takePlane : GoodIn wsX6_told (wsV RX6 236 RX5 yX5_takePlane wsX5_takePlane) := goodIn_app (goodIn_of _ (by decide +kernel)) ggX6_told_X5_takePlane
theorem dX6_told_0 : decode cX6_told 0 = .ok (.aload_n 0, 1) := by decide +kernel
theorem dX6_told_1 : decode cX6_told 1 = .ok (.getfield 10, 3) := by decide +kernel
theorem dX6_told_4 : decode cX6_told 4 = .ok (.getfield 62, 3) := by decide +kernel
theorem dX6_told_7 : decode cX6_told 7 = .ok (.iconst 3, 1) := by decide +kernel
theorem dX6_told_8 : decode cX6_told 8 = .ok (.if_icmp .le 6, 3) := by decide +kernel
theorem dX6_told_11 : decode cX6_told 11 = .ok (.bipush (-2), 2) := by decide +kernel
theorem dX6_told_13 : decode cX6_told 13 = .ok (.ireturn, 1) := by decide +kernel
theorem dX6_told_14 : decode cX6_told 14 = .ok (.aload_n 0, 1) := by decide +kernel
theorem dX6_told_15 : decode cX6_told 15 = .ok (.getfield 54, 3) := by decide +kernel
theorem dX6_told_18 : decode cX6_told 18 = .ok (.aload_n 0, 1) := by decide +kernel
theorem dX6_told_19 : decode cX6_told 19 = .ok (.getfield 21, 3) := by decide +kernel
theorem dX6_told_22 : decode cX6_told 22 = .ok (.invokevirtual 236, 3) := by decide +kernel
theorem dX6_told_25 : decode cX6_told 25 = .ok (.aload_n 0, 1) := by decide +kernel
theorem dX6_told_26 : decode cX6_told 26 = .ok (.getfield 54, 3) := by decide +kernel
theorem dX6_told_29 : decode cX6_told 29 = .ok (.getfield 142, 3) := by decide +kernel
theorem dX6_told_32 : decode cX6_told 32 = .ok (.ireturn, 1) := by decide +kernel
theorem dX6_bit_0 : decode cX6_bit 0 = .ok (.iload_n 0, 1) := by decide +kernel
theorem dX6_bit_1 : decode cX6_bit 1 = .ok (.ifCond .eq 7, 3) := by decide +kernel
theorem dX6_bit_4 : decode cX6_bit 4 = .ok (.iconst 1, 1) := by decide +kernel
theorem dX6_bit_5 : decode cX6_bit 5 = .ok (.goto 4, 3) := by decide +kernel
theorem dX6_bit_8 : decode cX6_bit 8 = .ok (.iconst 0, 1) := by decide +kernel
theorem dX6_bit_9 : decode cX6_bit 9 = .ok (.ireturn, 1) := by decide +kernel
set_option maxRecDepth 20000 in
theorem ggX6_scaleToTold_X1_over : GoodIn wsX6_scaleToTold wsX1_over := goodIn_r _ [5, 6, 7, 8, 9, 10, 11, 12] (by decide +kernel) (by decide +kernel)
set_option maxRecDepth 20000 in
theorem gX6_scaleToTold_X1_over : GoodIn wsX6_scaleToTold (wsV RX6 91 RX1 yX1_over wsX1_over) := goodIn_app (goodIn_of _ (by decide +kernel)) ggX6_scaleToTold_X1_over
theorem dX6_scaleToTold_0 : decode cX6_scaleToTold 0 = .ok (.iconst 0, 1) := by decide +kernel
theorem dX6_scaleToTold_1 : decode cX6_scaleToTold 1 = .ok (.istore_n 2, 1) := by decide +kernel
theorem dX6_scaleToTold_2 : decode cX6_scaleToTold 2 = .ok (.iconst 0, 1) := by decide +kernel
theorem dX6_scaleToTold_3 : decode cX6_scaleToTold 3 = .ok (.istore_n 3, 1) := by decide +kernel
theorem dX6_scaleToTold_4 : decode cX6_scaleToTold 4 = .ok (.iload_n 3, 1) := by decide +kernel
theorem dX6_scaleToTold_5 : decode cX6_scaleToTold 5 = .ok (.aload_n 1, 1) := by decide +kernel
theorem dX6_scaleToTold_6 : decode cX6_scaleToTold 6 = .ok (.arraylength, 1) := by decide +kernel
theorem dX6_scaleToTold_7 : decode cX6_scaleToTold 7 = .ok (.if_icmp .ge 32, 3) := by decide +kernel
theorem dX6_scaleToTold_10 : decode cX6_scaleToTold 10 = .ok (.iload_n 2, 1) := by decide +kernel
theorem dX6_scaleToTold_11 : decode cX6_scaleToTold 11 = .ok (.ifCond .ne 7, 3) := by decide +kernel
theorem dX6_scaleToTold_14 : decode cX6_scaleToTold 14 = .ok (.aload_n 1, 1) := by decide +kernel
theorem dX6_scaleToTold_15 : decode cX6_scaleToTold 15 = .ok (.iload_n 3, 1) := by decide +kernel
theorem dX6_scaleToTold_16 : decode cX6_scaleToTold 16 = .ok (.iaload, 1) := by decide +kernel
theorem dX6_scaleToTold_17 : decode cX6_scaleToTold 17 = .ok (.istore_n 2, 1) := by decide +kernel
theorem dX6_scaleToTold_18 : decode cX6_scaleToTold 18 = .ok (.iload_n 2, 1) := by decide +kernel
theorem dX6_scaleToTold_19 : decode cX6_scaleToTold 19 = .ok (.ifCond .eq 14, 3) := by decide +kernel
theorem dX6_scaleToTold_22 : decode cX6_scaleToTold 22 = .ok (.aload_n 1, 1) := by decide +kernel
theorem dX6_scaleToTold_23 : decode cX6_scaleToTold 23 = .ok (.iload_n 3, 1) := by decide +kernel
theorem dX6_scaleToTold_24 : decode cX6_scaleToTold 24 = .ok (.aload_n 0, 1) := by decide +kernel
theorem dX6_scaleToTold_25 : decode cX6_scaleToTold 25 = .ok (.aload_n 1, 1) := by decide +kernel
theorem dX6_scaleToTold_26 : decode cX6_scaleToTold 26 = .ok (.iload_n 3, 1) := by decide +kernel
theorem dX6_scaleToTold_27 : decode cX6_scaleToTold 27 = .ok (.iaload, 1) := by decide +kernel
theorem dX6_scaleToTold_28 : decode cX6_scaleToTold 28 = .ok (.iload_n 2, 1) := by decide +kernel
theorem dX6_scaleToTold_29 : decode cX6_scaleToTold 29 = .ok (.invokevirtual 91, 3) := by decide +kernel
theorem dX6_scaleToTold_32 : decode cX6_scaleToTold 32 = .ok (.iastore, 1) := by decide +kernel
theorem dX6_scaleToTold_33 : decode cX6_scaleToTold 33 = .ok (.iinc 3 1, 3) := by decide +kernel
theorem dX6_scaleToTold_36 : decode cX6_scaleToTold 36 = .ok (.goto (-32), 3) := by decide +kernel
theorem dX6_scaleToTold_39 : decode cX6_scaleToTold 39 = .ok (.return_, 1) := by decide +kernel
set_option maxRecDepth 20000 in
theorem ggX7_init_X7_make : GoodIn wsX7_init wsX7_make := goodIn_r _ [28, 29, 5, 6, 30, 7, 8, 9, 11, 12, 31, 32, 27, 33, 34, 35, 36, 37, 38, 39, 40, 41, 42, 43, 44, 45, 46, 47, 48, 49, 50, 51, 52, 53, 54, 55, 56, 57, 58, 59] (by decide +kernel) (by decide +kernel)
set_option maxRecDepth 20000 in
theorem gX7_init_X7_make : GoodIn wsX7_init (wsV RX7 62 RX7 yX7_make wsX7_make) := goodIn_app (goodIn_of _ (by decide +kernel)) ggX7_init_X7_make
