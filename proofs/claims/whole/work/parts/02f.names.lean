theorem dX7_is_113 : decode cX7_is 113 = .ok (.iconst 0, 1) := by decide +kernel
theorem dX7_is_114 : decode cX7_is 114 = .ok (.ireturn, 1) := by decide +kernel
theorem dX7_is_115 : decode cX7_is 115 = .ok (.bipush (-2), 2) := by decide +kernel
theorem dX7_is_117 : decode cX7_is 117 = .ok (.ireturn, 1) := by decide +kernel
set_option maxRecDepth 20000 in
theorem ggX7_fits_X7_isOn : GoodIn wsX7_fits wsX7_isOn := goodIn_r _ [7, 8, 9, 10, 11, 12, 13, 6, 14, 15, 16, 17, 18, 19, 20, 25, 26, 27, 28, 29, 30, 31, 32, 33, 34, 35, 36, 37, 38, 39, 40, 41, 42, 43, 44] (by decide +kernel) (by decide +kernel)
set_option maxRecDepth 20000 in
theorem gX7_fits_X7_isOn : GoodIn wsX7_fits (wsV RX7 117 RX7 yX7_isOn wsX7_isOn) := goodIn_app (goodIn_of _ (by decide +kernel)) ggX7_fits_X7_isOn
set_option maxRecDepth 20000 in
theorem ggX7_fits_X7_met : GoodIn wsX7_fits wsX7_met := goodIn_r _ [24, 2, 3, 4, 5, 6, 7, 8, 9, 10, 11, 12, 13, 14, 15, 16, 17, 18, 19, 20, 25, 26, 27, 28, 29, 30, 31, 32, 33, 34, 35, 36, 37, 38, 39, 40, 41, 42, 43, 44] (by decide +kernel) (by decide +kernel)
set_option maxRecDepth 20000 in
theorem gX7_fits_X7_met : GoodIn wsX7_fits (wsV RX7 128 RX7 yX7_met wsX7_met) := goodIn_app (goodIn_of _ (by decide +kernel)) ggX7_fits_X7_met
theorem dX7_fits_0 : decode cX7_fits 0 = .ok (.aload_n 0, 1) := by decide +kernel
theorem dX7_fits_1 : decode cX7_fits 1 = .ok (.getfield 35, 3) := by decide +kernel
theorem dX7_fits_4 : decode cX7_fits 4 = .ok (.iload_n 1, 1) := by decide +kernel
theorem dX7_fits_5 : decode cX7_fits 5 = .ok (.baload, 1) := by decide +kernel
theorem dX7_fits_6 : decode cX7_fits 6 = .ok (.ifCond .eq 5, 3) := by decide +kernel
theorem dX7_fits_9 : decode cX7_fits 9 = .ok (.iconst 0, 1) := by decide +kernel
theorem dX7_fits_10 : decode cX7_fits 10 = .ok (.ireturn, 1) := by decide +kernel
theorem dX7_fits_11 : decode cX7_fits 11 = .ok (.iconst 1, 1) := by decide +kernel
theorem dX7_fits_12 : decode cX7_fits 12 = .ok (.istore_n 2, 1) := by decide +kernel
theorem dX7_fits_13 : decode cX7_fits 13 = .ok (.iconst 0, 1) := by decide +kernel
theorem dX7_fits_14 : decode cX7_fits 14 = .ok (.istore_n 3, 1) := by decide +kernel
theorem dX7_fits_15 : decode cX7_fits 15 = .ok (.iload_n 3, 1) := by decide +kernel
theorem dX7_fits_16 : decode cX7_fits 16 = .ok (.aload_n 0, 1) := by decide +kernel
theorem dX7_fits_17 : decode cX7_fits 17 = .ok (.getfield 83, 3) := by decide +kernel
theorem dX7_fits_20 : decode cX7_fits 20 = .ok (.if_icmp .ge 41, 3) := by decide +kernel
theorem dX7_fits_23 : decode cX7_fits 23 = .ok (.iload_n 2, 1) := by decide +kernel
theorem dX7_fits_24 : decode cX7_fits 24 = .ok (.ifCond .eq 37, 3) := by decide +kernel
theorem dX7_fits_27 : decode cX7_fits 27 = .ok (.aload_n 0, 1) := by decide +kernel
theorem dX7_fits_28 : decode cX7_fits 28 = .ok (.iload_n 1, 1) := by decide +kernel
theorem dX7_fits_29 : decode cX7_fits 29 = .ok (.iload_n 3, 1) := by decide +kernel
theorem dX7_fits_30 : decode cX7_fits 30 = .ok (.invokevirtual 117, 3) := by decide +kernel
theorem dX7_fits_33 : decode cX7_fits 33 = .ok (.ifCond .eq 16, 3) := by decide +kernel
theorem dX7_fits_36 : decode cX7_fits 36 = .ok (.aload_n 0, 1) := by decide +kernel
theorem dX7_fits_37 : decode cX7_fits 37 = .ok (.aload_n 0, 1) := by decide +kernel
theorem dX7_fits_38 : decode cX7_fits 38 = .ok (.getfield 35, 3) := by decide +kernel
theorem dX7_fits_41 : decode cX7_fits 41 = .ok (.iload_n 3, 1) := by decide +kernel
theorem dX7_fits_42 : decode cX7_fits 42 = .ok (.invokevirtual 128, 3) := by decide +kernel
theorem dX7_fits_45 : decode cX7_fits 45 = .ok (.iconst 2, 1) := by decide +kernel
theorem dX7_fits_46 : decode cX7_fits 46 = .ok (.if_icmp .ge 7, 3) := by decide +kernel
theorem dX7_fits_49 : decode cX7_fits 49 = .ok (.iconst 1, 1) := by decide +kernel
theorem dX7_fits_50 : decode cX7_fits 50 = .ok (.goto 4, 3) := by decide +kernel
theorem dX7_fits_53 : decode cX7_fits 53 = .ok (.iconst 0, 1) := by decide +kernel
theorem dX7_fits_54 : decode cX7_fits 54 = .ok (.istore_n 2, 1) := by decide +kernel
theorem dX7_fits_55 : decode cX7_fits 55 = .ok (.iinc 3 1, 3) := by decide +kernel
theorem dX7_fits_58 : decode cX7_fits 58 = .ok (.goto (-43), 3) := by decide +kernel
theorem dX7_fits_61 : decode cX7_fits 61 = .ok (.iload_n 2, 1) := by decide +kernel
theorem dX7_fits_62 : decode cX7_fits 62 = .ok (.ireturn, 1) := by decide +kernel
set_option maxRecDepth 20000 in
theorem ggX7_findGreatest_X7_fits : GoodIn wsX7_findGreatest wsX7_fits := goodIn_r _ [10, 2, 1, 11, 12, 13, 9, 14, 15, 16, 17, 18, 19, 20, 21, 22, 23, 24, 25, 26, 27, 28, 29, 30, 31, 32, 33, 34, 35, 36, 37, 38, 39, 40, 41, 42, 43, 44, 45, 46, 47, 48, 49, 50, 51] (by decide +kernel) (by decide +kernel)
set_option maxRecDepth 20000 in
theorem gX7_findGreatest_X7_fits : GoodIn wsX7_findGreatest (wsV RX7 150 RX7 yX7_fits wsX7_fits) := goodIn_app (goodIn_of _ (by decide +kernel)) ggX7_findGreatest_X7_fits
theorem dX7_findGreatest_0 : decode cX7_findGreatest 0 = .ok (.iconst 0, 1) := by decide +kernel
theorem dX7_findGreatest_1 : decode cX7_findGreatest 1 = .ok (.istore_n 1, 1) := by decide +kernel
theorem dX7_findGreatest_2 : decode cX7_findGreatest 2 = .ok (.iload_n 1, 1) := by decide +kernel
theorem dX7_findGreatest_3 : decode cX7_findGreatest 3 = .ok (.aload_n 0, 1) := by decide +kernel
theorem dX7_findGreatest_4 : decode cX7_findGreatest 4 = .ok (.getfield 83, 3) := by decide +kernel
theorem dX7_findGreatest_7 : decode cX7_findGreatest 7 = .ok (.if_icmp .ge 33, 3) := by decide +kernel
theorem dX7_findGreatest_10 : decode cX7_findGreatest 10 = .ok (.aload_n 0, 1) := by decide +kernel
theorem dX7_findGreatest_11 : decode cX7_findGreatest 11 = .ok (.getfield 35, 3) := by decide +kernel
theorem dX7_findGreatest_14 : decode cX7_findGreatest 14 = .ok (.iload_n 1, 1) := by decide +kernel
theorem dX7_findGreatest_15 : decode cX7_findGreatest 15 = .ok (.aload_n 0, 1) := by decide +kernel
theorem dX7_findGreatest_16 : decode cX7_findGreatest 16 = .ok (.getfield 25, 3) := by decide +kernel
theorem dX7_findGreatest_19 : decode cX7_findGreatest 19 = .ok (.iload_n 1, 1) := by decide +kernel
theorem dX7_findGreatest_20 : decode cX7_findGreatest 20 = .ok (.baload, 1) := by decide +kernel
theorem dX7_findGreatest_21 : decode cX7_findGreatest 21 = .ok (.bastore, 1) := by decide +kernel
theorem dX7_findGreatest_22 : decode cX7_findGreatest 22 = .ok (.aload_n 0, 1) := by decide +kernel
theorem dX7_findGreatest_23 : decode cX7_findGreatest 23 = .ok (.getfield 38, 3) := by decide +kernel
theorem dX7_findGreatest_26 : decode cX7_findGreatest 26 = .ok (.iload_n 1, 1) := by decide +kernel
theorem dX7_findGreatest_27 : decode cX7_findGreatest 27 = .ok (.aload_n 0, 1) := by decide +kernel
theorem dX7_findGreatest_28 : decode cX7_findGreatest 28 = .ok (.getfield 25, 3) := by decide +kernel
theorem dX7_findGreatest_31 : decode cX7_findGreatest 31 = .ok (.iload_n 1, 1) := by decide +kernel
theorem dX7_findGreatest_32 : decode cX7_findGreatest 32 = .ok (.baload, 1) := by decide +kernel
theorem dX7_findGreatest_33 : decode cX7_findGreatest 33 = .ok (.bastore, 1) := by decide +kernel
theorem dX7_findGreatest_34 : decode cX7_findGreatest 34 = .ok (.iinc 1 1, 3) := by decide +kernel
theorem dX7_findGreatest_37 : decode cX7_findGreatest 37 = .ok (.goto (-35), 3) := by decide +kernel
theorem dX7_findGreatest_40 : decode cX7_findGreatest 40 = .ok (.iconst 0, 1) := by decide +kernel
theorem dX7_findGreatest_41 : decode cX7_findGreatest 41 = .ok (.istore_n 1, 1) := by decide +kernel
theorem dX7_findGreatest_42 : decode cX7_findGreatest 42 = .ok (.iconst 0, 1) := by decide +kernel
theorem dX7_findGreatest_43 : decode cX7_findGreatest 43 = .ok (.istore_n 2, 1) := by decide +kernel
theorem dX7_findGreatest_44 : decode cX7_findGreatest 44 = .ok (.iconst 0, 1) := by decide +kernel
theorem dX7_findGreatest_45 : decode cX7_findGreatest 45 = .ok (.istore_n 3, 1) := by decide +kernel
theorem dX7_findGreatest_46 : decode cX7_findGreatest 46 = .ok (.iconst 1, 1) := by decide +kernel
theorem dX7_findGreatest_47 : decode cX7_findGreatest 47 = .ok (.istore 4, 2) := by decide +kernel
theorem dX7_findGreatest_49 : decode cX7_findGreatest 49 = .ok (.iload 4, 2) := by decide +kernel
theorem dX7_findGreatest_51 : decode cX7_findGreatest 51 = .ok (.ifCond .eq 132, 3) := by decide +kernel
theorem dX7_findGreatest_54 : decode cX7_findGreatest 54 = .ok (.iload_n 3, 1) := by decide +kernel
theorem dX7_findGreatest_55 : decode cX7_findGreatest 55 = .ok (.aload_n 0, 1) := by decide +kernel
theorem dX7_findGreatest_56 : decode cX7_findGreatest 56 = .ok (.getfield 83, 3) := by decide +kernel
theorem dX7_findGreatest_59 : decode cX7_findGreatest 59 = .ok (.if_icmp .ge 17, 3) := by decide +kernel
theorem dX7_findGreatest_62 : decode cX7_findGreatest 62 = .ok (.aload_n 0, 1) := by decide +kernel
theorem dX7_findGreatest_63 : decode cX7_findGreatest 63 = .ok (.iload_n 3, 1) := by decide +kernel
theorem dX7_findGreatest_64 : decode cX7_findGreatest 64 = .ok (.invokevirtual 150, 3) := by decide +kernel
theorem dX7_findGreatest_67 : decode cX7_findGreatest 67 = .ok (.ifCond .ne 9, 3) := by decide +kernel
theorem dX7_findGreatest_70 : decode cX7_findGreatest 70 = .ok (.iinc 3 1, 3) := by decide +kernel
theorem dX7_findGreatest_73 : decode cX7_findGreatest 73 = .ok (.goto (-19), 3) := by decide +kernel
theorem dX7_findGreatest_76 : decode cX7_findGreatest 76 = .ok (.iload_n 3, 1) := by decide +kernel
theorem dX7_findGreatest_77 : decode cX7_findGreatest 77 = .ok (.aload_n 0, 1) := by decide +kernel
theorem dX7_findGreatest_78 : decode cX7_findGreatest 78 = .ok (.getfield 83, 3) := by decide +kernel
theorem dX7_findGreatest_81 : decode cX7_findGreatest 81 = .ok (.if_icmp .ge 65, 3) := by decide +kernel
theorem dX7_findGreatest_84 : decode cX7_findGreatest 84 = .ok (.aload_n 0, 1) := by decide +kernel
theorem dX7_findGreatest_85 : decode cX7_findGreatest 85 = .ok (.getfield 35, 3) := by decide +kernel
theorem dX7_findGreatest_88 : decode cX7_findGreatest 88 = .ok (.iload_n 3, 1) := by decide +kernel
theorem dX7_findGreatest_89 : decode cX7_findGreatest 89 = .ok (.iconst 1, 1) := by decide +kernel
theorem dX7_findGreatest_90 : decode cX7_findGreatest 90 = .ok (.bastore, 1) := by decide +kernel
theorem dX7_findGreatest_91 : decode cX7_findGreatest 91 = .ok (.aload_n 0, 1) := by decide +kernel
theorem dX7_findGreatest_92 : decode cX7_findGreatest 92 = .ok (.getfield 41, 3) := by decide +kernel
theorem dX7_findGreatest_95 : decode cX7_findGreatest 95 = .ok (.iload_n 2, 1) := by decide +kernel
theorem dX7_findGreatest_96 : decode cX7_findGreatest 96 = .ok (.iload_n 3, 1) := by decide +kernel
theorem dX7_findGreatest_97 : decode cX7_findGreatest 97 = .ok (.iastore, 1) := by decide +kernel
theorem dX7_findGreatest_98 : decode cX7_findGreatest 98 = .ok (.iinc 2 1, 3) := by decide +kernel
theorem dX7_findGreatest_101 : decode cX7_findGreatest 101 = .ok (.iload_n 2, 1) := by decide +kernel
theorem dX7_findGreatest_102 : decode cX7_findGreatest 102 = .ok (.iload_n 1, 1) := by decide +kernel
theorem dX7_findGreatest_103 : decode cX7_findGreatest 103 = .ok (.if_icmp .le 37, 3) := by decide +kernel
theorem dX7_findGreatest_106 : decode cX7_findGreatest 106 = .ok (.iload_n 2, 1) := by decide +kernel
theorem dX7_findGreatest_107 : decode cX7_findGreatest 107 = .ok (.istore_n 1, 1) := by decide +kernel
theorem dX7_findGreatest_108 : decode cX7_findGreatest 108 = .ok (.iconst 0, 1) := by decide +kernel
theorem dX7_findGreatest_109 : decode cX7_findGreatest 109 = .ok (.istore 5, 2) := by decide +kernel
theorem dX7_findGreatest_111 : decode cX7_findGreatest 111 = .ok (.iload 5, 2) := by decide +kernel
theorem dX7_findGreatest_113 : decode cX7_findGreatest 113 = .ok (.aload_n 0, 1) := by decide +kernel
theorem dX7_findGreatest_114 : decode cX7_findGreatest 114 = .ok (.getfield 83, 3) := by decide +kernel
theorem dX7_findGreatest_117 : decode cX7_findGreatest 117 = .ok (.if_icmp .ge 23, 3) := by decide +kernel
theorem dX7_findGreatest_120 : decode cX7_findGreatest 120 = .ok (.aload_n 0, 1) := by decide +kernel
theorem dX7_findGreatest_121 : decode cX7_findGreatest 121 = .ok (.getfield 38, 3) := by decide +kernel
theorem dX7_findGreatest_124 : decode cX7_findGreatest 124 = .ok (.iload 5, 2) := by decide +kernel
theorem dX7_findGreatest_126 : decode cX7_findGreatest 126 = .ok (.aload_n 0, 1) := by decide +kernel
theorem dX7_findGreatest_127 : decode cX7_findGreatest 127 = .ok (.getfield 35, 3) := by decide +kernel
theorem dX7_findGreatest_130 : decode cX7_findGreatest 130 = .ok (.iload 5, 2) := by decide +kernel
theorem dX7_findGreatest_132 : decode cX7_findGreatest 132 = .ok (.baload, 1) := by decide +kernel
theorem dX7_findGreatest_133 : decode cX7_findGreatest 133 = .ok (.bastore, 1) := by decide +kernel
theorem dX7_findGreatest_134 : decode cX7_findGreatest 134 = .ok (.iinc 5 1, 3) := by decide +kernel
theorem dX7_findGreatest_137 : decode cX7_findGreatest 137 = .ok (.goto (-26), 3) := by decide +kernel
theorem dX7_findGreatest_140 : decode cX7_findGreatest 140 = .ok (.iinc 3 1, 3) := by decide +kernel
theorem dX7_findGreatest_143 : decode cX7_findGreatest 143 = .ok (.goto (-94), 3) := by decide +kernel
theorem dX7_findGreatest_146 : decode cX7_findGreatest 146 = .ok (.iload_n 2, 1) := by decide +kernel
theorem dX7_findGreatest_147 : decode cX7_findGreatest 147 = .ok (.ifCond .le 30, 3) := by decide +kernel
theorem dX7_findGreatest_150 : decode cX7_findGreatest 150 = .ok (.iinc 2 (-1), 3) := by decide +kernel
theorem dX7_findGreatest_153 : decode cX7_findGreatest 153 = .ok (.aload_n 0, 1) := by decide +kernel
theorem dX7_findGreatest_154 : decode cX7_findGreatest 154 = .ok (.getfield 35, 3) := by decide +kernel
theorem dX7_findGreatest_157 : decode cX7_findGreatest 157 = .ok (.aload_n 0, 1) := by decide +kernel
theorem dX7_findGreatest_158 : decode cX7_findGreatest 158 = .ok (.getfield 41, 3) := by decide +kernel
theorem dX7_findGreatest_161 : decode cX7_findGreatest 161 = .ok (.iload_n 2, 1) := by decide +kernel
theorem dX7_findGreatest_162 : decode cX7_findGreatest 162 = .ok (.iaload, 1) := by decide +kernel
theorem dX7_findGreatest_163 : decode cX7_findGreatest 163 = .ok (.iconst 0, 1) := by decide +kernel
theorem dX7_findGreatest_164 : decode cX7_findGreatest 164 = .ok (.bastore, 1) := by decide +kernel
theorem dX7_findGreatest_165 : decode cX7_findGreatest 165 = .ok (.aload_n 0, 1) := by decide +kernel
theorem dX7_findGreatest_166 : decode cX7_findGreatest 166 = .ok (.getfield 41, 3) := by decide +kernel
theorem dX7_findGreatest_169 : decode cX7_findGreatest 169 = .ok (.iload_n 2, 1) := by decide +kernel
theorem dX7_findGreatest_170 : decode cX7_findGreatest 170 = .ok (.iaload, 1) := by decide +kernel
theorem dX7_findGreatest_171 : decode cX7_findGreatest 171 = .ok (.iconst 1, 1) := by decide +kernel
theorem dX7_findGreatest_172 : decode cX7_findGreatest 172 = .ok (.iadd, 1) := by decide +kernel
theorem dX7_findGreatest_173 : decode cX7_findGreatest 173 = .ok (.istore_n 3, 1) := by decide +kernel
theorem dX7_findGreatest_174 : decode cX7_findGreatest 174 = .ok (.goto (-125), 3) := by decide +kernel
theorem dX7_findGreatest_177 : decode cX7_findGreatest 177 = .ok (.iconst 0, 1) := by decide +kernel
theorem dX7_findGreatest_178 : decode cX7_findGreatest 178 = .ok (.istore 4, 2) := by decide +kernel
theorem dX7_findGreatest_180 : decode cX7_findGreatest 180 = .ok (.goto (-131), 3) := by decide +kernel
theorem dX7_findGreatest_183 : decode cX7_findGreatest 183 = .ok (.return_, 1) := by decide +kernel
set_option maxRecDepth 20000 in
theorem ggX7_greatest_X7_isArc : GoodIn wsX7_greatest wsX7_isArc := goodIn_r _ [8, 9, 10, 11, 12, 7, 13, 14, 15, 16, 17, 18, 19, 20, 21, 22, 23, 24, 25, 26, 27, 28, 29, 30, 49, 50, 51, 52, 53, 54, 55, 56, 57, 58, 59, 60, 61, 62, 63, 64, 65, 66, 67, 68] (by decide +kernel) (by decide +kernel)
set_option maxRecDepth 20000 in
theorem gX7_greatest_X7_isArc : GoodIn wsX7_greatest (wsV RX7 135 RX7 yX7_isArc wsX7_isArc) := goodIn_app (goodIn_of _ (by decide +kernel)) ggX7_greatest_X7_isArc
set_option maxRecDepth 20000 in
theorem ggX7_greatest_X7_findGreatest : GoodIn wsX7_greatest wsX7_findGreatest := goodIn_r _ [34, 9, 35, 2, 3, 36, 37, 38, 39, 7, 40, 14, 15, 16, 17, 18, 19, 20, 21, 22, 23, 24, 25, 26, 27, 28, 29, 30, 10, 11, 12, 13, 49, 50, 51, 52, 53, 54, 55, 56, 57, 58, 59, 60, 61, 62, 63, 64, 65, 66, 67, 68] (by decide +kernel) (by decide +kernel)
set_option maxRecDepth 20000 in
theorem gX7_greatest_X7_findGreatest : GoodIn wsX7_greatest (wsV RX7 153 RX7 yX7_findGreatest wsX7_findGreatest) := goodIn_app (goodIn_of _ (by decide +kernel)) ggX7_greatest_X7_findGreatest
set_option maxRecDepth 20000 in
theorem ggX7_greatest_X7_sizeOf : GoodIn wsX7_greatest wsX7_sizeOf := goodIn_r _ [44, 9, 49, 50, 51, 52, 53, 54, 55, 56, 57, 58, 59, 60, 61, 62, 63, 64, 65, 66, 67, 68] (by decide +kernel) (by decide +kernel)
set_option maxRecDepth 20000 in
theorem gX7_greatest_X7_sizeOf : GoodIn wsX7_greatest (wsV RX7 146 RX7 yX7_sizeOf wsX7_sizeOf) := goodIn_app (goodIn_of _ (by decide +kernel)) ggX7_greatest_X7_sizeOf
set_option maxRecDepth 20000 in
theorem ggX7_greatest_X7_memberOf : GoodIn wsX7_greatest wsX7_memberOf := goodIn_r _ [48, 9, 49, 50, 51, 52, 53, 54, 55, 56, 57, 58, 59, 60, 61, 62, 63, 64, 65, 66, 67, 68] (by decide +kernel) (by decide +kernel)
set_option maxRecDepth 20000 in
theorem gX7_greatest_X7_memberOf : GoodIn wsX7_greatest (wsV RX7 124 RX7 yX7_memberOf wsX7_memberOf) := goodIn_app (goodIn_of _ (by decide +kernel)) ggX7_greatest_X7_memberOf
theorem dX7_greatest_0 : decode cX7_greatest 0 = .ok (.aload_n 0, 1) := by decide +kernel
theorem dX7_greatest_1 : decode cX7_greatest 1 = .ok (.getfield 74, 3) := by decide +kernel
theorem dX7_greatest_4 : decode cX7_greatest 4 = .ok (.iconst 5, 1) := by decide +kernel
theorem dX7_greatest_5 : decode cX7_greatest 5 = .ok (.if_icmp .le 6, 3) := by decide +kernel
theorem dX7_greatest_8 : decode cX7_greatest 8 = .ok (.bipush (-2), 2) := by decide +kernel
theorem dX7_greatest_10 : decode cX7_greatest 10 = .ok (.ireturn, 1) := by decide +kernel
theorem dX7_greatest_11 : decode cX7_greatest 11 = .ok (.aload_n 0, 1) := by decide +kernel
theorem dX7_greatest_12 : decode cX7_greatest 12 = .ok (.aload_n 0, 1) := by decide +kernel
theorem dX7_greatest_13 : decode cX7_greatest 13 = .ok (.getfield 25, 3) := by decide +kernel
theorem dX7_greatest_16 : decode cX7_greatest 16 = .ok (.invokevirtual 135, 3) := by decide +kernel
theorem dX7_greatest_19 : decode cX7_greatest 19 = .ok (.ifCond .ne 5, 3) := by decide +kernel
theorem dX7_greatest_22 : decode cX7_greatest 22 = .ok (.iconst (-1), 1) := by decide +kernel
theorem dX7_greatest_23 : decode cX7_greatest 23 = .ok (.ireturn, 1) := by decide +kernel
theorem dX7_greatest_24 : decode cX7_greatest 24 = .ok (.aload_n 0, 1) := by decide +kernel
theorem dX7_greatest_25 : decode cX7_greatest 25 = .ok (.invokevirtual 153, 3) := by decide +kernel
theorem dX7_greatest_28 : decode cX7_greatest 28 = .ok (.iload_n 1, 1) := by decide +kernel
theorem dX7_greatest_29 : decode cX7_greatest 29 = .ok (.iconst (-1), 1) := by decide +kernel
theorem dX7_greatest_30 : decode cX7_greatest 30 = .ok (.if_icmp .ne 14, 3) := by decide +kernel
theorem dX7_greatest_33 : decode cX7_greatest 33 = .ok (.aload_n 0, 1) := by decide +kernel
theorem dX7_greatest_34 : decode cX7_greatest 34 = .ok (.aload_n 0, 1) := by decide +kernel
theorem dX7_greatest_35 : decode cX7_greatest 35 = .ok (.getfield 38, 3) := by decide +kernel
theorem dX7_greatest_38 : decode cX7_greatest 38 = .ok (.invokevirtual 146, 3) := by decide +kernel
theorem dX7_greatest_41 : decode cX7_greatest 41 = .ok (.goto 12, 3) := by decide +kernel
theorem dX7_greatest_44 : decode cX7_greatest 44 = .ok (.aload_n 0, 1) := by decide +kernel
theorem dX7_greatest_45 : decode cX7_greatest 45 = .ok (.aload_n 0, 1) := by decide +kernel
theorem dX7_greatest_46 : decode cX7_greatest 46 = .ok (.getfield 38, 3) := by decide +kernel
theorem dX7_greatest_49 : decode cX7_greatest 49 = .ok (.iload_n 1, 1) := by decide +kernel
theorem dX7_greatest_50 : decode cX7_greatest 50 = .ok (.invokevirtual 124, 3) := by decide +kernel
theorem dX7_greatest_53 : decode cX7_greatest 53 = .ok (.ireturn, 1) := by decide +kernel
set_option maxRecDepth 20000 in
theorem ggX7_valueOf_X7_times : GoodIn wsX7_valueOf wsX7_times := goodIn_r _ [8, 9, 15, 16, 17, 18, 19, 20, 21, 22, 23, 24, 25, 26, 27, 28, 29, 30, 31, 32, 33, 34] (by decide +kernel) (by decide +kernel)
set_option maxRecDepth 20000 in
theorem gX7_valueOf_X7_times : GoodIn wsX7_valueOf (wsV RX7 90 RX7 yX7_times wsX7_times) := goodIn_app (goodIn_of _ (by decide +kernel)) ggX7_valueOf_X7_times
set_option maxRecDepth 20000 in
theorem ggX7_valueOf_X7_add : GoodIn wsX7_valueOf wsX7_add := goodIn_r _ [13, 14, 15, 16, 17, 18, 19, 20, 21, 22, 23, 24, 25, 26, 27, 28, 29, 30, 31, 32, 33, 34] (by decide +kernel) (by decide +kernel)
set_option maxRecDepth 20000 in
theorem gX7_valueOf_X7_add : GoodIn wsX7_valueOf (wsV RX7 86 RX7 yX7_add wsX7_add) := goodIn_app (goodIn_of _ (by decide +kernel)) ggX7_valueOf_X7_add
theorem dX7_valueOf_0 : decode cX7_valueOf 0 = .ok (.aload_n 0, 1) := by decide +kernel
theorem dX7_valueOf_1 : decode cX7_valueOf 1 = .ok (.getfield 16, 3) := by decide +kernel
theorem dX7_valueOf_4 : decode cX7_valueOf 4 = .ok (.iload 7, 2) := by decide +kernel
theorem dX7_valueOf_6 : decode cX7_valueOf 6 = .ok (.iaload, 1) := by decide +kernel
theorem dX7_valueOf_7 : decode cX7_valueOf 7 = .ok (.istore 8, 2) := by decide +kernel
theorem dX7_valueOf_9 : decode cX7_valueOf 9 = .ok (.aload_n 0, 1) := by decide +kernel
theorem dX7_valueOf_10 : decode cX7_valueOf 10 = .ok (.getfield 19, 3) := by decide +kernel
theorem dX7_valueOf_13 : decode cX7_valueOf 13 = .ok (.iload 7, 2) := by decide +kernel
theorem dX7_valueOf_15 : decode cX7_valueOf 15 = .ok (.iaload, 1) := by decide +kernel
theorem dX7_valueOf_16 : decode cX7_valueOf 16 = .ok (.istore 9, 2) := by decide +kernel
theorem dX7_valueOf_18 : decode cX7_valueOf 18 = .ok (.aload_n 0, 1) := by decide +kernel
theorem dX7_valueOf_19 : decode cX7_valueOf 19 = .ok (.getfield 22, 3) := by decide +kernel
theorem dX7_valueOf_22 : decode cX7_valueOf 22 = .ok (.iload 7, 2) := by decide +kernel
theorem dX7_valueOf_24 : decode cX7_valueOf 24 = .ok (.iaload, 1) := by decide +kernel
theorem dX7_valueOf_25 : decode cX7_valueOf 25 = .ok (.istore 10, 2) := by decide +kernel
theorem dX7_valueOf_27 : decode cX7_valueOf 27 = .ok (.aload_n 0, 1) := by decide +kernel
theorem dX7_valueOf_28 : decode cX7_valueOf 28 = .ok (.aload_n 0, 1) := by decide +kernel
theorem dX7_valueOf_29 : decode cX7_valueOf 29 = .ok (.iload_n 1, 1) := by decide +kernel
theorem dX7_valueOf_30 : decode cX7_valueOf 30 = .ok (.aload_n 0, 1) := by decide +kernel
theorem dX7_valueOf_31 : decode cX7_valueOf 31 = .ok (.iload 8, 2) := by decide +kernel
theorem dX7_valueOf_33 : decode cX7_valueOf 33 = .ok (.iload 8, 2) := by decide +kernel
theorem dX7_valueOf_35 : decode cX7_valueOf 35 = .ok (.invokevirtual 90, 3) := by decide +kernel
theorem dX7_valueOf_38 : decode cX7_valueOf 38 = .ok (.invokevirtual 90, 3) := by decide +kernel
theorem dX7_valueOf_41 : decode cX7_valueOf 41 = .ok (.aload_n 0, 1) := by decide +kernel
theorem dX7_valueOf_42 : decode cX7_valueOf 42 = .ok (.iload_n 2, 1) := by decide +kernel
theorem dX7_valueOf_43 : decode cX7_valueOf 43 = .ok (.aload_n 0, 1) := by decide +kernel
theorem dX7_valueOf_44 : decode cX7_valueOf 44 = .ok (.iload 9, 2) := by decide +kernel
theorem dX7_valueOf_46 : decode cX7_valueOf 46 = .ok (.iload 9, 2) := by decide +kernel
theorem dX7_valueOf_48 : decode cX7_valueOf 48 = .ok (.invokevirtual 90, 3) := by decide +kernel
theorem dX7_valueOf_51 : decode cX7_valueOf 51 = .ok (.invokevirtual 90, 3) := by decide +kernel
theorem dX7_valueOf_54 : decode cX7_valueOf 54 = .ok (.invokevirtual 86, 3) := by decide +kernel
theorem dX7_valueOf_57 : decode cX7_valueOf 57 = .ok (.istore 11, 2) := by decide +kernel
theorem dX7_valueOf_59 : decode cX7_valueOf 59 = .ok (.aload_n 0, 1) := by decide +kernel
theorem dX7_valueOf_60 : decode cX7_valueOf 60 = .ok (.iload 11, 2) := by decide +kernel
theorem dX7_valueOf_62 : decode cX7_valueOf 62 = .ok (.aload_n 0, 1) := by decide +kernel
theorem dX7_valueOf_63 : decode cX7_valueOf 63 = .ok (.iload_n 3, 1) := by decide +kernel
theorem dX7_valueOf_64 : decode cX7_valueOf 64 = .ok (.aload_n 0, 1) := by decide +kernel
theorem dX7_valueOf_65 : decode cX7_valueOf 65 = .ok (.iload 10, 2) := by decide +kernel
theorem dX7_valueOf_67 : decode cX7_valueOf 67 = .ok (.iload 10, 2) := by decide +kernel
theorem dX7_valueOf_69 : decode cX7_valueOf 69 = .ok (.invokevirtual 90, 3) := by decide +kernel
theorem dX7_valueOf_72 : decode cX7_valueOf 72 = .ok (.invokevirtual 90, 3) := by decide +kernel
theorem dX7_valueOf_75 : decode cX7_valueOf 75 = .ok (.invokevirtual 86, 3) := by decide +kernel
theorem dX7_valueOf_78 : decode cX7_valueOf 78 = .ok (.istore 11, 2) := by decide +kernel
theorem dX7_valueOf_80 : decode cX7_valueOf 80 = .ok (.aload_n 0, 1) := by decide +kernel
theorem dX7_valueOf_81 : decode cX7_valueOf 81 = .ok (.iload 11, 2) := by decide +kernel
theorem dX7_valueOf_83 : decode cX7_valueOf 83 = .ok (.aload_n 0, 1) := by decide +kernel
theorem dX7_valueOf_84 : decode cX7_valueOf 84 = .ok (.iload 4, 2) := by decide +kernel
theorem dX7_valueOf_86 : decode cX7_valueOf 86 = .ok (.aload_n 0, 1) := by decide +kernel
theorem dX7_valueOf_87 : decode cX7_valueOf 87 = .ok (.iload 9, 2) := by decide +kernel
theorem dX7_valueOf_89 : decode cX7_valueOf 89 = .ok (.iload 10, 2) := by decide +kernel
theorem dX7_valueOf_91 : decode cX7_valueOf 91 = .ok (.invokevirtual 90, 3) := by decide +kernel
theorem dX7_valueOf_94 : decode cX7_valueOf 94 = .ok (.invokevirtual 90, 3) := by decide +kernel
theorem dX7_valueOf_97 : decode cX7_valueOf 97 = .ok (.invokevirtual 86, 3) := by decide +kernel
theorem dX7_valueOf_100 : decode cX7_valueOf 100 = .ok (.istore 11, 2) := by decide +kernel
theorem dX7_valueOf_102 : decode cX7_valueOf 102 = .ok (.aload_n 0, 1) := by decide +kernel
theorem dX7_valueOf_103 : decode cX7_valueOf 103 = .ok (.iload 11, 2) := by decide +kernel
theorem dX7_valueOf_105 : decode cX7_valueOf 105 = .ok (.aload_n 0, 1) := by decide +kernel
theorem dX7_valueOf_106 : decode cX7_valueOf 106 = .ok (.iload 5, 2) := by decide +kernel
theorem dX7_valueOf_108 : decode cX7_valueOf 108 = .ok (.aload_n 0, 1) := by decide +kernel
theorem dX7_valueOf_109 : decode cX7_valueOf 109 = .ok (.iload 8, 2) := by decide +kernel
theorem dX7_valueOf_111 : decode cX7_valueOf 111 = .ok (.iload 10, 2) := by decide +kernel
theorem dX7_valueOf_113 : decode cX7_valueOf 113 = .ok (.invokevirtual 90, 3) := by decide +kernel
theorem dX7_valueOf_116 : decode cX7_valueOf 116 = .ok (.invokevirtual 90, 3) := by decide +kernel
theorem dX7_valueOf_119 : decode cX7_valueOf 119 = .ok (.invokevirtual 86, 3) := by decide +kernel
theorem dX7_valueOf_122 : decode cX7_valueOf 122 = .ok (.istore 11, 2) := by decide +kernel
theorem dX7_valueOf_124 : decode cX7_valueOf 124 = .ok (.aload_n 0, 1) := by decide +kernel
theorem dX7_valueOf_125 : decode cX7_valueOf 125 = .ok (.iload 11, 2) := by decide +kernel
theorem dX7_valueOf_127 : decode cX7_valueOf 127 = .ok (.aload_n 0, 1) := by decide +kernel
theorem dX7_valueOf_128 : decode cX7_valueOf 128 = .ok (.iload 6, 2) := by decide +kernel
theorem dX7_valueOf_130 : decode cX7_valueOf 130 = .ok (.aload_n 0, 1) := by decide +kernel
theorem dX7_valueOf_131 : decode cX7_valueOf 131 = .ok (.iload 8, 2) := by decide +kernel
theorem dX7_valueOf_133 : decode cX7_valueOf 133 = .ok (.iload 9, 2) := by decide +kernel
theorem dX7_valueOf_135 : decode cX7_valueOf 135 = .ok (.invokevirtual 90, 3) := by decide +kernel
theorem dX7_valueOf_138 : decode cX7_valueOf 138 = .ok (.invokevirtual 90, 3) := by decide +kernel
theorem dX7_valueOf_141 : decode cX7_valueOf 141 = .ok (.invokevirtual 86, 3) := by decide +kernel
theorem dX7_valueOf_144 : decode cX7_valueOf 144 = .ok (.ireturn, 1) := by decide +kernel
set_option maxRecDepth 20000 in
theorem ggX7_curve_X7_isNumber : GoodIn wsX7_curve wsX7_isNumber := goodIn_r _ [7, 8, 9, 10, 6, 11, 33, 34, 35, 36, 37, 38, 39, 40, 41, 42, 43, 44, 45, 46, 47, 48, 49, 50, 51, 52] (by decide +kernel) (by decide +kernel)
set_option maxRecDepth 20000 in
theorem gX7_curve_X7_isNumber : GoodIn wsX7_curve (wsV RX7 97 RX7 yX7_isNumber wsX7_isNumber) := goodIn_app (goodIn_of _ (by decide +kernel)) ggX7_curve_X7_isNumber
set_option maxRecDepth 20000 in
theorem ggX7_curve_X7_valueOf : GoodIn wsX7_curve wsX7_valueOf := goodIn_r _ [15, 16, 17, 18, 19, 20, 21, 6, 22, 23, 24, 25, 26, 27, 28, 33, 34, 35, 36, 37, 38, 39, 40, 41, 42, 43, 44, 45, 46, 47, 48, 49, 50, 51, 52] (by decide +kernel) (by decide +kernel)
set_option maxRecDepth 20000 in
theorem gX7_curve_X7_valueOf : GoodIn wsX7_curve (wsV RX7 156 RX7 yX7_valueOf wsX7_valueOf) := goodIn_app (goodIn_of _ (by decide +kernel)) ggX7_curve_X7_valueOf
set_option maxRecDepth 20000 in
theorem ggX7_curve_X7_sizeOf : GoodIn wsX7_curve wsX7_sizeOf := goodIn_r _ [32, 1, 33, 34, 35, 36, 37, 38, 39, 40, 41, 42, 43, 44, 45, 46, 47, 48, 49, 50, 51, 52] (by decide +kernel) (by decide +kernel)
set_option maxRecDepth 20000 in
theorem gX7_curve_X7_sizeOf : GoodIn wsX7_curve (wsV RX7 146 RX7 yX7_sizeOf wsX7_sizeOf) := goodIn_app (goodIn_of _ (by decide +kernel)) ggX7_curve_X7_sizeOf
theorem dX7_curve_0 : decode cX7_curve 0 = .ok (.aload_n 0, 1) := by decide +kernel
theorem dX7_curve_1 : decode cX7_curve 1 = .ok (.iload_n 1, 1) := by decide +kernel
theorem dX7_curve_2 : decode cX7_curve 2 = .ok (.invokevirtual 97, 3) := by decide +kernel
theorem dX7_curve_5 : decode cX7_curve 5 = .ok (.ifCond .eq 46, 3) := by decide +kernel
theorem dX7_curve_8 : decode cX7_curve 8 = .ok (.aload_n 0, 1) := by decide +kernel
theorem dX7_curve_9 : decode cX7_curve 9 = .ok (.iload_n 2, 1) := by decide +kernel
theorem dX7_curve_10 : decode cX7_curve 10 = .ok (.invokevirtual 97, 3) := by decide +kernel
theorem dX7_curve_13 : decode cX7_curve 13 = .ok (.ifCond .eq 38, 3) := by decide +kernel
theorem dX7_curve_16 : decode cX7_curve 16 = .ok (.aload_n 0, 1) := by decide +kernel
theorem dX7_curve_17 : decode cX7_curve 17 = .ok (.iload_n 3, 1) := by decide +kernel
theorem dX7_curve_18 : decode cX7_curve 18 = .ok (.invokevirtual 97, 3) := by decide +kernel
theorem dX7_curve_21 : decode cX7_curve 21 = .ok (.ifCond .eq 30, 3) := by decide +kernel
theorem dX7_curve_24 : decode cX7_curve 24 = .ok (.aload_n 0, 1) := by decide +kernel
theorem dX7_curve_25 : decode cX7_curve 25 = .ok (.iload 4, 2) := by decide +kernel
theorem dX7_curve_27 : decode cX7_curve 27 = .ok (.invokevirtual 97, 3) := by decide +kernel
theorem dX7_curve_30 : decode cX7_curve 30 = .ok (.ifCond .eq 21, 3) := by decide +kernel
theorem dX7_curve_33 : decode cX7_curve 33 = .ok (.aload_n 0, 1) := by decide +kernel
theorem dX7_curve_34 : decode cX7_curve 34 = .ok (.iload 5, 2) := by decide +kernel
theorem dX7_curve_36 : decode cX7_curve 36 = .ok (.invokevirtual 97, 3) := by decide +kernel
theorem dX7_curve_39 : decode cX7_curve 39 = .ok (.ifCond .eq 12, 3) := by decide +kernel
theorem dX7_curve_42 : decode cX7_curve 42 = .ok (.aload_n 0, 1) := by decide +kernel
theorem dX7_curve_43 : decode cX7_curve 43 = .ok (.iload 6, 2) := by decide +kernel
theorem dX7_curve_45 : decode cX7_curve 45 = .ok (.invokevirtual 97, 3) := by decide +kernel
theorem dX7_curve_48 : decode cX7_curve 48 = .ok (.ifCond .ne 6, 3) := by decide +kernel
theorem dX7_curve_51 : decode cX7_curve 51 = .ok (.bipush (-2), 2) := by decide +kernel
theorem dX7_curve_53 : decode cX7_curve 53 = .ok (.ireturn, 1) := by decide +kernel
theorem dX7_curve_54 : decode cX7_curve 54 = .ok (.iload_n 1, 1) := by decide +kernel
theorem dX7_curve_55 : decode cX7_curve 55 = .ok (.iload_n 2, 1) := by decide +kernel
theorem dX7_curve_56 : decode cX7_curve 56 = .ok (.iadd, 1) := by decide +kernel
theorem dX7_curve_57 : decode cX7_curve 57 = .ok (.iload_n 3, 1) := by decide +kernel
theorem dX7_curve_58 : decode cX7_curve 58 = .ok (.iadd, 1) := by decide +kernel
theorem dX7_curve_59 : decode cX7_curve 59 = .ok (.iload 4, 2) := by decide +kernel
theorem dX7_curve_61 : decode cX7_curve 61 = .ok (.iadd, 1) := by decide +kernel
theorem dX7_curve_62 : decode cX7_curve 62 = .ok (.iload 5, 2) := by decide +kernel
theorem dX7_curve_64 : decode cX7_curve 64 = .ok (.iadd, 1) := by decide +kernel
theorem dX7_curve_65 : decode cX7_curve 65 = .ok (.iload 6, 2) := by decide +kernel
theorem dX7_curve_67 : decode cX7_curve 67 = .ok (.iadd, 1) := by decide +kernel
theorem dX7_curve_68 : decode cX7_curve 68 = .ok (.ifCond .ne 6, 3) := by decide +kernel
theorem dX7_curve_71 : decode cX7_curve 71 = .ok (.bipush (-3), 2) := by decide +kernel
theorem dX7_curve_73 : decode cX7_curve 73 = .ok (.ireturn, 1) := by decide +kernel
theorem dX7_curve_74 : decode cX7_curve 74 = .ok (.iconst 0, 1) := by decide +kernel
theorem dX7_curve_75 : decode cX7_curve 75 = .ok (.istore 7, 2) := by decide +kernel
theorem dX7_curve_77 : decode cX7_curve 77 = .ok (.iload 7, 2) := by decide +kernel
theorem dX7_curve_79 : decode cX7_curve 79 = .ok (.aload_n 0, 1) := by decide +kernel
theorem dX7_curve_80 : decode cX7_curve 80 = .ok (.getfield 83, 3) := by decide +kernel
theorem dX7_curve_83 : decode cX7_curve 83 = .ok (.if_icmp .ge 39, 3) := by decide +kernel
theorem dX7_curve_86 : decode cX7_curve 86 = .ok (.aload_n 0, 1) := by decide +kernel
theorem dX7_curve_87 : decode cX7_curve 87 = .ok (.getfield 25, 3) := by decide +kernel
theorem dX7_curve_90 : decode cX7_curve 90 = .ok (.iload 7, 2) := by decide +kernel
theorem dX7_curve_92 : decode cX7_curve 92 = .ok (.aload_n 0, 1) := by decide +kernel
theorem dX7_curve_93 : decode cX7_curve 93 = .ok (.iload_n 1, 1) := by decide +kernel
theorem dX7_curve_94 : decode cX7_curve 94 = .ok (.iload_n 2, 1) := by decide +kernel
theorem dX7_curve_95 : decode cX7_curve 95 = .ok (.iload_n 3, 1) := by decide +kernel
theorem dX7_curve_96 : decode cX7_curve 96 = .ok (.iload 4, 2) := by decide +kernel
theorem dX7_curve_98 : decode cX7_curve 98 = .ok (.iload 5, 2) := by decide +kernel
theorem dX7_curve_100 : decode cX7_curve 100 = .ok (.iload 6, 2) := by decide +kernel
theorem dX7_curve_102 : decode cX7_curve 102 = .ok (.iload 7, 2) := by decide +kernel
theorem dX7_curve_104 : decode cX7_curve 104 = .ok (.invokevirtual 156, 3) := by decide +kernel
theorem dX7_curve_107 : decode cX7_curve 107 = .ok (.ifCond .ne 7, 3) := by decide +kernel
theorem dX7_curve_110 : decode cX7_curve 110 = .ok (.iconst 1, 1) := by decide +kernel
theorem dX7_curve_111 : decode cX7_curve 111 = .ok (.goto 4, 3) := by decide +kernel
theorem dX7_curve_114 : decode cX7_curve 114 = .ok (.iconst 0, 1) := by decide +kernel
theorem dX7_curve_115 : decode cX7_curve 115 = .ok (.bastore, 1) := by decide +kernel
theorem dX7_curve_116 : decode cX7_curve 116 = .ok (.iinc 7 1, 3) := by decide +kernel
theorem dX7_curve_119 : decode cX7_curve 119 = .ok (.goto (-42), 3) := by decide +kernel
theorem dX7_curve_122 : decode cX7_curve 122 = .ok (.aload_n 0, 1) := by decide +kernel
theorem dX7_curve_123 : decode cX7_curve 123 = .ok (.aload_n 0, 1) := by decide +kernel
theorem dX7_curve_124 : decode cX7_curve 124 = .ok (.getfield 25, 3) := by decide +kernel
theorem dX7_curve_127 : decode cX7_curve 127 = .ok (.invokevirtual 146, 3) := by decide +kernel
theorem dX7_curve_130 : decode cX7_curve 130 = .ok (.ireturn, 1) := by decide +kernel
theorem dX7_digit_0 : decode cX7_digit 0 = .ok (.iload_n 1, 1) := by decide +kernel
theorem dX7_digit_1 : decode cX7_digit 1 = .ok (.istore_n 3, 1) := by decide +kernel
theorem dX7_digit_2 : decode cX7_digit 2 = .ok (.iconst 5, 1) := by decide +kernel
theorem dX7_digit_3 : decode cX7_digit 3 = .ok (.istore 4, 2) := by decide +kernel
theorem dX7_digit_5 : decode cX7_digit 5 = .ok (.iload 4, 2) := by decide +kernel
theorem dX7_digit_7 : decode cX7_digit 7 = .ok (.iload_n 2, 1) := by decide +kernel
theorem dX7_digit_8 : decode cX7_digit 8 = .ok (.if_icmp .le 16, 3) := by decide +kernel
theorem dX7_digit_11 : decode cX7_digit 11 = .ok (.iload_n 3, 1) := by decide +kernel
theorem dX7_digit_12 : decode cX7_digit 12 = .ok (.aload_n 0, 1) := by decide +kernel
theorem dX7_digit_13 : decode cX7_digit 13 = .ok (.getfield 74, 3) := by decide +kernel
theorem dX7_digit_16 : decode cX7_digit 16 = .ok (.idiv, 1) := by decide +kernel
theorem dX7_digit_17 : decode cX7_digit 17 = .ok (.istore_n 3, 1) := by decide +kernel
theorem dX7_digit_18 : decode cX7_digit 18 = .ok (.iinc 4 (-1), 3) := by decide +kernel
theorem dX7_digit_21 : decode cX7_digit 21 = .ok (.goto (-16), 3) := by decide +kernel
theorem dX7_digit_24 : decode cX7_digit 24 = .ok (.iload_n 3, 1) := by decide +kernel
theorem dX7_digit_25 : decode cX7_digit 25 = .ok (.aload_n 0, 1) := by decide +kernel
theorem dX7_digit_26 : decode cX7_digit 26 = .ok (.getfield 74, 3) := by decide +kernel
theorem dX7_digit_29 : decode cX7_digit 29 = .ok (.irem, 1) := by decide +kernel
theorem dX7_digit_30 : decode cX7_digit 30 = .ok (.ireturn, 1) := by decide +kernel
set_option maxRecDepth 20000 in
theorem ggX7_isThrough_X7_digit : GoodIn wsX7_isThrough wsX7_digit := goodIn_r _ [7, 8, 26, 27, 28, 29, 30, 31, 32, 33, 34, 35, 36, 37, 38, 39, 40, 41, 42, 43, 44, 45] (by decide +kernel) (by decide +kernel)
set_option maxRecDepth 20000 in
theorem gX7_isThrough_X7_digit : GoodIn wsX7_isThrough (wsV RX7 160 RX7 yX7_digit wsX7_digit) := goodIn_app (goodIn_of _ (by decide +kernel)) ggX7_isThrough_X7_digit
set_option maxRecDepth 20000 in
theorem ggX7_isThrough_X7_valueOf : GoodIn wsX7_isThrough wsX7_valueOf := goodIn_r _ [12, 13, 14, 15, 16, 17, 18, 6, 19, 20, 21, 22, 23, 24, 25, 26, 27, 28, 29, 30, 31, 32, 33, 34, 35, 36, 37, 38, 39, 40, 41, 42, 43, 44, 45] (by decide +kernel) (by decide +kernel)
set_option maxRecDepth 20000 in
theorem gX7_isThrough_X7_valueOf : GoodIn wsX7_isThrough (wsV RX7 156 RX7 yX7_valueOf wsX7_valueOf) := goodIn_app (goodIn_of _ (by decide +kernel)) ggX7_isThrough_X7_valueOf
theorem dX7_isThrough_0 : decode cX7_isThrough 0 = .ok (.iconst 1, 1) := by decide +kernel
theorem dX7_isThrough_1 : decode cX7_isThrough 1 = .ok (.istore_n 2, 1) := by decide +kernel
theorem dX7_isThrough_2 : decode cX7_isThrough 2 = .ok (.iconst 0, 1) := by decide +kernel
theorem dX7_isThrough_3 : decode cX7_isThrough 3 = .ok (.istore_n 3, 1) := by decide +kernel
theorem dX7_isThrough_4 : decode cX7_isThrough 4 = .ok (.iload_n 3, 1) := by decide +kernel
theorem dX7_isThrough_5 : decode cX7_isThrough 5 = .ok (.aload_n 0, 1) := by decide +kernel
theorem dX7_isThrough_6 : decode cX7_isThrough 6 = .ok (.getfield 83, 3) := by decide +kernel
theorem dX7_isThrough_9 : decode cX7_isThrough 9 = .ok (.if_icmp .ge 72, 3) := by decide +kernel
theorem dX7_isThrough_12 : decode cX7_isThrough 12 = .ok (.iload_n 2, 1) := by decide +kernel
theorem dX7_isThrough_13 : decode cX7_isThrough 13 = .ok (.ifCond .eq 68, 3) := by decide +kernel
theorem dX7_isThrough_16 : decode cX7_isThrough 16 = .ok (.aload_n 0, 1) := by decide +kernel
theorem dX7_isThrough_17 : decode cX7_isThrough 17 = .ok (.getfield 25, 3) := by decide +kernel
theorem dX7_isThrough_20 : decode cX7_isThrough 20 = .ok (.iload_n 3, 1) := by decide +kernel
theorem dX7_isThrough_21 : decode cX7_isThrough 21 = .ok (.baload, 1) := by decide +kernel
theorem dX7_isThrough_22 : decode cX7_isThrough 22 = .ok (.ifCond .eq 47, 3) := by decide +kernel
theorem dX7_isThrough_25 : decode cX7_isThrough 25 = .ok (.aload_n 0, 1) := by decide +kernel
theorem dX7_isThrough_26 : decode cX7_isThrough 26 = .ok (.aload_n 0, 1) := by decide +kernel
theorem dX7_isThrough_27 : decode cX7_isThrough 27 = .ok (.iload_n 1, 1) := by decide +kernel
theorem dX7_isThrough_28 : decode cX7_isThrough 28 = .ok (.iconst 0, 1) := by decide +kernel
theorem dX7_isThrough_29 : decode cX7_isThrough 29 = .ok (.invokevirtual 160, 3) := by decide +kernel
theorem dX7_isThrough_32 : decode cX7_isThrough 32 = .ok (.aload_n 0, 1) := by decide +kernel
theorem dX7_isThrough_33 : decode cX7_isThrough 33 = .ok (.iload_n 1, 1) := by decide +kernel
theorem dX7_isThrough_34 : decode cX7_isThrough 34 = .ok (.iconst 1, 1) := by decide +kernel
theorem dX7_isThrough_35 : decode cX7_isThrough 35 = .ok (.invokevirtual 160, 3) := by decide +kernel
theorem dX7_isThrough_38 : decode cX7_isThrough 38 = .ok (.aload_n 0, 1) := by decide +kernel
theorem dX7_isThrough_39 : decode cX7_isThrough 39 = .ok (.iload_n 1, 1) := by decide +kernel
theorem dX7_isThrough_40 : decode cX7_isThrough 40 = .ok (.iconst 2, 1) := by decide +kernel
theorem dX7_isThrough_41 : decode cX7_isThrough 41 = .ok (.invokevirtual 160, 3) := by decide +kernel
theorem dX7_isThrough_44 : decode cX7_isThrough 44 = .ok (.aload_n 0, 1) := by decide +kernel
theorem dX7_isThrough_45 : decode cX7_isThrough 45 = .ok (.iload_n 1, 1) := by decide +kernel
theorem dX7_isThrough_46 : decode cX7_isThrough 46 = .ok (.iconst 3, 1) := by decide +kernel
theorem dX7_isThrough_47 : decode cX7_isThrough 47 = .ok (.invokevirtual 160, 3) := by decide +kernel
theorem dX7_isThrough_50 : decode cX7_isThrough 50 = .ok (.aload_n 0, 1) := by decide +kernel
theorem dX7_isThrough_51 : decode cX7_isThrough 51 = .ok (.iload_n 1, 1) := by decide +kernel
theorem dX7_isThrough_52 : decode cX7_isThrough 52 = .ok (.iconst 4, 1) := by decide +kernel
theorem dX7_isThrough_53 : decode cX7_isThrough 53 = .ok (.invokevirtual 160, 3) := by decide +kernel
theorem dX7_isThrough_56 : decode cX7_isThrough 56 = .ok (.aload_n 0, 1) := by decide +kernel
theorem dX7_isThrough_57 : decode cX7_isThrough 57 = .ok (.iload_n 1, 1) := by decide +kernel
theorem dX7_isThrough_58 : decode cX7_isThrough 58 = .ok (.iconst 5, 1) := by decide +kernel
theorem dX7_isThrough_59 : decode cX7_isThrough 59 = .ok (.invokevirtual 160, 3) := by decide +kernel
theorem dX7_isThrough_62 : decode cX7_isThrough 62 = .ok (.iload_n 3, 1) := by decide +kernel
theorem dX7_isThrough_63 : decode cX7_isThrough 63 = .ok (.invokevirtual 156, 3) := by decide +kernel
theorem dX7_isThrough_66 : decode cX7_isThrough 66 = .ok (.ifCond .ne 7, 3) := by decide +kernel
theorem dX7_isThrough_69 : decode cX7_isThrough 69 = .ok (.iconst 1, 1) := by decide +kernel
theorem dX7_isThrough_70 : decode cX7_isThrough 70 = .ok (.goto 4, 3) := by decide +kernel
theorem dX7_isThrough_73 : decode cX7_isThrough 73 = .ok (.iconst 0, 1) := by decide +kernel
theorem dX7_isThrough_74 : decode cX7_isThrough 74 = .ok (.istore_n 2, 1) := by decide +kernel
theorem dX7_isThrough_75 : decode cX7_isThrough 75 = .ok (.iinc 3 1, 3) := by decide +kernel
theorem dX7_isThrough_78 : decode cX7_isThrough 78 = .ok (.goto (-74), 3) := by decide +kernel
theorem dX7_isThrough_81 : decode cX7_isThrough 81 = .ok (.iload_n 2, 1) := by decide +kernel
theorem dX7_isThrough_82 : decode cX7_isThrough 82 = .ok (.ireturn, 1) := by decide +kernel
set_option maxRecDepth 20000 in
theorem ggX7_isFirstOne_X7_digit : GoodIn wsX7_isFirstOne wsX7_digit := goodIn_r _ [5, 6, 7, 8, 9, 10, 11, 12, 13, 14, 15, 16, 17, 18, 19, 20, 21, 22, 23, 24, 25, 26] (by decide +kernel) (by decide +kernel)
set_option maxRecDepth 20000 in
theorem gX7_isFirstOne_X7_digit : GoodIn wsX7_isFirstOne (wsV RX7 160 RX7 yX7_digit wsX7_digit) := goodIn_app (goodIn_of _ (by decide +kernel)) ggX7_isFirstOne_X7_digit
theorem dX7_isFirstOne_0 : decode cX7_isFirstOne 0 = .ok (.iconst 0, 1) := by decide +kernel
theorem dX7_isFirstOne_1 : decode cX7_isFirstOne 1 = .ok (.istore_n 2, 1) := by decide +kernel
theorem dX7_isFirstOne_2 : decode cX7_isFirstOne 2 = .ok (.iconst 0, 1) := by decide +kernel
theorem dX7_isFirstOne_3 : decode cX7_isFirstOne 3 = .ok (.istore_n 3, 1) := by decide +kernel
theorem dX7_isFirstOne_4 : decode cX7_isFirstOne 4 = .ok (.iload_n 3, 1) := by decide +kernel
theorem dX7_isFirstOne_5 : decode cX7_isFirstOne 5 = .ok (.bipush 6, 2) := by decide +kernel
theorem dX7_isFirstOne_7 : decode cX7_isFirstOne 7 = .ok (.if_icmp .ge 24, 3) := by decide +kernel
theorem dX7_isFirstOne_10 : decode cX7_isFirstOne 10 = .ok (.iload_n 2, 1) := by decide +kernel
theorem dX7_isFirstOne_11 : decode cX7_isFirstOne 11 = .ok (.ifCond .ne 12, 3) := by decide +kernel
theorem dX7_isFirstOne_14 : decode cX7_isFirstOne 14 = .ok (.aload_n 0, 1) := by decide +kernel
theorem dX7_isFirstOne_15 : decode cX7_isFirstOne 15 = .ok (.iload_n 1, 1) := by decide +kernel
theorem dX7_isFirstOne_16 : decode cX7_isFirstOne 16 = .ok (.iload_n 3, 1) := by decide +kernel
theorem dX7_isFirstOne_17 : decode cX7_isFirstOne 17 = .ok (.invokevirtual 160, 3) := by decide +kernel
theorem dX7_isFirstOne_20 : decode cX7_isFirstOne 20 = .ok (.goto 4, 3) := by decide +kernel
theorem dX7_isFirstOne_23 : decode cX7_isFirstOne 23 = .ok (.iload_n 2, 1) := by decide +kernel
theorem dX7_isFirstOne_24 : decode cX7_isFirstOne 24 = .ok (.istore_n 2, 1) := by decide +kernel
theorem dX7_isFirstOne_25 : decode cX7_isFirstOne 25 = .ok (.iinc 3 1, 3) := by decide +kernel
theorem dX7_isFirstOne_28 : decode cX7_isFirstOne 28 = .ok (.goto (-24), 3) := by decide +kernel
theorem dX7_isFirstOne_31 : decode cX7_isFirstOne 31 = .ok (.iload_n 2, 1) := by decide +kernel
theorem dX7_isFirstOne_32 : decode cX7_isFirstOne 32 = .ok (.iconst 1, 1) := by decide +kernel
theorem dX7_isFirstOne_33 : decode cX7_isFirstOne 33 = .ok (.if_icmp .ne 7, 3) := by decide +kernel
theorem dX7_isFirstOne_36 : decode cX7_isFirstOne 36 = .ok (.iconst 1, 1) := by decide +kernel
theorem dX7_isFirstOne_37 : decode cX7_isFirstOne 37 = .ok (.goto 4, 3) := by decide +kernel
theorem dX7_isFirstOne_40 : decode cX7_isFirstOne 40 = .ok (.iconst 0, 1) := by decide +kernel
theorem dX7_isFirstOne_41 : decode cX7_isFirstOne 41 = .ok (.ireturn, 1) := by decide +kernel
set_option maxRecDepth 20000 in
theorem ggX7_through_X7_isFrom : GoodIn wsX7_through wsX7_isFrom := goodIn_r _ [6] (by decide +kernel) (by decide +kernel)
set_option maxRecDepth 20000 in
theorem gX7_through_X7_isFrom : GoodIn wsX7_through (va_wsS RX7 93 yX7_isFrom wsX7_isFrom) := goodIn_app (goodIn_of _ (by decide +kernel)) ggX7_through_X7_isFrom
set_option maxRecDepth 20000 in
theorem ggX7_through_X7_sizeOf : GoodIn wsX7_through wsX7_sizeOf := goodIn_r _ [10, 2, 49, 50, 51, 52, 53, 54, 55, 56, 57, 58, 59, 60, 61, 62, 63, 64, 65, 66, 67, 68] (by decide +kernel) (by decide +kernel)
set_option maxRecDepth 20000 in
theorem gX7_through_X7_sizeOf : GoodIn wsX7_through (wsV RX7 146 RX7 yX7_sizeOf wsX7_sizeOf) := goodIn_app (goodIn_of _ (by decide +kernel)) ggX7_through_X7_sizeOf
set_option maxRecDepth 20000 in
theorem ggX7_through_X7_met : GoodIn wsX7_through wsX7_met := goodIn_r _ [14, 2, 15, 16, 17, 5, 18, 19, 20, 21, 22, 23, 24, 25, 26, 27, 28, 29, 30, 31, 49, 50, 51, 52, 53, 54, 55, 56, 57, 58, 59, 60, 61, 62, 63, 64, 65, 66, 67, 68] (by decide +kernel) (by decide +kernel)
set_option maxRecDepth 20000 in
theorem gX7_through_X7_met : GoodIn wsX7_through (wsV RX7 128 RX7 yX7_met wsX7_met) := goodIn_app (goodIn_of _ (by decide +kernel)) ggX7_through_X7_met
set_option maxRecDepth 20000 in
theorem ggX7_through_X7_isFirstOne : GoodIn wsX7_through wsX7_isFirstOne := goodIn_r _ [35, 36, 37, 38, 5, 39, 40, 49, 50, 51, 52, 53, 54, 55, 56, 57, 58, 59, 60, 61, 62, 63, 64, 65, 66, 67, 68] (by decide +kernel) (by decide +kernel)
set_option maxRecDepth 20000 in
theorem gX7_through_X7_isFirstOne : GoodIn wsX7_through (wsV RX7 163 RX7 yX7_isFirstOne wsX7_isFirstOne) := goodIn_app (goodIn_of _ (by decide +kernel)) ggX7_through_X7_isFirstOne
set_option maxRecDepth 20000 in
theorem ggX7_through_X7_isThrough : GoodIn wsX7_through wsX7_isThrough := goodIn_r _ [44, 2, 1, 36, 37, 38, 5, 39, 40, 45, 46, 47, 48, 19, 20, 21, 22, 23, 24, 25, 26, 27, 28, 29, 30, 31, 49, 50, 51, 52, 53, 54, 55, 56, 57, 58, 59, 60, 61, 62, 63, 64, 65, 66, 67, 68] (by decide +kernel) (by decide +kernel)
set_option maxRecDepth 20000 in
theorem gX7_through_X7_isThrough : GoodIn wsX7_through (wsV RX7 166 RX7 yX7_isThrough wsX7_isThrough) := goodIn_app (goodIn_of _ (by decide +kernel)) ggX7_through_X7_isThrough
set_option maxRecDepth 20000 in
theorem ggX7_through_X7_digit : GoodIn wsX7_through wsX7_digit := goodIn_r _ [39, 40, 49, 50, 51, 52, 53, 54, 55, 56, 57, 58, 59, 60, 61, 62, 63, 64, 65, 66, 67, 68] (by decide +kernel) (by decide +kernel)
set_option maxRecDepth 20000 in
theorem gX7_through_X7_digit : GoodIn wsX7_through (wsV RX7 160 RX7 yX7_digit wsX7_digit) := goodIn_app (goodIn_of _ (by decide +kernel)) ggX7_through_X7_digit
theorem dX7_through_0 : decode cX7_through 0 = .ok (.iload_n 1, 1) := by decide +kernel
theorem dX7_through_1 : decode cX7_through 1 = .ok (.iconst 0, 1) := by decide +kernel
theorem dX7_through_2 : decode cX7_through 2 = .ok (.iconst 5, 1) := by decide +kernel
theorem dX7_through_3 : decode cX7_through 3 = .ok (.invokestatic 93, 3) := by decide +kernel
theorem dX7_through_6 : decode cX7_through 6 = .ok (.ifCond .ne 6, 3) := by decide +kernel
theorem dX7_through_9 : decode cX7_through 9 = .ok (.bipush (-2), 2) := by decide +kernel
theorem dX7_through_11 : decode cX7_through 11 = .ok (.ireturn, 1) := by decide +kernel
theorem dX7_through_12 : decode cX7_through 12 = .ok (.aload_n 0, 1) := by decide +kernel
theorem dX7_through_13 : decode cX7_through 13 = .ok (.aload_n 0, 1) := by decide +kernel
theorem dX7_through_14 : decode cX7_through 14 = .ok (.getfield 25, 3) := by decide +kernel
theorem dX7_through_17 : decode cX7_through 17 = .ok (.invokevirtual 146, 3) := by decide +kernel
theorem dX7_through_20 : decode cX7_through 20 = .ok (.iconst 5, 1) := by decide +kernel
theorem dX7_through_21 : decode cX7_through 21 = .ok (.if_icmp .ne 7, 3) := by decide +kernel
theorem dX7_through_24 : decode cX7_through 24 = .ok (.iconst 1, 1) := by decide +kernel
theorem dX7_through_25 : decode cX7_through 25 = .ok (.goto 4, 3) := by decide +kernel
theorem dX7_through_28 : decode cX7_through 28 = .ok (.iconst 0, 1) := by decide +kernel
theorem dX7_through_29 : decode cX7_through 29 = .ok (.istore_n 2, 1) := by decide +kernel
theorem dX7_through_30 : decode cX7_through 30 = .ok (.iconst 0, 1) := by decide +kernel
theorem dX7_through_31 : decode cX7_through 31 = .ok (.istore_n 3, 1) := by decide +kernel
theorem dX7_through_32 : decode cX7_through 32 = .ok (.iload_n 3, 1) := by decide +kernel
theorem dX7_through_33 : decode cX7_through 33 = .ok (.aload_n 0, 1) := by decide +kernel
theorem dX7_through_34 : decode cX7_through 34 = .ok (.getfield 83, 3) := by decide +kernel
theorem dX7_through_37 : decode cX7_through 37 = .ok (.if_icmp .ge 32, 3) := by decide +kernel
theorem dX7_through_40 : decode cX7_through 40 = .ok (.iload_n 2, 1) := by decide +kernel
theorem dX7_through_41 : decode cX7_through 41 = .ok (.ifCond .eq 20, 3) := by decide +kernel
theorem dX7_through_44 : decode cX7_through 44 = .ok (.aload_n 0, 1) := by decide +kernel
theorem dX7_through_45 : decode cX7_through 45 = .ok (.aload_n 0, 1) := by decide +kernel
theorem dX7_through_46 : decode cX7_through 46 = .ok (.getfield 25, 3) := by decide +kernel
theorem dX7_through_49 : decode cX7_through 49 = .ok (.iload_n 3, 1) := by decide +kernel
theorem dX7_through_50 : decode cX7_through 50 = .ok (.invokevirtual 128, 3) := by decide +kernel
theorem dX7_through_53 : decode cX7_through 53 = .ok (.iconst 4, 1) := by decide +kernel
theorem dX7_through_54 : decode cX7_through 54 = .ok (.if_icmp .ge 7, 3) := by decide +kernel
theorem dX7_through_57 : decode cX7_through 57 = .ok (.iconst 1, 1) := by decide +kernel
theorem dX7_through_58 : decode cX7_through 58 = .ok (.goto 4, 3) := by decide +kernel
theorem dX7_through_61 : decode cX7_through 61 = .ok (.iconst 0, 1) := by decide +kernel
theorem dX7_through_62 : decode cX7_through 62 = .ok (.istore_n 2, 1) := by decide +kernel
theorem dX7_through_63 : decode cX7_through 63 = .ok (.iinc 3 1, 3) := by decide +kernel
theorem dX7_through_66 : decode cX7_through 66 = .ok (.goto (-34), 3) := by decide +kernel
theorem dX7_through_69 : decode cX7_through 69 = .ok (.iload_n 2, 1) := by decide +kernel
theorem dX7_through_70 : decode cX7_through 70 = .ok (.ifCond .ne 5, 3) := by decide +kernel
theorem dX7_through_73 : decode cX7_through 73 = .ok (.iconst (-1), 1) := by decide +kernel
theorem dX7_through_74 : decode cX7_through 74 = .ok (.ireturn, 1) := by decide +kernel
theorem dX7_through_75 : decode cX7_through 75 = .ok (.iconst 1, 1) := by decide +kernel
theorem dX7_through_76 : decode cX7_through 76 = .ok (.istore_n 3, 1) := by decide +kernel
theorem dX7_through_77 : decode cX7_through 77 = .ok (.aload_n 0, 1) := by decide +kernel
theorem dX7_through_78 : decode cX7_through 78 = .ok (.iload_n 3, 1) := by decide +kernel
theorem dX7_through_79 : decode cX7_through 79 = .ok (.invokevirtual 163, 3) := by decide +kernel
theorem dX7_through_82 : decode cX7_through 82 = .ok (.ifCond .eq 11, 3) := by decide +kernel
theorem dX7_through_85 : decode cX7_through 85 = .ok (.aload_n 0, 1) := by decide +kernel
theorem dX7_through_86 : decode cX7_through 86 = .ok (.iload_n 3, 1) := by decide +kernel
theorem dX7_through_87 : decode cX7_through 87 = .ok (.invokevirtual 166, 3) := by decide +kernel
theorem dX7_through_90 : decode cX7_through 90 = .ok (.ifCond .ne 9, 3) := by decide +kernel
theorem dX7_through_93 : decode cX7_through 93 = .ok (.iinc 3 1, 3) := by decide +kernel
theorem dX7_through_96 : decode cX7_through 96 = .ok (.goto (-19), 3) := by decide +kernel
theorem dX7_through_99 : decode cX7_through 99 = .ok (.aload_n 0, 1) := by decide +kernel
theorem dX7_through_100 : decode cX7_through 100 = .ok (.iload_n 3, 1) := by decide +kernel
theorem dX7_through_101 : decode cX7_through 101 = .ok (.iload_n 1, 1) := by decide +kernel
theorem dX7_through_102 : decode cX7_through 102 = .ok (.invokevirtual 160, 3) := by decide +kernel
theorem dX7_through_105 : decode cX7_through 105 = .ok (.ireturn, 1) := by decide +kernel
set_option maxRecDepth 20000 in
theorem ggX7_entry_X7_isFrom : GoodIn wsX7_entry wsX7_isFrom := goodIn_r _ [5] (by decide +kernel) (by decide +kernel)
set_option maxRecDepth 20000 in
theorem gX7_entry_X7_isFrom : GoodIn wsX7_entry (va_wsS RX7 93 yX7_isFrom wsX7_isFrom) := goodIn_app (goodIn_of _ (by decide +kernel)) ggX7_entry_X7_isFrom
set_option maxRecDepth 20000 in
theorem ggX7_entry_X7_isNumber : GoodIn wsX7_entry wsX7_isNumber := goodIn_r _ [9, 10, 2, 3, 4, 5, 11, 12, 13, 14, 15, 16, 17, 18, 19, 20, 21, 22, 23, 24, 25, 26, 27, 28, 29, 30] (by decide +kernel) (by decide +kernel)
set_option maxRecDepth 20000 in
theorem gX7_entry_X7_isNumber : GoodIn wsX7_entry (wsV RX7 97 RX7 yX7_isNumber wsX7_isNumber) := goodIn_app (goodIn_of _ (by decide +kernel)) ggX7_entry_X7_isNumber
theorem dX7_entry_0 : decode cX7_entry 0 = .ok (.iload_n 1, 1) := by decide +kernel
theorem dX7_entry_1 : decode cX7_entry 1 = .ok (.iconst 0, 1) := by decide +kernel
theorem dX7_entry_2 : decode cX7_entry 2 = .ok (.bipush 8, 2) := by decide +kernel
theorem dX7_entry_4 : decode cX7_entry 4 = .ok (.invokestatic 93, 3) := by decide +kernel
theorem dX7_entry_7 : decode cX7_entry 7 = .ok (.ifCond .eq 11, 3) := by decide +kernel
theorem dX7_entry_10 : decode cX7_entry 10 = .ok (.aload_n 0, 1) := by decide +kernel
theorem dX7_entry_11 : decode cX7_entry 11 = .ok (.iload_n 2, 1) := by decide +kernel
theorem dX7_entry_12 : decode cX7_entry 12 = .ok (.invokevirtual 97, 3) := by decide +kernel
theorem dX7_entry_15 : decode cX7_entry 15 = .ok (.ifCond .ne 6, 3) := by decide +kernel
theorem dX7_entry_18 : decode cX7_entry 18 = .ok (.bipush (-2), 2) := by decide +kernel
theorem dX7_entry_20 : decode cX7_entry 20 = .ok (.ireturn, 1) := by decide +kernel
theorem dX7_entry_21 : decode cX7_entry 21 = .ok (.aload_n 0, 1) := by decide +kernel
theorem dX7_entry_22 : decode cX7_entry 22 = .ok (.getfield 29, 3) := by decide +kernel
theorem dX7_entry_25 : decode cX7_entry 25 = .ok (.iload_n 1, 1) := by decide +kernel
theorem dX7_entry_26 : decode cX7_entry 26 = .ok (.iaload, 1) := by decide +kernel
theorem dX7_entry_27 : decode cX7_entry 27 = .ok (.istore_n 3, 1) := by decide +kernel
theorem dX7_entry_28 : decode cX7_entry 28 = .ok (.aload_n 0, 1) := by decide +kernel
theorem dX7_entry_29 : decode cX7_entry 29 = .ok (.getfield 29, 3) := by decide +kernel
theorem dX7_entry_32 : decode cX7_entry 32 = .ok (.iload_n 1, 1) := by decide +kernel
theorem dX7_entry_33 : decode cX7_entry 33 = .ok (.iload_n 2, 1) := by decide +kernel
theorem dX7_entry_34 : decode cX7_entry 34 = .ok (.iastore, 1) := by decide +kernel
theorem dX7_entry_35 : decode cX7_entry 35 = .ok (.iload_n 3, 1) := by decide +kernel
theorem dX7_entry_36 : decode cX7_entry 36 = .ok (.ireturn, 1) := by decide +kernel
set_option maxRecDepth 20000 in
theorem ggX7_minor_X7_times : GoodIn wsX7_minor wsX7_times := goodIn_r _ [5, 6, 16, 17, 18, 19, 20, 21, 22, 23, 24, 25, 26, 27, 28, 29, 30, 31, 32, 33, 34, 35] (by decide +kernel) (by decide +kernel)
set_option maxRecDepth 20000 in
theorem gX7_minor_X7_times : GoodIn wsX7_minor (wsV RX7 90 RX7 yX7_times wsX7_times) := goodIn_app (goodIn_of _ (by decide +kernel)) ggX7_minor_X7_times
set_option maxRecDepth 20000 in
theorem ggX7_minor_X7_less : GoodIn wsX7_minor wsX7_less := goodIn_r _ [10, 11, 12, 13, 4, 14, 15, 16, 17, 18, 19, 20, 21, 22, 23, 24, 25, 26, 27, 28, 29, 30, 31, 32, 33, 34, 35] (by decide +kernel) (by decide +kernel)
set_option maxRecDepth 20000 in
theorem gX7_minor_X7_less : GoodIn wsX7_minor (wsV RX7 101 RX7 yX7_less wsX7_less) := goodIn_app (goodIn_of _ (by decide +kernel)) ggX7_minor_X7_less
theorem dX7_minor_0 : decode cX7_minor 0 = .ok (.aload_n 0, 1) := by decide +kernel
theorem dX7_minor_1 : decode cX7_minor 1 = .ok (.aload_n 0, 1) := by decide +kernel
theorem dX7_minor_2 : decode cX7_minor 2 = .ok (.iload_n 1, 1) := by decide +kernel
theorem dX7_minor_3 : decode cX7_minor 3 = .ok (.iload 4, 2) := by decide +kernel
theorem dX7_minor_5 : decode cX7_minor 5 = .ok (.invokevirtual 90, 3) := by decide +kernel
theorem dX7_minor_8 : decode cX7_minor 8 = .ok (.aload_n 0, 1) := by decide +kernel
theorem dX7_minor_9 : decode cX7_minor 9 = .ok (.iload_n 2, 1) := by decide +kernel
theorem dX7_minor_10 : decode cX7_minor 10 = .ok (.iload_n 3, 1) := by decide +kernel
theorem dX7_minor_11 : decode cX7_minor 11 = .ok (.invokevirtual 90, 3) := by decide +kernel
theorem dX7_minor_14 : decode cX7_minor 14 = .ok (.invokevirtual 101, 3) := by decide +kernel
theorem dX7_minor_17 : decode cX7_minor 17 = .ok (.ireturn, 1) := by decide +kernel
set_option maxRecDepth 20000 in
theorem ggX7_determinant_X7_minor : GoodIn wsX7_determinant wsX7_minor := goodIn_r _ [6, 7, 8, 9, 5, 10, 11, 12, 13, 14, 15, 16, 17, 18, 19, 20, 21, 22, 23, 24, 25, 26, 27, 28, 29, 30, 31, 32, 33, 34, 35, 36, 37, 38, 39, 40] (by decide +kernel) (by decide +kernel)
set_option maxRecDepth 20000 in
theorem gX7_determinant_X7_minor : GoodIn wsX7_determinant (wsV RX7 169 RX7 yX7_minor wsX7_minor) := goodIn_app (goodIn_of _ (by decide +kernel)) ggX7_determinant_X7_minor
set_option maxRecDepth 20000 in
theorem ggX7_determinant_X7_times : GoodIn wsX7_determinant wsX7_times := goodIn_r _ [10, 11, 21, 22, 23, 24, 25, 26, 27, 28, 29, 30, 31, 32, 33, 34, 35, 36, 37, 38, 39, 40] (by decide +kernel) (by decide +kernel)
set_option maxRecDepth 20000 in
theorem gX7_determinant_X7_times : GoodIn wsX7_determinant (wsV RX7 90 RX7 yX7_times wsX7_times) := goodIn_app (goodIn_of _ (by decide +kernel)) ggX7_determinant_X7_times
set_option maxRecDepth 20000 in
theorem ggX7_determinant_X7_less : GoodIn wsX7_determinant wsX7_less := goodIn_r _ [15, 16, 17, 18, 5, 19, 20, 21, 22, 23, 24, 25, 26, 27, 28, 29, 30, 31, 32, 33, 34, 35, 36, 37, 38, 39, 40] (by decide +kernel) (by decide +kernel)
set_option maxRecDepth 20000 in
theorem gX7_determinant_X7_less : GoodIn wsX7_determinant (wsV RX7 101 RX7 yX7_less wsX7_less) := goodIn_app (goodIn_of _ (by decide +kernel)) ggX7_determinant_X7_less
set_option maxRecDepth 20000 in
theorem ggX7_determinant_X7_add : GoodIn wsX7_determinant wsX7_add := goodIn_r _ [19, 20, 21, 22, 23, 24, 25, 26, 27, 28, 29, 30, 31, 32, 33, 34, 35, 36, 37, 38, 39, 40] (by decide +kernel) (by decide +kernel)
set_option maxRecDepth 20000 in
theorem gX7_determinant_X7_add : GoodIn wsX7_determinant (wsV RX7 86 RX7 yX7_add wsX7_add) := goodIn_app (goodIn_of _ (by decide +kernel)) ggX7_determinant_X7_add
theorem dX7_determinant_0 : decode cX7_determinant 0 = .ok (.aload_n 0, 1) := by decide +kernel
theorem dX7_determinant_1 : decode cX7_determinant 1 = .ok (.aload_n 0, 1) := by decide +kernel
theorem dX7_determinant_2 : decode cX7_determinant 2 = .ok (.getfield 29, 3) := by decide +kernel
theorem dX7_determinant_5 : decode cX7_determinant 5 = .ok (.iconst 0, 1) := by decide +kernel
theorem dX7_determinant_6 : decode cX7_determinant 6 = .ok (.iaload, 1) := by decide +kernel
theorem dX7_determinant_7 : decode cX7_determinant 7 = .ok (.aload_n 0, 1) := by decide +kernel
theorem dX7_determinant_8 : decode cX7_determinant 8 = .ok (.aload_n 0, 1) := by decide +kernel
theorem dX7_determinant_9 : decode cX7_determinant 9 = .ok (.getfield 29, 3) := by decide +kernel
theorem dX7_determinant_12 : decode cX7_determinant 12 = .ok (.iconst 4, 1) := by decide +kernel
theorem dX7_determinant_13 : decode cX7_determinant 13 = .ok (.iaload, 1) := by decide +kernel
theorem dX7_determinant_14 : decode cX7_determinant 14 = .ok (.aload_n 0, 1) := by decide +kernel
theorem dX7_determinant_15 : decode cX7_determinant 15 = .ok (.getfield 29, 3) := by decide +kernel
theorem dX7_determinant_18 : decode cX7_determinant 18 = .ok (.iconst 5, 1) := by decide +kernel
theorem dX7_determinant_19 : decode cX7_determinant 19 = .ok (.iaload, 1) := by decide +kernel
theorem dX7_determinant_20 : decode cX7_determinant 20 = .ok (.aload_n 0, 1) := by decide +kernel
theorem dX7_determinant_21 : decode cX7_determinant 21 = .ok (.getfield 29, 3) := by decide +kernel
theorem dX7_determinant_24 : decode cX7_determinant 24 = .ok (.bipush 7, 2) := by decide +kernel
theorem dX7_determinant_26 : decode cX7_determinant 26 = .ok (.iaload, 1) := by decide +kernel
theorem dX7_determinant_27 : decode cX7_determinant 27 = .ok (.aload_n 0, 1) := by decide +kernel
theorem dX7_determinant_28 : decode cX7_determinant 28 = .ok (.getfield 29, 3) := by decide +kernel
theorem dX7_determinant_31 : decode cX7_determinant 31 = .ok (.bipush 8, 2) := by decide +kernel
theorem dX7_determinant_33 : decode cX7_determinant 33 = .ok (.iaload, 1) := by decide +kernel
theorem dX7_determinant_34 : decode cX7_determinant 34 = .ok (.invokevirtual 169, 3) := by decide +kernel
theorem dX7_determinant_37 : decode cX7_determinant 37 = .ok (.invokevirtual 90, 3) := by decide +kernel
theorem dX7_determinant_40 : decode cX7_determinant 40 = .ok (.istore_n 1, 1) := by decide +kernel
theorem dX7_determinant_41 : decode cX7_determinant 41 = .ok (.aload_n 0, 1) := by decide +kernel
theorem dX7_determinant_42 : decode cX7_determinant 42 = .ok (.aload_n 0, 1) := by decide +kernel
theorem dX7_determinant_43 : decode cX7_determinant 43 = .ok (.getfield 29, 3) := by decide +kernel
theorem dX7_determinant_46 : decode cX7_determinant 46 = .ok (.iconst 1, 1) := by decide +kernel
theorem dX7_determinant_47 : decode cX7_determinant 47 = .ok (.iaload, 1) := by decide +kernel
theorem dX7_determinant_48 : decode cX7_determinant 48 = .ok (.aload_n 0, 1) := by decide +kernel
theorem dX7_determinant_49 : decode cX7_determinant 49 = .ok (.aload_n 0, 1) := by decide +kernel
theorem dX7_determinant_50 : decode cX7_determinant 50 = .ok (.getfield 29, 3) := by decide +kernel
theorem dX7_determinant_53 : decode cX7_determinant 53 = .ok (.iconst 3, 1) := by decide +kernel
theorem dX7_determinant_54 : decode cX7_determinant 54 = .ok (.iaload, 1) := by decide +kernel
theorem dX7_determinant_55 : decode cX7_determinant 55 = .ok (.aload_n 0, 1) := by decide +kernel
theorem dX7_determinant_56 : decode cX7_determinant 56 = .ok (.getfield 29, 3) := by decide +kernel
theorem dX7_determinant_59 : decode cX7_determinant 59 = .ok (.iconst 5, 1) := by decide +kernel
theorem dX7_determinant_60 : decode cX7_determinant 60 = .ok (.iaload, 1) := by decide +kernel
theorem dX7_determinant_61 : decode cX7_determinant 61 = .ok (.aload_n 0, 1) := by decide +kernel
theorem dX7_determinant_62 : decode cX7_determinant 62 = .ok (.getfield 29, 3) := by decide +kernel
theorem dX7_determinant_65 : decode cX7_determinant 65 = .ok (.bipush 6, 2) := by decide +kernel
theorem dX7_determinant_67 : decode cX7_determinant 67 = .ok (.iaload, 1) := by decide +kernel
theorem dX7_determinant_68 : decode cX7_determinant 68 = .ok (.aload_n 0, 1) := by decide +kernel
theorem dX7_determinant_69 : decode cX7_determinant 69 = .ok (.getfield 29, 3) := by decide +kernel
theorem dX7_determinant_72 : decode cX7_determinant 72 = .ok (.bipush 8, 2) := by decide +kernel
theorem dX7_determinant_74 : decode cX7_determinant 74 = .ok (.iaload, 1) := by decide +kernel
theorem dX7_determinant_75 : decode cX7_determinant 75 = .ok (.invokevirtual 169, 3) := by decide +kernel
theorem dX7_determinant_78 : decode cX7_determinant 78 = .ok (.invokevirtual 90, 3) := by decide +kernel
theorem dX7_determinant_81 : decode cX7_determinant 81 = .ok (.istore_n 2, 1) := by decide +kernel
theorem dX7_determinant_82 : decode cX7_determinant 82 = .ok (.aload_n 0, 1) := by decide +kernel
theorem dX7_determinant_83 : decode cX7_determinant 83 = .ok (.aload_n 0, 1) := by decide +kernel
theorem dX7_determinant_84 : decode cX7_determinant 84 = .ok (.getfield 29, 3) := by decide +kernel
theorem dX7_determinant_87 : decode cX7_determinant 87 = .ok (.iconst 2, 1) := by decide +kernel
theorem dX7_determinant_88 : decode cX7_determinant 88 = .ok (.iaload, 1) := by decide +kernel
theorem dX7_determinant_89 : decode cX7_determinant 89 = .ok (.aload_n 0, 1) := by decide +kernel
theorem dX7_determinant_90 : decode cX7_determinant 90 = .ok (.aload_n 0, 1) := by decide +kernel
theorem dX7_determinant_91 : decode cX7_determinant 91 = .ok (.getfield 29, 3) := by decide +kernel
theorem dX7_determinant_94 : decode cX7_determinant 94 = .ok (.iconst 3, 1) := by decide +kernel
theorem dX7_determinant_95 : decode cX7_determinant 95 = .ok (.iaload, 1) := by decide +kernel
theorem dX7_determinant_96 : decode cX7_determinant 96 = .ok (.aload_n 0, 1) := by decide +kernel
theorem dX7_determinant_97 : decode cX7_determinant 97 = .ok (.getfield 29, 3) := by decide +kernel
theorem dX7_determinant_100 : decode cX7_determinant 100 = .ok (.iconst 4, 1) := by decide +kernel
theorem dX7_determinant_101 : decode cX7_determinant 101 = .ok (.iaload, 1) := by decide +kernel
theorem dX7_determinant_102 : decode cX7_determinant 102 = .ok (.aload_n 0, 1) := by decide +kernel
theorem dX7_determinant_103 : decode cX7_determinant 103 = .ok (.getfield 29, 3) := by decide +kernel
theorem dX7_determinant_106 : decode cX7_determinant 106 = .ok (.bipush 6, 2) := by decide +kernel
theorem dX7_determinant_108 : decode cX7_determinant 108 = .ok (.iaload, 1) := by decide +kernel
theorem dX7_determinant_109 : decode cX7_determinant 109 = .ok (.aload_n 0, 1) := by decide +kernel
theorem dX7_determinant_110 : decode cX7_determinant 110 = .ok (.getfield 29, 3) := by decide +kernel
theorem dX7_determinant_113 : decode cX7_determinant 113 = .ok (.bipush 7, 2) := by decide +kernel
theorem dX7_determinant_115 : decode cX7_determinant 115 = .ok (.iaload, 1) := by decide +kernel
theorem dX7_determinant_116 : decode cX7_determinant 116 = .ok (.invokevirtual 169, 3) := by decide +kernel
theorem dX7_determinant_119 : decode cX7_determinant 119 = .ok (.invokevirtual 90, 3) := by decide +kernel
theorem dX7_determinant_122 : decode cX7_determinant 122 = .ok (.istore_n 3, 1) := by decide +kernel
theorem dX7_determinant_123 : decode cX7_determinant 123 = .ok (.aload_n 0, 1) := by decide +kernel
theorem dX7_determinant_124 : decode cX7_determinant 124 = .ok (.aload_n 0, 1) := by decide +kernel
theorem dX7_determinant_125 : decode cX7_determinant 125 = .ok (.iload_n 1, 1) := by decide +kernel
theorem dX7_determinant_126 : decode cX7_determinant 126 = .ok (.iload_n 2, 1) := by decide +kernel
theorem dX7_determinant_127 : decode cX7_determinant 127 = .ok (.invokevirtual 101, 3) := by decide +kernel
theorem dX7_determinant_130 : decode cX7_determinant 130 = .ok (.iload_n 3, 1) := by decide +kernel
theorem dX7_determinant_131 : decode cX7_determinant 131 = .ok (.invokevirtual 86, 3) := by decide +kernel
theorem dX7_determinant_134 : decode cX7_determinant 134 = .ok (.ireturn, 1) := by decide +kernel
set_option maxRecDepth 20000 in
theorem ggX7_rowOf_X7_times : GoodIn wsX7_rowOf wsX7_times := goodIn_r _ [6, 7, 13, 14, 15, 16, 17, 18, 19, 20, 21, 22, 23, 24, 25, 26, 27, 28, 29, 30, 31, 32] (by decide +kernel) (by decide +kernel)
set_option maxRecDepth 20000 in
theorem gX7_rowOf_X7_times : GoodIn wsX7_rowOf (wsV RX7 90 RX7 yX7_times wsX7_times) := goodIn_app (goodIn_of _ (by decide +kernel)) ggX7_rowOf_X7_times
set_option maxRecDepth 20000 in
theorem ggX7_rowOf_X7_add : GoodIn wsX7_rowOf wsX7_add := goodIn_r _ [11, 12, 13, 14, 15, 16, 17, 18, 19, 20, 21, 22, 23, 24, 25, 26, 27, 28, 29, 30, 31, 32] (by decide +kernel) (by decide +kernel)
set_option maxRecDepth 20000 in
theorem gX7_rowOf_X7_add : GoodIn wsX7_rowOf (wsV RX7 86 RX7 yX7_add wsX7_add) := goodIn_app (goodIn_of _ (by decide +kernel)) ggX7_rowOf_X7_add
theorem dX7_rowOf_0 : decode cX7_rowOf 0 = .ok (.aload_n 0, 1) := by decide +kernel
theorem dX7_rowOf_1 : decode cX7_rowOf 1 = .ok (.aload_n 0, 1) := by decide +kernel
theorem dX7_rowOf_2 : decode cX7_rowOf 2 = .ok (.aload_n 0, 1) := by decide +kernel
theorem dX7_rowOf_3 : decode cX7_rowOf 3 = .ok (.aload_n 0, 1) := by decide +kernel
theorem dX7_rowOf_4 : decode cX7_rowOf 4 = .ok (.getfield 29, 3) := by decide +kernel
theorem dX7_rowOf_7 : decode cX7_rowOf 7 = .ok (.iload_n 1, 1) := by decide +kernel
theorem dX7_rowOf_8 : decode cX7_rowOf 8 = .ok (.iaload, 1) := by decide +kernel
theorem dX7_rowOf_9 : decode cX7_rowOf 9 = .ok (.iload_n 2, 1) := by decide +kernel
theorem dX7_rowOf_10 : decode cX7_rowOf 10 = .ok (.invokevirtual 90, 3) := by decide +kernel
theorem dX7_rowOf_13 : decode cX7_rowOf 13 = .ok (.aload_n 0, 1) := by decide +kernel
theorem dX7_rowOf_14 : decode cX7_rowOf 14 = .ok (.aload_n 0, 1) := by decide +kernel
theorem dX7_rowOf_15 : decode cX7_rowOf 15 = .ok (.getfield 29, 3) := by decide +kernel
theorem dX7_rowOf_18 : decode cX7_rowOf 18 = .ok (.iload_n 1, 1) := by decide +kernel
theorem dX7_rowOf_19 : decode cX7_rowOf 19 = .ok (.iconst 1, 1) := by decide +kernel
theorem dX7_rowOf_20 : decode cX7_rowOf 20 = .ok (.iadd, 1) := by decide +kernel
theorem dX7_rowOf_21 : decode cX7_rowOf 21 = .ok (.iaload, 1) := by decide +kernel
theorem dX7_rowOf_22 : decode cX7_rowOf 22 = .ok (.iload_n 3, 1) := by decide +kernel
theorem dX7_rowOf_23 : decode cX7_rowOf 23 = .ok (.invokevirtual 90, 3) := by decide +kernel
theorem dX7_rowOf_26 : decode cX7_rowOf 26 = .ok (.invokevirtual 86, 3) := by decide +kernel
theorem dX7_rowOf_29 : decode cX7_rowOf 29 = .ok (.aload_n 0, 1) := by decide +kernel
theorem dX7_rowOf_30 : decode cX7_rowOf 30 = .ok (.aload_n 0, 1) := by decide +kernel
theorem dX7_rowOf_31 : decode cX7_rowOf 31 = .ok (.getfield 29, 3) := by decide +kernel
theorem dX7_rowOf_34 : decode cX7_rowOf 34 = .ok (.iload_n 1, 1) := by decide +kernel
theorem dX7_rowOf_35 : decode cX7_rowOf 35 = .ok (.iconst 2, 1) := by decide +kernel
theorem dX7_rowOf_36 : decode cX7_rowOf 36 = .ok (.iadd, 1) := by decide +kernel
theorem dX7_rowOf_37 : decode cX7_rowOf 37 = .ok (.iaload, 1) := by decide +kernel
theorem dX7_rowOf_38 : decode cX7_rowOf 38 = .ok (.iload 4, 2) := by decide +kernel
theorem dX7_rowOf_40 : decode cX7_rowOf 40 = .ok (.invokevirtual 90, 3) := by decide +kernel
theorem dX7_rowOf_43 : decode cX7_rowOf 43 = .ok (.invokevirtual 86, 3) := by decide +kernel
theorem dX7_rowOf_46 : decode cX7_rowOf 46 = .ok (.ireturn, 1) := by decide +kernel
set_option maxRecDepth 20000 in
theorem ggX7_imageOf_X7_rowOf : GoodIn wsX7_imageOf wsX7_rowOf := goodIn_r _ [8, 9, 10, 11, 12, 7, 13, 14, 15, 16, 17, 18, 19, 28, 29, 30, 31, 32, 33, 34, 35, 36, 37, 38, 39, 40, 41, 42, 43, 44, 45, 46, 47] (by decide +kernel) (by decide +kernel)
set_option maxRecDepth 20000 in
theorem gX7_imageOf_X7_rowOf : GoodIn wsX7_imageOf (wsV RX7 172 RX7 yX7_rowOf wsX7_rowOf) := goodIn_app (goodIn_of _ (by decide +kernel)) ggX7_imageOf_X7_rowOf
set_option maxRecDepth 20000 in
theorem ggX7_imageOf_X7_pointOf : GoodIn wsX7_imageOf wsX7_pointOf := goodIn_r _ [23, 1, 2, 3, 24, 25, 26, 7, 27, 10, 11, 12, 13, 14, 28, 29, 30, 31, 32, 33, 34, 35, 36, 37, 38, 39, 40, 41, 42, 43, 44, 45, 46, 47] (by decide +kernel) (by decide +kernel)
set_option maxRecDepth 20000 in
theorem gX7_imageOf_X7_pointOf : GoodIn wsX7_imageOf (wsV RX7 114 RX7 yX7_pointOf wsX7_pointOf) := goodIn_app (goodIn_of _ (by decide +kernel)) ggX7_imageOf_X7_pointOf
theorem dX7_imageOf_0 : decode cX7_imageOf 0 = .ok (.aload_n 0, 1) := by decide +kernel
theorem dX7_imageOf_1 : decode cX7_imageOf 1 = .ok (.iconst 0, 1) := by decide +kernel
theorem dX7_imageOf_2 : decode cX7_imageOf 2 = .ok (.aload_n 0, 1) := by decide +kernel
theorem dX7_imageOf_3 : decode cX7_imageOf 3 = .ok (.getfield 16, 3) := by decide +kernel
theorem dX7_imageOf_6 : decode cX7_imageOf 6 = .ok (.iload_n 1, 1) := by decide +kernel
theorem dX7_imageOf_7 : decode cX7_imageOf 7 = .ok (.iaload, 1) := by decide +kernel
theorem dX7_imageOf_8 : decode cX7_imageOf 8 = .ok (.aload_n 0, 1) := by decide +kernel
theorem dX7_imageOf_9 : decode cX7_imageOf 9 = .ok (.getfield 19, 3) := by decide +kernel
theorem dX7_imageOf_12 : decode cX7_imageOf 12 = .ok (.iload_n 1, 1) := by decide +kernel
theorem dX7_imageOf_13 : decode cX7_imageOf 13 = .ok (.iaload, 1) := by decide +kernel
theorem dX7_imageOf_14 : decode cX7_imageOf 14 = .ok (.aload_n 0, 1) := by decide +kernel
theorem dX7_imageOf_15 : decode cX7_imageOf 15 = .ok (.getfield 22, 3) := by decide +kernel
theorem dX7_imageOf_18 : decode cX7_imageOf 18 = .ok (.iload_n 1, 1) := by decide +kernel
theorem dX7_imageOf_19 : decode cX7_imageOf 19 = .ok (.iaload, 1) := by decide +kernel
theorem dX7_imageOf_20 : decode cX7_imageOf 20 = .ok (.invokevirtual 172, 3) := by decide +kernel
theorem dX7_imageOf_23 : decode cX7_imageOf 23 = .ok (.istore_n 2, 1) := by decide +kernel
theorem dX7_imageOf_24 : decode cX7_imageOf 24 = .ok (.aload_n 0, 1) := by decide +kernel
theorem dX7_imageOf_25 : decode cX7_imageOf 25 = .ok (.iconst 3, 1) := by decide +kernel
theorem dX7_imageOf_26 : decode cX7_imageOf 26 = .ok (.aload_n 0, 1) := by decide +kernel
theorem dX7_imageOf_27 : decode cX7_imageOf 27 = .ok (.getfield 16, 3) := by decide +kernel
theorem dX7_imageOf_30 : decode cX7_imageOf 30 = .ok (.iload_n 1, 1) := by decide +kernel
theorem dX7_imageOf_31 : decode cX7_imageOf 31 = .ok (.iaload, 1) := by decide +kernel
theorem dX7_imageOf_32 : decode cX7_imageOf 32 = .ok (.aload_n 0, 1) := by decide +kernel
theorem dX7_imageOf_33 : decode cX7_imageOf 33 = .ok (.getfield 19, 3) := by decide +kernel
theorem dX7_imageOf_36 : decode cX7_imageOf 36 = .ok (.iload_n 1, 1) := by decide +kernel
theorem dX7_imageOf_37 : decode cX7_imageOf 37 = .ok (.iaload, 1) := by decide +kernel
theorem dX7_imageOf_38 : decode cX7_imageOf 38 = .ok (.aload_n 0, 1) := by decide +kernel
theorem dX7_imageOf_39 : decode cX7_imageOf 39 = .ok (.getfield 22, 3) := by decide +kernel
theorem dX7_imageOf_42 : decode cX7_imageOf 42 = .ok (.iload_n 1, 1) := by decide +kernel
theorem dX7_imageOf_43 : decode cX7_imageOf 43 = .ok (.iaload, 1) := by decide +kernel
theorem dX7_imageOf_44 : decode cX7_imageOf 44 = .ok (.invokevirtual 172, 3) := by decide +kernel
theorem dX7_imageOf_47 : decode cX7_imageOf 47 = .ok (.istore_n 3, 1) := by decide +kernel
theorem dX7_imageOf_48 : decode cX7_imageOf 48 = .ok (.aload_n 0, 1) := by decide +kernel
theorem dX7_imageOf_49 : decode cX7_imageOf 49 = .ok (.bipush 6, 2) := by decide +kernel
theorem dX7_imageOf_51 : decode cX7_imageOf 51 = .ok (.aload_n 0, 1) := by decide +kernel
theorem dX7_imageOf_52 : decode cX7_imageOf 52 = .ok (.getfield 16, 3) := by decide +kernel
theorem dX7_imageOf_55 : decode cX7_imageOf 55 = .ok (.iload_n 1, 1) := by decide +kernel
theorem dX7_imageOf_56 : decode cX7_imageOf 56 = .ok (.iaload, 1) := by decide +kernel
theorem dX7_imageOf_57 : decode cX7_imageOf 57 = .ok (.aload_n 0, 1) := by decide +kernel
theorem dX7_imageOf_58 : decode cX7_imageOf 58 = .ok (.getfield 19, 3) := by decide +kernel
theorem dX7_imageOf_61 : decode cX7_imageOf 61 = .ok (.iload_n 1, 1) := by decide +kernel
theorem dX7_imageOf_62 : decode cX7_imageOf 62 = .ok (.iaload, 1) := by decide +kernel
theorem dX7_imageOf_63 : decode cX7_imageOf 63 = .ok (.aload_n 0, 1) := by decide +kernel
theorem dX7_imageOf_64 : decode cX7_imageOf 64 = .ok (.getfield 22, 3) := by decide +kernel
theorem dX7_imageOf_67 : decode cX7_imageOf 67 = .ok (.iload_n 1, 1) := by decide +kernel
theorem dX7_imageOf_68 : decode cX7_imageOf 68 = .ok (.iaload, 1) := by decide +kernel
theorem dX7_imageOf_69 : decode cX7_imageOf 69 = .ok (.invokevirtual 172, 3) := by decide +kernel
theorem dX7_imageOf_72 : decode cX7_imageOf 72 = .ok (.istore 4, 2) := by decide +kernel
theorem dX7_imageOf_74 : decode cX7_imageOf 74 = .ok (.iload_n 2, 1) := by decide +kernel
theorem dX7_imageOf_75 : decode cX7_imageOf 75 = .ok (.ifCond .ne 17, 3) := by decide +kernel
theorem dX7_imageOf_78 : decode cX7_imageOf 78 = .ok (.iload_n 3, 1) := by decide +kernel
theorem dX7_imageOf_79 : decode cX7_imageOf 79 = .ok (.ifCond .ne 13, 3) := by decide +kernel
theorem dX7_imageOf_82 : decode cX7_imageOf 82 = .ok (.iload 4, 2) := by decide +kernel
theorem dX7_imageOf_84 : decode cX7_imageOf 84 = .ok (.ifCond .ne 8, 3) := by decide +kernel
theorem dX7_imageOf_87 : decode cX7_imageOf 87 = .ok (.bipush (-3), 2) := by decide +kernel
theorem dX7_imageOf_89 : decode cX7_imageOf 89 = .ok (.goto 11, 3) := by decide +kernel
theorem dX7_imageOf_92 : decode cX7_imageOf 92 = .ok (.aload_n 0, 1) := by decide +kernel
theorem dX7_imageOf_93 : decode cX7_imageOf 93 = .ok (.iload_n 2, 1) := by decide +kernel
theorem dX7_imageOf_94 : decode cX7_imageOf 94 = .ok (.iload_n 3, 1) := by decide +kernel
theorem dX7_imageOf_95 : decode cX7_imageOf 95 = .ok (.iload 4, 2) := by decide +kernel
theorem dX7_imageOf_97 : decode cX7_imageOf 97 = .ok (.invokevirtual 114, 3) := by decide +kernel
theorem dX7_imageOf_100 : decode cX7_imageOf 100 = .ok (.ireturn, 1) := by decide +kernel
set_option maxRecDepth 20000 in
theorem ggX7_image_X7_isPoint : GoodIn wsX7_image wsX7_isPoint := goodIn_r _ [5, 6, 7, 8, 4, 9, 40, 41, 42, 43, 44, 45, 46, 47, 48, 49, 50, 51, 52, 53, 54, 55, 56, 57, 58, 59] (by decide +kernel) (by decide +kernel)
set_option maxRecDepth 20000 in
theorem gX7_image_X7_isPoint : GoodIn wsX7_image (wsV RX7 107 RX7 yX7_isPoint wsX7_isPoint) := goodIn_app (goodIn_of _ (by decide +kernel)) ggX7_image_X7_isPoint
set_option maxRecDepth 20000 in
theorem ggX7_image_X7_imageOf : GoodIn wsX7_image wsX7_imageOf := goodIn_r _ [13, 14, 15, 16, 17, 18, 19, 4, 20, 21, 22, 23, 24, 25, 26, 27, 28, 29, 30, 31, 32, 33, 34, 35, 36, 37, 38, 39, 40, 41, 42, 43, 44, 45, 46, 47, 48, 49, 50, 51, 52, 53, 54, 55, 56, 57, 58, 59] (by decide +kernel) (by decide +kernel)
set_option maxRecDepth 20000 in
theorem gX7_image_X7_imageOf : GoodIn wsX7_image (wsV RX7 175 RX7 yX7_imageOf wsX7_imageOf) := goodIn_app (goodIn_of _ (by decide +kernel)) ggX7_image_X7_imageOf
theorem dX7_image_0 : decode cX7_image 0 = .ok (.aload_n 0, 1) := by decide +kernel
theorem dX7_image_1 : decode cX7_image 1 = .ok (.iload_n 1, 1) := by decide +kernel
theorem dX7_image_2 : decode cX7_image 2 = .ok (.invokevirtual 107, 3) := by decide +kernel
theorem dX7_image_5 : decode cX7_image 5 = .ok (.ifCond .eq 11, 3) := by decide +kernel
theorem dX7_image_8 : decode cX7_image 8 = .ok (.aload_n 0, 1) := by decide +kernel
theorem dX7_image_9 : decode cX7_image 9 = .ok (.iload_n 1, 1) := by decide +kernel
theorem dX7_image_10 : decode cX7_image 10 = .ok (.invokevirtual 175, 3) := by decide +kernel
theorem dX7_image_13 : decode cX7_image 13 = .ok (.goto 5, 3) := by decide +kernel
theorem dX7_image_16 : decode cX7_image 16 = .ok (.bipush (-2), 2) := by decide +kernel
theorem dX7_image_18 : decode cX7_image 18 = .ok (.ireturn, 1) := by decide +kernel
set_option maxRecDepth 20000 in
theorem ggX7_fixed_X7_imageOf : GoodIn wsX7_fixed wsX7_imageOf := goodIn_r _ [6, 7, 8, 9, 10, 11, 12, 5, 13, 14, 15, 16, 17, 18, 19, 20, 21, 22, 23, 24, 25, 26, 27, 28, 29, 30, 31, 32, 33, 34, 35, 36, 37, 38, 39, 40, 41, 42, 43, 44, 45, 46, 47, 48, 49, 50, 51, 52] (by decide +kernel) (by decide +kernel)
set_option maxRecDepth 20000 in
theorem gX7_fixed_X7_imageOf : GoodIn wsX7_fixed (wsV RX7 175 RX7 yX7_imageOf wsX7_imageOf) := goodIn_app (goodIn_of _ (by decide +kernel)) ggX7_fixed_X7_imageOf
theorem dX7_fixed_0 : decode cX7_fixed 0 = .ok (.iconst 0, 1) := by decide +kernel
theorem dX7_fixed_1 : decode cX7_fixed 1 = .ok (.istore_n 1, 1) := by decide +kernel
theorem dX7_fixed_2 : decode cX7_fixed 2 = .ok (.iconst 0, 1) := by decide +kernel
theorem dX7_fixed_3 : decode cX7_fixed 3 = .ok (.istore_n 2, 1) := by decide +kernel
theorem dX7_fixed_4 : decode cX7_fixed 4 = .ok (.iload_n 2, 1) := by decide +kernel
theorem dX7_fixed_5 : decode cX7_fixed 5 = .ok (.aload_n 0, 1) := by decide +kernel
theorem dX7_fixed_6 : decode cX7_fixed 6 = .ok (.getfield 83, 3) := by decide +kernel
theorem dX7_fixed_9 : decode cX7_fixed 9 = .ok (.if_icmp .ge 26, 3) := by decide +kernel
theorem dX7_fixed_12 : decode cX7_fixed 12 = .ok (.aload_n 0, 1) := by decide +kernel
theorem dX7_fixed_13 : decode cX7_fixed 13 = .ok (.iload_n 2, 1) := by decide +kernel
theorem dX7_fixed_14 : decode cX7_fixed 14 = .ok (.invokevirtual 175, 3) := by decide +kernel
theorem dX7_fixed_17 : decode cX7_fixed 17 = .ok (.iload_n 2, 1) := by decide +kernel
theorem dX7_fixed_18 : decode cX7_fixed 18 = .ok (.if_icmp .ne 9, 3) := by decide +kernel
theorem dX7_fixed_21 : decode cX7_fixed 21 = .ok (.iload_n 1, 1) := by decide +kernel
theorem dX7_fixed_22 : decode cX7_fixed 22 = .ok (.iconst 1, 1) := by decide +kernel
theorem dX7_fixed_23 : decode cX7_fixed 23 = .ok (.iadd, 1) := by decide +kernel
theorem dX7_fixed_24 : decode cX7_fixed 24 = .ok (.goto 4, 3) := by decide +kernel
theorem dX7_fixed_27 : decode cX7_fixed 27 = .ok (.iload_n 1, 1) := by decide +kernel
theorem dX7_fixed_28 : decode cX7_fixed 28 = .ok (.istore_n 1, 1) := by decide +kernel
theorem dX7_fixed_29 : decode cX7_fixed 29 = .ok (.iinc 2 1, 3) := by decide +kernel
theorem dX7_fixed_32 : decode cX7_fixed 32 = .ok (.goto (-28), 3) := by decide +kernel
theorem dX7_fixed_35 : decode cX7_fixed 35 = .ok (.iload_n 1, 1) := by decide +kernel
theorem dX7_fixed_36 : decode cX7_fixed 36 = .ok (.ireturn, 1) := by decide +kernel
set_option maxRecDepth 20000 in
theorem ggX7_order_X7_determinant : GoodIn wsX7_order wsX7_determinant := goodIn_r _ [8, 9, 10, 11, 12, 7, 13, 14, 15, 16, 17, 18, 19, 20, 21, 22, 23, 24, 25, 26, 27, 47, 48, 49, 50, 51, 52, 53, 54, 55, 56, 57, 58, 59, 60, 61, 62, 63, 64, 65, 66] (by decide +kernel) (by decide +kernel)
set_option maxRecDepth 20000 in
theorem gX7_order_X7_determinant : GoodIn wsX7_order (wsV RX7 179 RX7 yX7_determinant wsX7_determinant) := goodIn_app (goodIn_of _ (by decide +kernel)) ggX7_order_X7_determinant
set_option maxRecDepth 20000 in
theorem ggX7_order_X7_imageOf : GoodIn wsX7_order wsX7_imageOf := goodIn_r _ [31, 32, 33, 34, 35, 36, 37, 7, 38, 9, 14, 15, 16, 17, 18, 23, 24, 25, 26, 27, 39, 40, 41, 42, 43, 44, 45, 46, 47, 48, 49, 50, 51, 52, 53, 54, 55, 56, 57, 58, 59, 60, 61, 62, 63, 64, 65, 66] (by decide +kernel) (by decide +kernel)
set_option maxRecDepth 20000 in
theorem gX7_order_X7_imageOf : GoodIn wsX7_order (wsV RX7 175 RX7 yX7_imageOf wsX7_imageOf) := goodIn_app (goodIn_of _ (by decide +kernel)) ggX7_order_X7_imageOf
theorem dX7_order_0 : decode cX7_order 0 = .ok (.aload_n 0, 1) := by decide +kernel
theorem dX7_order_1 : decode cX7_order 1 = .ok (.invokevirtual 179, 3) := by decide +kernel
theorem dX7_order_4 : decode cX7_order 4 = .ok (.ifCond .ne 6, 3) := by decide +kernel
theorem dX7_order_7 : decode cX7_order 7 = .ok (.bipush (-3), 2) := by decide +kernel
theorem dX7_order_9 : decode cX7_order 9 = .ok (.ireturn, 1) := by decide +kernel
theorem dX7_order_10 : decode cX7_order 10 = .ok (.iconst 0, 1) := by decide +kernel
theorem dX7_order_11 : decode cX7_order 11 = .ok (.istore_n 1, 1) := by decide +kernel
theorem dX7_order_12 : decode cX7_order 12 = .ok (.iload_n 1, 1) := by decide +kernel
theorem dX7_order_13 : decode cX7_order 13 = .ok (.aload_n 0, 1) := by decide +kernel
theorem dX7_order_14 : decode cX7_order 14 = .ok (.getfield 83, 3) := by decide +kernel
theorem dX7_order_17 : decode cX7_order 17 = .ok (.if_icmp .ge 32, 3) := by decide +kernel
theorem dX7_order_20 : decode cX7_order 20 = .ok (.aload_n 0, 1) := by decide +kernel
theorem dX7_order_21 : decode cX7_order 21 = .ok (.getfield 44, 3) := by decide +kernel
theorem dX7_order_24 : decode cX7_order 24 = .ok (.iload_n 1, 1) := by decide +kernel
theorem dX7_order_25 : decode cX7_order 25 = .ok (.aload_n 0, 1) := by decide +kernel
theorem dX7_order_26 : decode cX7_order 26 = .ok (.iload_n 1, 1) := by decide +kernel
theorem dX7_order_27 : decode cX7_order 27 = .ok (.invokevirtual 175, 3) := by decide +kernel
theorem dX7_order_30 : decode cX7_order 30 = .ok (.iastore, 1) := by decide +kernel
theorem dX7_order_31 : decode cX7_order 31 = .ok (.aload_n 0, 1) := by decide +kernel
theorem dX7_order_32 : decode cX7_order 32 = .ok (.getfield 47, 3) := by decide +kernel
theorem dX7_order_35 : decode cX7_order 35 = .ok (.iload_n 1, 1) := by decide +kernel
theorem dX7_order_36 : decode cX7_order 36 = .ok (.aload_n 0, 1) := by decide +kernel
theorem dX7_order_37 : decode cX7_order 37 = .ok (.getfield 44, 3) := by decide +kernel
theorem dX7_order_40 : decode cX7_order 40 = .ok (.iload_n 1, 1) := by decide +kernel
theorem dX7_order_41 : decode cX7_order 41 = .ok (.iaload, 1) := by decide +kernel
theorem dX7_order_42 : decode cX7_order 42 = .ok (.iastore, 1) := by decide +kernel
theorem dX7_order_43 : decode cX7_order 43 = .ok (.iinc 1 1, 3) := by decide +kernel
theorem dX7_order_46 : decode cX7_order 46 = .ok (.goto (-34), 3) := by decide +kernel
theorem dX7_order_49 : decode cX7_order 49 = .ok (.iconst 1, 1) := by decide +kernel
theorem dX7_order_50 : decode cX7_order 50 = .ok (.istore_n 1, 1) := by decide +kernel
theorem dX7_order_51 : decode cX7_order 51 = .ok (.iconst 0, 1) := by decide +kernel
theorem dX7_order_52 : decode cX7_order 52 = .ok (.istore_n 2, 1) := by decide +kernel
theorem dX7_order_53 : decode cX7_order 53 = .ok (.iload_n 2, 1) := by decide +kernel
theorem dX7_order_54 : decode cX7_order 54 = .ok (.ifCond .ne 84, 3) := by decide +kernel
theorem dX7_order_57 : decode cX7_order 57 = .ok (.iconst 1, 1) := by decide +kernel
theorem dX7_order_58 : decode cX7_order 58 = .ok (.istore_n 2, 1) := by decide +kernel
theorem dX7_order_59 : decode cX7_order 59 = .ok (.iconst 0, 1) := by decide +kernel
theorem dX7_order_60 : decode cX7_order 60 = .ok (.istore_n 3, 1) := by decide +kernel
theorem dX7_order_61 : decode cX7_order 61 = .ok (.iload_n 3, 1) := by decide +kernel
theorem dX7_order_62 : decode cX7_order 62 = .ok (.aload_n 0, 1) := by decide +kernel
theorem dX7_order_63 : decode cX7_order 63 = .ok (.getfield 83, 3) := by decide +kernel
theorem dX7_order_66 : decode cX7_order 66 = .ok (.if_icmp .ge 29, 3) := by decide +kernel
theorem dX7_order_69 : decode cX7_order 69 = .ok (.iload_n 2, 1) := by decide +kernel
theorem dX7_order_70 : decode cX7_order 70 = .ok (.ifCond .eq 17, 3) := by decide +kernel
theorem dX7_order_73 : decode cX7_order 73 = .ok (.aload_n 0, 1) := by decide +kernel
theorem dX7_order_74 : decode cX7_order 74 = .ok (.getfield 47, 3) := by decide +kernel
theorem dX7_order_77 : decode cX7_order 77 = .ok (.iload_n 3, 1) := by decide +kernel
theorem dX7_order_78 : decode cX7_order 78 = .ok (.iaload, 1) := by decide +kernel
theorem dX7_order_79 : decode cX7_order 79 = .ok (.iload_n 3, 1) := by decide +kernel
theorem dX7_order_80 : decode cX7_order 80 = .ok (.if_icmp .ne 7, 3) := by decide +kernel
theorem dX7_order_83 : decode cX7_order 83 = .ok (.iconst 1, 1) := by decide +kernel
theorem dX7_order_84 : decode cX7_order 84 = .ok (.goto 4, 3) := by decide +kernel
theorem dX7_order_87 : decode cX7_order 87 = .ok (.iconst 0, 1) := by decide +kernel
theorem dX7_order_88 : decode cX7_order 88 = .ok (.istore_n 2, 1) := by decide +kernel
theorem dX7_order_89 : decode cX7_order 89 = .ok (.iinc 3 1, 3) := by decide +kernel
theorem dX7_order_92 : decode cX7_order 92 = .ok (.goto (-31), 3) := by decide +kernel
theorem dX7_order_95 : decode cX7_order 95 = .ok (.iload_n 2, 1) := by decide +kernel
theorem dX7_order_96 : decode cX7_order 96 = .ok (.ifCond .ne (-43), 3) := by decide +kernel
theorem dX7_order_99 : decode cX7_order 99 = .ok (.iinc 1 1, 3) := by decide +kernel
theorem dX7_order_102 : decode cX7_order 102 = .ok (.iconst 0, 1) := by decide +kernel
theorem dX7_order_103 : decode cX7_order 103 = .ok (.istore_n 3, 1) := by decide +kernel
theorem dX7_order_104 : decode cX7_order 104 = .ok (.iload_n 3, 1) := by decide +kernel
theorem dX7_order_105 : decode cX7_order 105 = .ok (.aload_n 0, 1) := by decide +kernel
theorem dX7_order_106 : decode cX7_order 106 = .ok (.getfield 83, 3) := by decide +kernel
theorem dX7_order_109 : decode cX7_order 109 = .ok (.if_icmp .ge 26, 3) := by decide +kernel
theorem dX7_order_112 : decode cX7_order 112 = .ok (.aload_n 0, 1) := by decide +kernel
theorem dX7_order_113 : decode cX7_order 113 = .ok (.getfield 47, 3) := by decide +kernel
theorem dX7_order_116 : decode cX7_order 116 = .ok (.iload_n 3, 1) := by decide +kernel
theorem dX7_order_117 : decode cX7_order 117 = .ok (.aload_n 0, 1) := by decide +kernel
theorem dX7_order_118 : decode cX7_order 118 = .ok (.getfield 44, 3) := by decide +kernel
theorem dX7_order_121 : decode cX7_order 121 = .ok (.aload_n 0, 1) := by decide +kernel
theorem dX7_order_122 : decode cX7_order 122 = .ok (.getfield 47, 3) := by decide +kernel
theorem dX7_order_125 : decode cX7_order 125 = .ok (.iload_n 3, 1) := by decide +kernel
theorem dX7_order_126 : decode cX7_order 126 = .ok (.iaload, 1) := by decide +kernel
theorem dX7_order_127 : decode cX7_order 127 = .ok (.iaload, 1) := by decide +kernel
theorem dX7_order_128 : decode cX7_order 128 = .ok (.iastore, 1) := by decide +kernel
theorem dX7_order_129 : decode cX7_order 129 = .ok (.iinc 3 1, 3) := by decide +kernel
theorem dX7_order_132 : decode cX7_order 132 = .ok (.goto (-28), 3) := by decide +kernel
theorem dX7_order_135 : decode cX7_order 135 = .ok (.goto (-82), 3) := by decide +kernel
theorem dX7_order_138 : decode cX7_order 138 = .ok (.iload_n 1, 1) := by decide +kernel
theorem dX7_order_139 : decode cX7_order 139 = .ok (.ireturn, 1) := by decide +kernel
set_option maxRecDepth 20000 in
theorem ggX7_settle_X7_by : GoodIn wsX7_settle wsX7_by := goodIn_r _ [6, 7, 8, 9, 5, 10, 11, 12, 13, 14, 15, 16, 17, 18, 19, 20, 21, 22, 23, 24, 25, 26, 27, 28, 29, 30, 31] (by decide +kernel) (by decide +kernel)
set_option maxRecDepth 20000 in
theorem gX7_settle_X7_by : GoodIn wsX7_settle (wsV RX7 104 RX7 yX7_by wsX7_by) := goodIn_app (goodIn_of _ (by decide +kernel)) ggX7_settle_X7_by
theorem dX7_settle_0 : decode cX7_settle 0 = .ok (.iconst 0, 1) := by decide +kernel
theorem dX7_settle_1 : decode cX7_settle 1 = .ok (.istore_n 1, 1) := by decide +kernel
theorem dX7_settle_2 : decode cX7_settle 2 = .ok (.iconst 0, 1) := by decide +kernel
theorem dX7_settle_3 : decode cX7_settle 3 = .ok (.istore_n 2, 1) := by decide +kernel
theorem dX7_settle_4 : decode cX7_settle 4 = .ok (.iload_n 2, 1) := by decide +kernel
theorem dX7_settle_5 : decode cX7_settle 5 = .ok (.bipush 9, 2) := by decide +kernel
theorem dX7_settle_7 : decode cX7_settle 7 = .ok (.if_icmp .ge 24, 3) := by decide +kernel
theorem dX7_settle_10 : decode cX7_settle 10 = .ok (.iload_n 1, 1) := by decide +kernel
theorem dX7_settle_11 : decode cX7_settle 11 = .ok (.ifCond .ne 12, 3) := by decide +kernel
theorem dX7_settle_14 : decode cX7_settle 14 = .ok (.aload_n 0, 1) := by decide +kernel
theorem dX7_settle_15 : decode cX7_settle 15 = .ok (.getfield 29, 3) := by decide +kernel
theorem dX7_settle_18 : decode cX7_settle 18 = .ok (.iload_n 2, 1) := by decide +kernel
theorem dX7_settle_19 : decode cX7_settle 19 = .ok (.iaload, 1) := by decide +kernel
theorem dX7_settle_20 : decode cX7_settle 20 = .ok (.goto 4, 3) := by decide +kernel
theorem dX7_settle_23 : decode cX7_settle 23 = .ok (.iload_n 1, 1) := by decide +kernel
theorem dX7_settle_24 : decode cX7_settle 24 = .ok (.istore_n 1, 1) := by decide +kernel
theorem dX7_settle_25 : decode cX7_settle 25 = .ok (.iinc 2 1, 3) := by decide +kernel
theorem dX7_settle_28 : decode cX7_settle 28 = .ok (.goto (-24), 3) := by decide +kernel
theorem dX7_settle_31 : decode cX7_settle 31 = .ok (.iconst 0, 1) := by decide +kernel
theorem dX7_settle_32 : decode cX7_settle 32 = .ok (.istore_n 2, 1) := by decide +kernel
theorem dX7_settle_33 : decode cX7_settle 33 = .ok (.iload_n 2, 1) := by decide +kernel
theorem dX7_settle_34 : decode cX7_settle 34 = .ok (.bipush 9, 2) := by decide +kernel
theorem dX7_settle_36 : decode cX7_settle 36 = .ok (.if_icmp .ge 26, 3) := by decide +kernel
theorem dX7_settle_39 : decode cX7_settle 39 = .ok (.aload_n 0, 1) := by decide +kernel
theorem dX7_settle_40 : decode cX7_settle 40 = .ok (.getfield 29, 3) := by decide +kernel
theorem dX7_settle_43 : decode cX7_settle 43 = .ok (.iload_n 2, 1) := by decide +kernel
theorem dX7_settle_44 : decode cX7_settle 44 = .ok (.aload_n 0, 1) := by decide +kernel
theorem dX7_settle_45 : decode cX7_settle 45 = .ok (.aload_n 0, 1) := by decide +kernel
theorem dX7_settle_46 : decode cX7_settle 46 = .ok (.getfield 29, 3) := by decide +kernel
theorem dX7_settle_49 : decode cX7_settle 49 = .ok (.iload_n 2, 1) := by decide +kernel
theorem dX7_settle_50 : decode cX7_settle 50 = .ok (.iaload, 1) := by decide +kernel
theorem dX7_settle_51 : decode cX7_settle 51 = .ok (.iload_n 1, 1) := by decide +kernel
theorem dX7_settle_52 : decode cX7_settle 52 = .ok (.invokevirtual 104, 3) := by decide +kernel
theorem dX7_settle_55 : decode cX7_settle 55 = .ok (.iastore, 1) := by decide +kernel
theorem dX7_settle_56 : decode cX7_settle 56 = .ok (.iinc 2 1, 3) := by decide +kernel
theorem dX7_settle_59 : decode cX7_settle 59 = .ok (.goto (-26), 3) := by decide +kernel
theorem dX7_settle_62 : decode cX7_settle 62 = .ok (.return_, 1) := by decide +kernel
set_option maxRecDepth 20000 in
theorem ggX7_invert_X7_determinant : GoodIn wsX7_invert wsX7_determinant := goodIn_r _ [7, 2, 8, 9, 10, 6, 11, 12, 13, 14, 15, 16, 17, 18, 19, 20, 21, 22, 23, 24, 25, 34, 35, 36, 37, 38, 39, 40, 41, 42, 43, 44, 45, 46, 47, 48, 49, 50, 51, 52, 53] (by decide +kernel) (by decide +kernel)
set_option maxRecDepth 20000 in
theorem gX7_invert_X7_determinant : GoodIn wsX7_invert (wsV RX7 179 RX7 yX7_determinant wsX7_determinant) := goodIn_app (goodIn_of _ (by decide +kernel)) ggX7_invert_X7_determinant
set_option maxRecDepth 20000 in
theorem ggX7_invert_X7_minor : GoodIn wsX7_invert wsX7_minor := goodIn_r _ [11, 12, 13, 14, 6, 15, 16, 17, 18, 19, 20, 21, 22, 23, 24, 25, 34, 35, 36, 37, 38, 39, 40, 41, 42, 43, 44, 45, 46, 47, 48, 49, 50, 51, 52, 53] (by decide +kernel) (by decide +kernel)
set_option maxRecDepth 20000 in
theorem gX7_invert_X7_minor : GoodIn wsX7_invert (wsV RX7 169 RX7 yX7_minor wsX7_minor) := goodIn_app (goodIn_of _ (by decide +kernel)) ggX7_invert_X7_minor
set_option maxRecDepth 20000 in
theorem ggX7_invert_X7_settle : GoodIn wsX7_invert wsX7_settle := goodIn_r _ [29, 2, 30, 31, 32, 6, 33, 12, 13, 14, 15, 16, 34, 35, 36, 37, 38, 39, 40, 41, 42, 43, 44, 45, 46, 47, 48, 49, 50, 51, 52, 53] (by decide +kernel) (by decide +kernel)
set_option maxRecDepth 20000 in
theorem gX7_invert_X7_settle : GoodIn wsX7_invert (wsV RX7 182 RX7 yX7_settle wsX7_settle) := goodIn_app (goodIn_of _ (by decide +kernel)) ggX7_invert_X7_settle
theorem dX7_invert_0 : decode cX7_invert 0 = .ok (.aload_n 0, 1) := by decide +kernel
theorem dX7_invert_1 : decode cX7_invert 1 = .ok (.invokevirtual 179, 3) := by decide +kernel
theorem dX7_invert_4 : decode cX7_invert 4 = .ok (.ifCond .ne 6, 3) := by decide +kernel
theorem dX7_invert_7 : decode cX7_invert 7 = .ok (.bipush (-3), 2) := by decide +kernel
theorem dX7_invert_9 : decode cX7_invert 9 = .ok (.ireturn, 1) := by decide +kernel
theorem dX7_invert_10 : decode cX7_invert 10 = .ok (.iconst 0, 1) := by decide +kernel
theorem dX7_invert_11 : decode cX7_invert 11 = .ok (.istore_n 1, 1) := by decide +kernel
theorem dX7_invert_12 : decode cX7_invert 12 = .ok (.iload_n 1, 1) := by decide +kernel
theorem dX7_invert_13 : decode cX7_invert 13 = .ok (.iconst 3, 1) := by decide +kernel
theorem dX7_invert_14 : decode cX7_invert 14 = .ok (.if_icmp .ge 109, 3) := by decide +kernel
theorem dX7_invert_17 : decode cX7_invert 17 = .ok (.iconst 0, 1) := by decide +kernel
theorem dX7_invert_18 : decode cX7_invert 18 = .ok (.istore_n 2, 1) := by decide +kernel
theorem dX7_invert_19 : decode cX7_invert 19 = .ok (.iload_n 2, 1) := by decide +kernel
theorem dX7_invert_20 : decode cX7_invert 20 = .ok (.iconst 3, 1) := by decide +kernel
theorem dX7_invert_21 : decode cX7_invert 21 = .ok (.if_icmp .ge 96, 3) := by decide +kernel
theorem dX7_invert_24 : decode cX7_invert 24 = .ok (.iload_n 1, 1) := by decide +kernel
theorem dX7_invert_25 : decode cX7_invert 25 = .ok (.iconst 1, 1) := by decide +kernel
theorem dX7_invert_26 : decode cX7_invert 26 = .ok (.iadd, 1) := by decide +kernel
theorem dX7_invert_27 : decode cX7_invert 27 = .ok (.iconst 3, 1) := by decide +kernel
theorem dX7_invert_28 : decode cX7_invert 28 = .ok (.irem, 1) := by decide +kernel
theorem dX7_invert_29 : decode cX7_invert 29 = .ok (.istore_n 3, 1) := by decide +kernel
theorem dX7_invert_30 : decode cX7_invert 30 = .ok (.iload_n 1, 1) := by decide +kernel
theorem dX7_invert_31 : decode cX7_invert 31 = .ok (.iconst 2, 1) := by decide +kernel
theorem dX7_invert_32 : decode cX7_invert 32 = .ok (.iadd, 1) := by decide +kernel
theorem dX7_invert_33 : decode cX7_invert 33 = .ok (.iconst 3, 1) := by decide +kernel
theorem dX7_invert_34 : decode cX7_invert 34 = .ok (.irem, 1) := by decide +kernel
theorem dX7_invert_35 : decode cX7_invert 35 = .ok (.istore 4, 2) := by decide +kernel
theorem dX7_invert_37 : decode cX7_invert 37 = .ok (.iload_n 2, 1) := by decide +kernel
theorem dX7_invert_38 : decode cX7_invert 38 = .ok (.iconst 1, 1) := by decide +kernel
theorem dX7_invert_39 : decode cX7_invert 39 = .ok (.iadd, 1) := by decide +kernel
theorem dX7_invert_40 : decode cX7_invert 40 = .ok (.iconst 3, 1) := by decide +kernel
theorem dX7_invert_41 : decode cX7_invert 41 = .ok (.irem, 1) := by decide +kernel
theorem dX7_invert_42 : decode cX7_invert 42 = .ok (.istore 5, 2) := by decide +kernel
theorem dX7_invert_44 : decode cX7_invert 44 = .ok (.iload_n 2, 1) := by decide +kernel
theorem dX7_invert_45 : decode cX7_invert 45 = .ok (.iconst 2, 1) := by decide +kernel
theorem dX7_invert_46 : decode cX7_invert 46 = .ok (.iadd, 1) := by decide +kernel
theorem dX7_invert_47 : decode cX7_invert 47 = .ok (.iconst 3, 1) := by decide +kernel
theorem dX7_invert_48 : decode cX7_invert 48 = .ok (.irem, 1) := by decide +kernel
theorem dX7_invert_49 : decode cX7_invert 49 = .ok (.istore 6, 2) := by decide +kernel
theorem dX7_invert_51 : decode cX7_invert 51 = .ok (.aload_n 0, 1) := by decide +kernel
theorem dX7_invert_52 : decode cX7_invert 52 = .ok (.getfield 50, 3) := by decide +kernel
theorem dX7_invert_55 : decode cX7_invert 55 = .ok (.iconst 3, 1) := by decide +kernel
theorem dX7_invert_56 : decode cX7_invert 56 = .ok (.iload_n 2, 1) := by decide +kernel
theorem dX7_invert_57 : decode cX7_invert 57 = .ok (.imul, 1) := by decide +kernel
theorem dX7_invert_58 : decode cX7_invert 58 = .ok (.iload_n 1, 1) := by decide +kernel
theorem dX7_invert_59 : decode cX7_invert 59 = .ok (.iadd, 1) := by decide +kernel
theorem dX7_invert_60 : decode cX7_invert 60 = .ok (.aload_n 0, 1) := by decide +kernel
theorem dX7_invert_61 : decode cX7_invert 61 = .ok (.aload_n 0, 1) := by decide +kernel
theorem dX7_invert_62 : decode cX7_invert 62 = .ok (.getfield 29, 3) := by decide +kernel
theorem dX7_invert_65 : decode cX7_invert 65 = .ok (.iconst 3, 1) := by decide +kernel
theorem dX7_invert_66 : decode cX7_invert 66 = .ok (.iload_n 3, 1) := by decide +kernel
theorem dX7_invert_67 : decode cX7_invert 67 = .ok (.imul, 1) := by decide +kernel
theorem dX7_invert_68 : decode cX7_invert 68 = .ok (.iload 5, 2) := by decide +kernel
theorem dX7_invert_70 : decode cX7_invert 70 = .ok (.iadd, 1) := by decide +kernel
theorem dX7_invert_71 : decode cX7_invert 71 = .ok (.iaload, 1) := by decide +kernel
theorem dX7_invert_72 : decode cX7_invert 72 = .ok (.aload_n 0, 1) := by decide +kernel
theorem dX7_invert_73 : decode cX7_invert 73 = .ok (.getfield 29, 3) := by decide +kernel
theorem dX7_invert_76 : decode cX7_invert 76 = .ok (.iconst 3, 1) := by decide +kernel
theorem dX7_invert_77 : decode cX7_invert 77 = .ok (.iload_n 3, 1) := by decide +kernel
theorem dX7_invert_78 : decode cX7_invert 78 = .ok (.imul, 1) := by decide +kernel
theorem dX7_invert_79 : decode cX7_invert 79 = .ok (.iload 6, 2) := by decide +kernel
theorem dX7_invert_81 : decode cX7_invert 81 = .ok (.iadd, 1) := by decide +kernel
theorem dX7_invert_82 : decode cX7_invert 82 = .ok (.iaload, 1) := by decide +kernel
theorem dX7_invert_83 : decode cX7_invert 83 = .ok (.aload_n 0, 1) := by decide +kernel
theorem dX7_invert_84 : decode cX7_invert 84 = .ok (.getfield 29, 3) := by decide +kernel
theorem dX7_invert_87 : decode cX7_invert 87 = .ok (.iconst 3, 1) := by decide +kernel
theorem dX7_invert_88 : decode cX7_invert 88 = .ok (.iload 4, 2) := by decide +kernel
theorem dX7_invert_90 : decode cX7_invert 90 = .ok (.imul, 1) := by decide +kernel
theorem dX7_invert_91 : decode cX7_invert 91 = .ok (.iload 5, 2) := by decide +kernel
theorem dX7_invert_93 : decode cX7_invert 93 = .ok (.iadd, 1) := by decide +kernel
theorem dX7_invert_94 : decode cX7_invert 94 = .ok (.iaload, 1) := by decide +kernel
theorem dX7_invert_95 : decode cX7_invert 95 = .ok (.aload_n 0, 1) := by decide +kernel
theorem dX7_invert_96 : decode cX7_invert 96 = .ok (.getfield 29, 3) := by decide +kernel
theorem dX7_invert_99 : decode cX7_invert 99 = .ok (.iconst 3, 1) := by decide +kernel
theorem dX7_invert_100 : decode cX7_invert 100 = .ok (.iload 4, 2) := by decide +kernel
theorem dX7_invert_102 : decode cX7_invert 102 = .ok (.imul, 1) := by decide +kernel
theorem dX7_invert_103 : decode cX7_invert 103 = .ok (.iload 6, 2) := by decide +kernel
theorem dX7_invert_105 : decode cX7_invert 105 = .ok (.iadd, 1) := by decide +kernel
theorem dX7_invert_106 : decode cX7_invert 106 = .ok (.iaload, 1) := by decide +kernel
theorem dX7_invert_107 : decode cX7_invert 107 = .ok (.invokevirtual 169, 3) := by decide +kernel
theorem dX7_invert_110 : decode cX7_invert 110 = .ok (.iastore, 1) := by decide +kernel
theorem dX7_invert_111 : decode cX7_invert 111 = .ok (.iinc 2 1, 3) := by decide +kernel
theorem dX7_invert_114 : decode cX7_invert 114 = .ok (.goto (-95), 3) := by decide +kernel
theorem dX7_invert_117 : decode cX7_invert 117 = .ok (.iinc 1 1, 3) := by decide +kernel
theorem dX7_invert_120 : decode cX7_invert 120 = .ok (.goto (-108), 3) := by decide +kernel
theorem dX7_invert_123 : decode cX7_invert 123 = .ok (.iconst 0, 1) := by decide +kernel
theorem dX7_invert_124 : decode cX7_invert 124 = .ok (.istore_n 1, 1) := by decide +kernel
theorem dX7_invert_125 : decode cX7_invert 125 = .ok (.iload_n 1, 1) := by decide +kernel
theorem dX7_invert_126 : decode cX7_invert 126 = .ok (.bipush 9, 2) := by decide +kernel
theorem dX7_invert_128 : decode cX7_invert 128 = .ok (.if_icmp .ge 21, 3) := by decide +kernel
theorem dX7_invert_131 : decode cX7_invert 131 = .ok (.aload_n 0, 1) := by decide +kernel
theorem dX7_invert_132 : decode cX7_invert 132 = .ok (.getfield 29, 3) := by decide +kernel
theorem dX7_invert_135 : decode cX7_invert 135 = .ok (.iload_n 1, 1) := by decide +kernel
theorem dX7_invert_136 : decode cX7_invert 136 = .ok (.aload_n 0, 1) := by decide +kernel
theorem dX7_invert_137 : decode cX7_invert 137 = .ok (.getfield 50, 3) := by decide +kernel
theorem dX7_invert_140 : decode cX7_invert 140 = .ok (.iload_n 1, 1) := by decide +kernel
theorem dX7_invert_141 : decode cX7_invert 141 = .ok (.iaload, 1) := by decide +kernel
theorem dX7_invert_142 : decode cX7_invert 142 = .ok (.iastore, 1) := by decide +kernel
theorem dX7_invert_143 : decode cX7_invert 143 = .ok (.iinc 1 1, 3) := by decide +kernel
theorem dX7_invert_146 : decode cX7_invert 146 = .ok (.goto (-21), 3) := by decide +kernel
theorem dX7_invert_149 : decode cX7_invert 149 = .ok (.aload_n 0, 1) := by decide +kernel
theorem dX7_invert_150 : decode cX7_invert 150 = .ok (.invokevirtual 182, 3) := by decide +kernel
theorem dX7_invert_153 : decode cX7_invert 153 = .ok (.iconst 1, 1) := by decide +kernel
theorem dX7_invert_154 : decode cX7_invert 154 = .ok (.ireturn, 1) := by decide +kernel
set_option maxRecDepth 20000 in
theorem ggX7_move_X7_imageOf : GoodIn wsX7_move wsX7_imageOf := goodIn_r _ [8, 9, 10, 11, 12, 13, 14, 7, 15, 16, 17, 18, 19, 20, 21, 22, 23, 24, 25, 26, 27, 28, 29, 30, 31, 32, 33, 34, 39, 40, 41, 42, 43, 44, 45, 46, 47, 48, 49, 50, 51, 52, 53, 54, 55, 56, 57, 58] (by decide +kernel) (by decide +kernel)
set_option maxRecDepth 20000 in
theorem gX7_move_X7_imageOf : GoodIn wsX7_move (wsV RX7 175 RX7 yX7_imageOf wsX7_imageOf) := goodIn_app (goodIn_of _ (by decide +kernel)) ggX7_move_X7_imageOf
set_option maxRecDepth 20000 in
theorem ggX7_move_X7_sizeOf : GoodIn wsX7_move wsX7_sizeOf := goodIn_r _ [38, 1, 39, 40, 41, 42, 43, 44, 45, 46, 47, 48, 49, 50, 51, 52, 53, 54, 55, 56, 57, 58] (by decide +kernel) (by decide +kernel)
set_option maxRecDepth 20000 in
theorem gX7_move_X7_sizeOf : GoodIn wsX7_move (wsV RX7 146 RX7 yX7_sizeOf wsX7_sizeOf) := goodIn_app (goodIn_of _ (by decide +kernel)) ggX7_move_X7_sizeOf
theorem dX7_move_0 : decode cX7_move 0 = .ok (.iconst 0, 1) := by decide +kernel
theorem dX7_move_1 : decode cX7_move 1 = .ok (.istore_n 1, 1) := by decide +kernel
theorem dX7_move_2 : decode cX7_move 2 = .ok (.iload_n 1, 1) := by decide +kernel
theorem dX7_move_3 : decode cX7_move 3 = .ok (.aload_n 0, 1) := by decide +kernel
theorem dX7_move_4 : decode cX7_move 4 = .ok (.getfield 83, 3) := by decide +kernel
theorem dX7_move_7 : decode cX7_move 7 = .ok (.if_icmp .ge 16, 3) := by decide +kernel
theorem dX7_move_10 : decode cX7_move 10 = .ok (.aload_n 0, 1) := by decide +kernel
theorem dX7_move_11 : decode cX7_move 11 = .ok (.getfield 53, 3) := by decide +kernel
theorem dX7_move_14 : decode cX7_move 14 = .ok (.iload_n 1, 1) := by decide +kernel
theorem dX7_move_15 : decode cX7_move 15 = .ok (.iconst 0, 1) := by decide +kernel
theorem dX7_move_16 : decode cX7_move 16 = .ok (.bastore, 1) := by decide +kernel
theorem dX7_move_17 : decode cX7_move 17 = .ok (.iinc 1 1, 3) := by decide +kernel
theorem dX7_move_20 : decode cX7_move 20 = .ok (.goto (-18), 3) := by decide +kernel
theorem dX7_move_23 : decode cX7_move 23 = .ok (.iconst 0, 1) := by decide +kernel
theorem dX7_move_24 : decode cX7_move 24 = .ok (.istore_n 1, 1) := by decide +kernel
theorem dX7_move_25 : decode cX7_move 25 = .ok (.iload_n 1, 1) := by decide +kernel
theorem dX7_move_26 : decode cX7_move 26 = .ok (.aload_n 0, 1) := by decide +kernel
theorem dX7_move_27 : decode cX7_move 27 = .ok (.getfield 83, 3) := by decide +kernel
theorem dX7_move_30 : decode cX7_move 30 = .ok (.if_icmp .ge 40, 3) := by decide +kernel
theorem dX7_move_33 : decode cX7_move 33 = .ok (.aload_n 0, 1) := by decide +kernel
theorem dX7_move_34 : decode cX7_move 34 = .ok (.getfield 25, 3) := by decide +kernel
theorem dX7_move_37 : decode cX7_move 37 = .ok (.iload_n 1, 1) := by decide +kernel
theorem dX7_move_38 : decode cX7_move 38 = .ok (.baload, 1) := by decide +kernel
theorem dX7_move_39 : decode cX7_move 39 = .ok (.ifCond .eq 11, 3) := by decide +kernel
theorem dX7_move_42 : decode cX7_move 42 = .ok (.aload_n 0, 1) := by decide +kernel
theorem dX7_move_43 : decode cX7_move 43 = .ok (.iload_n 1, 1) := by decide +kernel
theorem dX7_move_44 : decode cX7_move 44 = .ok (.invokevirtual 175, 3) := by decide +kernel
theorem dX7_move_47 : decode cX7_move 47 = .ok (.goto 5, 3) := by decide +kernel
theorem dX7_move_50 : decode cX7_move 50 = .ok (.bipush (-3), 2) := by decide +kernel
theorem dX7_move_52 : decode cX7_move 52 = .ok (.istore_n 2, 1) := by decide +kernel
theorem dX7_move_53 : decode cX7_move 53 = .ok (.iload_n 2, 1) := by decide +kernel
theorem dX7_move_54 : decode cX7_move 54 = .ok (.ifCond .lt 10, 3) := by decide +kernel
theorem dX7_move_57 : decode cX7_move 57 = .ok (.aload_n 0, 1) := by decide +kernel
theorem dX7_move_58 : decode cX7_move 58 = .ok (.getfield 53, 3) := by decide +kernel
theorem dX7_move_61 : decode cX7_move 61 = .ok (.iload_n 2, 1) := by decide +kernel
theorem dX7_move_62 : decode cX7_move 62 = .ok (.iconst 1, 1) := by decide +kernel
theorem dX7_move_63 : decode cX7_move 63 = .ok (.bastore, 1) := by decide +kernel
theorem dX7_move_64 : decode cX7_move 64 = .ok (.iinc 1 1, 3) := by decide +kernel
theorem dX7_move_67 : decode cX7_move 67 = .ok (.goto (-42), 3) := by decide +kernel
theorem dX7_move_70 : decode cX7_move 70 = .ok (.iconst 0, 1) := by decide +kernel
theorem dX7_move_71 : decode cX7_move 71 = .ok (.istore_n 1, 1) := by decide +kernel
theorem dX7_move_72 : decode cX7_move 72 = .ok (.iload_n 1, 1) := by decide +kernel
theorem dX7_move_73 : decode cX7_move 73 = .ok (.aload_n 0, 1) := by decide +kernel
theorem dX7_move_74 : decode cX7_move 74 = .ok (.getfield 83, 3) := by decide +kernel
theorem dX7_move_77 : decode cX7_move 77 = .ok (.if_icmp .ge 21, 3) := by decide +kernel
theorem dX7_move_80 : decode cX7_move 80 = .ok (.aload_n 0, 1) := by decide +kernel
theorem dX7_move_81 : decode cX7_move 81 = .ok (.getfield 25, 3) := by decide +kernel
theorem dX7_move_84 : decode cX7_move 84 = .ok (.iload_n 1, 1) := by decide +kernel
theorem dX7_move_85 : decode cX7_move 85 = .ok (.aload_n 0, 1) := by decide +kernel
theorem dX7_move_86 : decode cX7_move 86 = .ok (.getfield 53, 3) := by decide +kernel
theorem dX7_move_89 : decode cX7_move 89 = .ok (.iload_n 1, 1) := by decide +kernel
theorem dX7_move_90 : decode cX7_move 90 = .ok (.baload, 1) := by decide +kernel
theorem dX7_move_91 : decode cX7_move 91 = .ok (.bastore, 1) := by decide +kernel
theorem dX7_move_92 : decode cX7_move 92 = .ok (.iinc 1 1, 3) := by decide +kernel
theorem dX7_move_95 : decode cX7_move 95 = .ok (.goto (-23), 3) := by decide +kernel
theorem dX7_move_98 : decode cX7_move 98 = .ok (.aload_n 0, 1) := by decide +kernel
theorem dX7_move_99 : decode cX7_move 99 = .ok (.aload_n 0, 1) := by decide +kernel
theorem dX7_move_100 : decode cX7_move 100 = .ok (.getfield 25, 3) := by decide +kernel
theorem dX7_move_103 : decode cX7_move 103 = .ok (.invokevirtual 146, 3) := by decide +kernel
theorem dX7_move_106 : decode cX7_move 106 = .ok (.ireturn, 1) := by decide +kernel
set_option maxRecDepth 20000 in
theorem ggX7_isLine_X7_isOn : GoodIn wsX7_isLine wsX7_isOn := goodIn_r _ [6, 7, 8, 9, 10, 11, 12, 5, 13, 14, 15, 16, 17, 18, 19, 20, 21, 22, 23, 24, 25, 26, 27, 28, 29, 30, 31, 32, 33, 34, 35, 36, 37, 38, 39] (by decide +kernel) (by decide +kernel)
set_option maxRecDepth 20000 in
theorem gX7_isLine_X7_isOn : GoodIn wsX7_isLine (wsV RX7 117 RX7 yX7_isOn wsX7_isOn) := goodIn_app (goodIn_of _ (by decide +kernel)) ggX7_isLine_X7_isOn
theorem dX7_isLine_0 : decode cX7_isLine 0 = .ok (.iconst 0, 1) := by decide +kernel
theorem dX7_isLine_1 : decode cX7_isLine 1 = .ok (.istore 4, 2) := by decide +kernel
theorem dX7_isLine_3 : decode cX7_isLine 3 = .ok (.iconst 0, 1) := by decide +kernel
theorem dX7_isLine_4 : decode cX7_isLine 4 = .ok (.istore 5, 2) := by decide +kernel
theorem dX7_isLine_6 : decode cX7_isLine 6 = .ok (.iload 5, 2) := by decide +kernel
theorem dX7_isLine_8 : decode cX7_isLine 8 = .ok (.aload_n 0, 1) := by decide +kernel
theorem dX7_isLine_9 : decode cX7_isLine 9 = .ok (.getfield 83, 3) := by decide +kernel
theorem dX7_isLine_12 : decode cX7_isLine 12 = .ok (.if_icmp .ge 51, 3) := by decide +kernel
theorem dX7_isLine_15 : decode cX7_isLine 15 = .ok (.iload 4, 2) := by decide +kernel
theorem dX7_isLine_17 : decode cX7_isLine 17 = .ok (.ifCond .ne 33, 3) := by decide +kernel
theorem dX7_isLine_20 : decode cX7_isLine 20 = .ok (.aload_n 0, 1) := by decide +kernel
theorem dX7_isLine_21 : decode cX7_isLine 21 = .ok (.iload_n 1, 1) := by decide +kernel
theorem dX7_isLine_22 : decode cX7_isLine 22 = .ok (.iload 5, 2) := by decide +kernel
theorem dX7_isLine_24 : decode cX7_isLine 24 = .ok (.invokevirtual 117, 3) := by decide +kernel
theorem dX7_isLine_27 : decode cX7_isLine 27 = .ok (.ifCond .eq 27, 3) := by decide +kernel
theorem dX7_isLine_30 : decode cX7_isLine 30 = .ok (.aload_n 0, 1) := by decide +kernel
theorem dX7_isLine_31 : decode cX7_isLine 31 = .ok (.iload_n 2, 1) := by decide +kernel
theorem dX7_isLine_32 : decode cX7_isLine 32 = .ok (.iload 5, 2) := by decide +kernel
theorem dX7_isLine_34 : decode cX7_isLine 34 = .ok (.invokevirtual 117, 3) := by decide +kernel
theorem dX7_isLine_37 : decode cX7_isLine 37 = .ok (.ifCond .eq 17, 3) := by decide +kernel
theorem dX7_isLine_40 : decode cX7_isLine 40 = .ok (.aload_n 0, 1) := by decide +kernel
theorem dX7_isLine_41 : decode cX7_isLine 41 = .ok (.iload_n 3, 1) := by decide +kernel
theorem dX7_isLine_42 : decode cX7_isLine 42 = .ok (.iload 5, 2) := by decide +kernel
theorem dX7_isLine_44 : decode cX7_isLine 44 = .ok (.invokevirtual 117, 3) := by decide +kernel
theorem dX7_isLine_47 : decode cX7_isLine 47 = .ok (.ifCond .eq 7, 3) := by decide +kernel
theorem dX7_isLine_50 : decode cX7_isLine 50 = .ok (.iconst 1, 1) := by decide +kernel
theorem dX7_isLine_51 : decode cX7_isLine 51 = .ok (.goto 4, 3) := by decide +kernel
theorem dX7_isLine_54 : decode cX7_isLine 54 = .ok (.iconst 0, 1) := by decide +kernel
theorem dX7_isLine_55 : decode cX7_isLine 55 = .ok (.istore 4, 2) := by decide +kernel
theorem dX7_isLine_57 : decode cX7_isLine 57 = .ok (.iinc 5 1, 3) := by decide +kernel
theorem dX7_isLine_60 : decode cX7_isLine 60 = .ok (.goto (-54), 3) := by decide +kernel
theorem dX7_isLine_63 : decode cX7_isLine 63 = .ok (.iload 4, 2) := by decide +kernel
theorem dX7_isLine_65 : decode cX7_isLine 65 = .ok (.ireturn, 1) := by decide +kernel
set_option maxRecDepth 20000 in
theorem ggX7_isFrame_X7_isLine : GoodIn wsX7_isFrame wsX7_isLine := goodIn_r _ [5, 6, 7, 8, 9, 4, 10, 11, 12, 13, 14, 15, 16, 17, 18, 19, 20, 21, 22, 23, 24, 25, 26, 27, 28, 29, 30, 31, 32, 33, 34, 35, 36, 37, 38, 39, 40, 41, 42, 43] (by decide +kernel) (by decide +kernel)
set_option maxRecDepth 20000 in
theorem gX7_isFrame_X7_isLine : GoodIn wsX7_isFrame (wsV RX7 185 RX7 yX7_isLine wsX7_isLine) := goodIn_app (goodIn_of _ (by decide +kernel)) ggX7_isFrame_X7_isLine
theorem dX7_isFrame_0 : decode cX7_isFrame 0 = .ok (.aload_n 0, 1) := by decide +kernel
theorem dX7_isFrame_1 : decode cX7_isFrame 1 = .ok (.iload_n 1, 1) := by decide +kernel
theorem dX7_isFrame_2 : decode cX7_isFrame 2 = .ok (.iload_n 2, 1) := by decide +kernel
theorem dX7_isFrame_3 : decode cX7_isFrame 3 = .ok (.iload_n 3, 1) := by decide +kernel
theorem dX7_isFrame_4 : decode cX7_isFrame 4 = .ok (.invokevirtual 185, 3) := by decide +kernel
theorem dX7_isFrame_7 : decode cX7_isFrame 7 = .ok (.ifCond .ne 40, 3) := by decide +kernel
theorem dX7_isFrame_10 : decode cX7_isFrame 10 = .ok (.aload_n 0, 1) := by decide +kernel
theorem dX7_isFrame_11 : decode cX7_isFrame 11 = .ok (.iload_n 1, 1) := by decide +kernel
theorem dX7_isFrame_12 : decode cX7_isFrame 12 = .ok (.iload_n 2, 1) := by decide +kernel
theorem dX7_isFrame_13 : decode cX7_isFrame 13 = .ok (.iload 4, 2) := by decide +kernel
theorem dX7_isFrame_15 : decode cX7_isFrame 15 = .ok (.invokevirtual 185, 3) := by decide +kernel
theorem dX7_isFrame_18 : decode cX7_isFrame 18 = .ok (.ifCond .ne 29, 3) := by decide +kernel
theorem dX7_isFrame_21 : decode cX7_isFrame 21 = .ok (.aload_n 0, 1) := by decide +kernel
theorem dX7_isFrame_22 : decode cX7_isFrame 22 = .ok (.iload_n 1, 1) := by decide +kernel
theorem dX7_isFrame_23 : decode cX7_isFrame 23 = .ok (.iload_n 3, 1) := by decide +kernel
theorem dX7_isFrame_24 : decode cX7_isFrame 24 = .ok (.iload 4, 2) := by decide +kernel
theorem dX7_isFrame_26 : decode cX7_isFrame 26 = .ok (.invokevirtual 185, 3) := by decide +kernel
theorem dX7_isFrame_29 : decode cX7_isFrame 29 = .ok (.ifCond .ne 18, 3) := by decide +kernel
theorem dX7_isFrame_32 : decode cX7_isFrame 32 = .ok (.aload_n 0, 1) := by decide +kernel
theorem dX7_isFrame_33 : decode cX7_isFrame 33 = .ok (.iload_n 2, 1) := by decide +kernel
theorem dX7_isFrame_34 : decode cX7_isFrame 34 = .ok (.iload_n 3, 1) := by decide +kernel
theorem dX7_isFrame_35 : decode cX7_isFrame 35 = .ok (.iload 4, 2) := by decide +kernel
theorem dX7_isFrame_37 : decode cX7_isFrame 37 = .ok (.invokevirtual 185, 3) := by decide +kernel
theorem dX7_isFrame_40 : decode cX7_isFrame 40 = .ok (.ifCond .ne 7, 3) := by decide +kernel
theorem dX7_isFrame_43 : decode cX7_isFrame 43 = .ok (.iconst 1, 1) := by decide +kernel
theorem dX7_isFrame_44 : decode cX7_isFrame 44 = .ok (.goto 4, 3) := by decide +kernel
theorem dX7_isFrame_47 : decode cX7_isFrame 47 = .ok (.iconst 0, 1) := by decide +kernel
theorem dX7_isFrame_48 : decode cX7_isFrame 48 = .ok (.ireturn, 1) := by decide +kernel
set_option maxRecDepth 20000 in
theorem ggX7_findFrame_X7_times : GoodIn wsX7_findFrame wsX7_times := goodIn_r _ [10, 11, 20, 21, 22, 23, 24, 25, 26, 27, 28, 29, 30, 31, 32, 33, 34, 35, 36, 37, 38, 39] (by decide +kernel) (by decide +kernel)
set_option maxRecDepth 20000 in
theorem gX7_findFrame_X7_times : GoodIn wsX7_findFrame (wsV RX7 90 RX7 yX7_times wsX7_times) := goodIn_app (goodIn_of _ (by decide +kernel)) ggX7_findFrame_X7_times
set_option maxRecDepth 20000 in
theorem ggX7_findFrame_X7_add : GoodIn wsX7_findFrame wsX7_add := goodIn_r _ [15, 16, 20, 21, 22, 23, 24, 25, 26, 27, 28, 29, 30, 31, 32, 33, 34, 35, 36, 37, 38, 39] (by decide +kernel) (by decide +kernel)
set_option maxRecDepth 20000 in
theorem gX7_findFrame_X7_add : GoodIn wsX7_findFrame (wsV RX7 86 RX7 yX7_add wsX7_add) := goodIn_app (goodIn_of _ (by decide +kernel)) ggX7_findFrame_X7_add
set_option maxRecDepth 20000 in
theorem ggX7_findFrame_X7_three : GoodIn wsX7_findFrame wsX7_three := goodIn_r _ [19] (by decide +kernel) (by decide +kernel)
set_option maxRecDepth 20000 in
theorem gX7_findFrame_X7_three : GoodIn wsX7_findFrame (va_wsS RX7 110 yX7_three wsX7_three) := goodIn_app (goodIn_of _ (by decide +kernel)) ggX7_findFrame_X7_three
theorem dX7_findFrame_0 : decode cX7_findFrame 0 = .ok (.iconst 0, 1) := by decide +kernel
theorem dX7_findFrame_1 : decode cX7_findFrame 1 = .ok (.istore 5, 2) := by decide +kernel
theorem dX7_findFrame_3 : decode cX7_findFrame 3 = .ok (.iconst 0, 1) := by decide +kernel
theorem dX7_findFrame_4 : decode cX7_findFrame 4 = .ok (.istore 6, 2) := by decide +kernel
theorem dX7_findFrame_6 : decode cX7_findFrame 6 = .ok (.iload 6, 2) := by decide +kernel
theorem dX7_findFrame_8 : decode cX7_findFrame 8 = .ok (.aload_n 0, 1) := by decide +kernel
theorem dX7_findFrame_9 : decode cX7_findFrame 9 = .ok (.getfield 74, 3) := by decide +kernel
theorem dX7_findFrame_12 : decode cX7_findFrame 12 = .ok (.aload_n 0, 1) := by decide +kernel
theorem dX7_findFrame_13 : decode cX7_findFrame 13 = .ok (.getfield 74, 3) := by decide +kernel
theorem dX7_findFrame_16 : decode cX7_findFrame 16 = .ok (.imul, 1) := by decide +kernel
theorem dX7_findFrame_17 : decode cX7_findFrame 17 = .ok (.aload_n 0, 1) := by decide +kernel
theorem dX7_findFrame_18 : decode cX7_findFrame 18 = .ok (.getfield 74, 3) := by decide +kernel
theorem dX7_findFrame_21 : decode cX7_findFrame 21 = .ok (.imul, 1) := by decide +kernel
theorem dX7_findFrame_22 : decode cX7_findFrame 22 = .ok (.if_icmp .ge 358, 3) := by decide +kernel
theorem dX7_findFrame_25 : decode cX7_findFrame 25 = .ok (.iload 5, 2) := by decide +kernel
theorem dX7_findFrame_27 : decode cX7_findFrame 27 = .ok (.ifCond .ne 353, 3) := by decide +kernel
theorem dX7_findFrame_30 : decode cX7_findFrame 30 = .ok (.iload 6, 2) := by decide +kernel
theorem dX7_findFrame_32 : decode cX7_findFrame 32 = .ok (.aload_n 0, 1) := by decide +kernel
theorem dX7_findFrame_33 : decode cX7_findFrame 33 = .ok (.getfield 74, 3) := by decide +kernel
theorem dX7_findFrame_36 : decode cX7_findFrame 36 = .ok (.aload_n 0, 1) := by decide +kernel
theorem dX7_findFrame_37 : decode cX7_findFrame 37 = .ok (.getfield 74, 3) := by decide +kernel
theorem dX7_findFrame_40 : decode cX7_findFrame 40 = .ok (.imul, 1) := by decide +kernel
theorem dX7_findFrame_41 : decode cX7_findFrame 41 = .ok (.idiv, 1) := by decide +kernel
theorem dX7_findFrame_42 : decode cX7_findFrame 42 = .ok (.istore 7, 2) := by decide +kernel
theorem dX7_findFrame_44 : decode cX7_findFrame 44 = .ok (.iload 6, 2) := by decide +kernel
theorem dX7_findFrame_46 : decode cX7_findFrame 46 = .ok (.aload_n 0, 1) := by decide +kernel
theorem dX7_findFrame_47 : decode cX7_findFrame 47 = .ok (.getfield 74, 3) := by decide +kernel
theorem dX7_findFrame_50 : decode cX7_findFrame 50 = .ok (.idiv, 1) := by decide +kernel
theorem dX7_findFrame_51 : decode cX7_findFrame 51 = .ok (.aload_n 0, 1) := by decide +kernel
theorem dX7_findFrame_52 : decode cX7_findFrame 52 = .ok (.getfield 74, 3) := by decide +kernel
theorem dX7_findFrame_55 : decode cX7_findFrame 55 = .ok (.irem, 1) := by decide +kernel
theorem dX7_findFrame_56 : decode cX7_findFrame 56 = .ok (.istore 8, 2) := by decide +kernel
theorem dX7_findFrame_58 : decode cX7_findFrame 58 = .ok (.iload 6, 2) := by decide +kernel
theorem dX7_findFrame_60 : decode cX7_findFrame 60 = .ok (.aload_n 0, 1) := by decide +kernel
theorem dX7_findFrame_61 : decode cX7_findFrame 61 = .ok (.getfield 74, 3) := by decide +kernel
theorem dX7_findFrame_64 : decode cX7_findFrame 64 = .ok (.irem, 1) := by decide +kernel
theorem dX7_findFrame_65 : decode cX7_findFrame 65 = .ok (.istore 9, 2) := by decide +kernel
theorem dX7_findFrame_67 : decode cX7_findFrame 67 = .ok (.aload_n 0, 1) := by decide +kernel
theorem dX7_findFrame_68 : decode cX7_findFrame 68 = .ok (.aload_n 0, 1) := by decide +kernel
theorem dX7_findFrame_69 : decode cX7_findFrame 69 = .ok (.aload_n 0, 1) := by decide +kernel
theorem dX7_findFrame_70 : decode cX7_findFrame 70 = .ok (.iload 7, 2) := by decide +kernel
theorem dX7_findFrame_72 : decode cX7_findFrame 72 = .ok (.aload_n 0, 1) := by decide +kernel
theorem dX7_findFrame_73 : decode cX7_findFrame 73 = .ok (.getfield 16, 3) := by decide +kernel
theorem dX7_findFrame_76 : decode cX7_findFrame 76 = .ok (.iload_n 1, 1) := by decide +kernel
