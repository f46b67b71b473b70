theorem dX7_init_0 : decode cX7_init 0 = .ok (.aload_n 0, 1) := by decide +kernel
theorem dX7_init_1 : decode cX7_init 1 = .ok (.invokespecial 1, 3) := by decide +kernel
theorem dX7_init_4 : decode cX7_init 4 = .ok (.aload_n 0, 1) := by decide +kernel
theorem dX7_init_5 : decode cX7_init 5 = .ok (.bipush 81, 2) := by decide +kernel
theorem dX7_init_7 : decode cX7_init 7 = .ok (.newarray .int, 2) := by decide +kernel
theorem dX7_init_9 : decode cX7_init 9 = .ok (.putfield 7, 3) := by decide +kernel
theorem dX7_init_12 : decode cX7_init 12 = .ok (.aload_n 0, 1) := by decide +kernel
theorem dX7_init_13 : decode cX7_init 13 = .ok (.bipush 81, 2) := by decide +kernel
theorem dX7_init_15 : decode cX7_init 15 = .ok (.newarray .int, 2) := by decide +kernel
theorem dX7_init_17 : decode cX7_init 17 = .ok (.putfield 13, 3) := by decide +kernel
theorem dX7_init_20 : decode cX7_init 20 = .ok (.aload_n 0, 1) := by decide +kernel
theorem dX7_init_21 : decode cX7_init 21 = .ok (.bipush 91, 2) := by decide +kernel
theorem dX7_init_23 : decode cX7_init 23 = .ok (.newarray .int, 2) := by decide +kernel
theorem dX7_init_25 : decode cX7_init 25 = .ok (.putfield 16, 3) := by decide +kernel
theorem dX7_init_28 : decode cX7_init 28 = .ok (.aload_n 0, 1) := by decide +kernel
theorem dX7_init_29 : decode cX7_init 29 = .ok (.bipush 91, 2) := by decide +kernel
theorem dX7_init_31 : decode cX7_init 31 = .ok (.newarray .int, 2) := by decide +kernel
theorem dX7_init_33 : decode cX7_init 33 = .ok (.putfield 19, 3) := by decide +kernel
theorem dX7_init_36 : decode cX7_init 36 = .ok (.aload_n 0, 1) := by decide +kernel
theorem dX7_init_37 : decode cX7_init 37 = .ok (.bipush 91, 2) := by decide +kernel
theorem dX7_init_39 : decode cX7_init 39 = .ok (.newarray .int, 2) := by decide +kernel
theorem dX7_init_41 : decode cX7_init 41 = .ok (.putfield 22, 3) := by decide +kernel
theorem dX7_init_44 : decode cX7_init 44 = .ok (.aload_n 0, 1) := by decide +kernel
theorem dX7_init_45 : decode cX7_init 45 = .ok (.bipush 91, 2) := by decide +kernel
theorem dX7_init_47 : decode cX7_init 47 = .ok (.newarray .boolean, 2) := by decide +kernel
theorem dX7_init_49 : decode cX7_init 49 = .ok (.putfield 25, 3) := by decide +kernel
theorem dX7_init_52 : decode cX7_init 52 = .ok (.aload_n 0, 1) := by decide +kernel
theorem dX7_init_53 : decode cX7_init 53 = .ok (.bipush 9, 2) := by decide +kernel
theorem dX7_init_55 : decode cX7_init 55 = .ok (.newarray .int, 2) := by decide +kernel
theorem dX7_init_57 : decode cX7_init 57 = .ok (.putfield 29, 3) := by decide +kernel
theorem dX7_init_60 : decode cX7_init 60 = .ok (.aload_n 0, 1) := by decide +kernel
theorem dX7_init_61 : decode cX7_init 61 = .ok (.bipush 91, 2) := by decide +kernel
theorem dX7_init_63 : decode cX7_init 63 = .ok (.newarray .boolean, 2) := by decide +kernel
theorem dX7_init_65 : decode cX7_init 65 = .ok (.putfield 32, 3) := by decide +kernel
theorem dX7_init_68 : decode cX7_init 68 = .ok (.aload_n 0, 1) := by decide +kernel
theorem dX7_init_69 : decode cX7_init 69 = .ok (.bipush 91, 2) := by decide +kernel
theorem dX7_init_71 : decode cX7_init 71 = .ok (.newarray .boolean, 2) := by decide +kernel
theorem dX7_init_73 : decode cX7_init 73 = .ok (.putfield 35, 3) := by decide +kernel
theorem dX7_init_76 : decode cX7_init 76 = .ok (.aload_n 0, 1) := by decide +kernel
theorem dX7_init_77 : decode cX7_init 77 = .ok (.bipush 91, 2) := by decide +kernel
theorem dX7_init_79 : decode cX7_init 79 = .ok (.newarray .boolean, 2) := by decide +kernel
theorem dX7_init_81 : decode cX7_init 81 = .ok (.putfield 38, 3) := by decide +kernel
theorem dX7_init_84 : decode cX7_init 84 = .ok (.aload_n 0, 1) := by decide +kernel
theorem dX7_init_85 : decode cX7_init 85 = .ok (.bipush 92, 2) := by decide +kernel
theorem dX7_init_87 : decode cX7_init 87 = .ok (.newarray .int, 2) := by decide +kernel
theorem dX7_init_89 : decode cX7_init 89 = .ok (.putfield 41, 3) := by decide +kernel
theorem dX7_init_92 : decode cX7_init 92 = .ok (.aload_n 0, 1) := by decide +kernel
theorem dX7_init_93 : decode cX7_init 93 = .ok (.bipush 91, 2) := by decide +kernel
theorem dX7_init_95 : decode cX7_init 95 = .ok (.newarray .int, 2) := by decide +kernel
theorem dX7_init_97 : decode cX7_init 97 = .ok (.putfield 44, 3) := by decide +kernel
theorem dX7_init_100 : decode cX7_init 100 = .ok (.aload_n 0, 1) := by decide +kernel
theorem dX7_init_101 : decode cX7_init 101 = .ok (.bipush 91, 2) := by decide +kernel
theorem dX7_init_103 : decode cX7_init 103 = .ok (.newarray .int, 2) := by decide +kernel
theorem dX7_init_105 : decode cX7_init 105 = .ok (.putfield 47, 3) := by decide +kernel
theorem dX7_init_108 : decode cX7_init 108 = .ok (.aload_n 0, 1) := by decide +kernel
theorem dX7_init_109 : decode cX7_init 109 = .ok (.bipush 9, 2) := by decide +kernel
theorem dX7_init_111 : decode cX7_init 111 = .ok (.newarray .int, 2) := by decide +kernel
theorem dX7_init_113 : decode cX7_init 113 = .ok (.putfield 50, 3) := by decide +kernel
theorem dX7_init_116 : decode cX7_init 116 = .ok (.aload_n 0, 1) := by decide +kernel
theorem dX7_init_117 : decode cX7_init 117 = .ok (.bipush 91, 2) := by decide +kernel
theorem dX7_init_119 : decode cX7_init 119 = .ok (.newarray .boolean, 2) := by decide +kernel
theorem dX7_init_121 : decode cX7_init 121 = .ok (.putfield 53, 3) := by decide +kernel
theorem dX7_init_124 : decode cX7_init 124 = .ok (.aload_n 0, 1) := by decide +kernel
theorem dX7_init_125 : decode cX7_init 125 = .ok (.bipush 9, 2) := by decide +kernel
theorem dX7_init_127 : decode cX7_init 127 = .ok (.newarray .int, 2) := by decide +kernel
theorem dX7_init_129 : decode cX7_init 129 = .ok (.putfield 56, 3) := by decide +kernel
theorem dX7_init_132 : decode cX7_init 132 = .ok (.aload_n 0, 1) := by decide +kernel
theorem dX7_init_133 : decode cX7_init 133 = .ok (.sipush 169, 3) := by decide +kernel
theorem dX7_init_136 : decode cX7_init 136 = .ok (.newarray .boolean, 2) := by decide +kernel
theorem dX7_init_138 : decode cX7_init 138 = .ok (.putfield 59, 3) := by decide +kernel
theorem dX7_init_141 : decode cX7_init 141 = .ok (.aload_n 0, 1) := by decide +kernel
theorem dX7_init_142 : decode cX7_init 142 = .ok (.iconst 2, 1) := by decide +kernel
theorem dX7_init_143 : decode cX7_init 143 = .ok (.invokevirtual 62, 3) := by decide +kernel
theorem dX7_init_146 : decode cX7_init 146 = .ok (.aload_n 0, 1) := by decide +kernel
theorem dX7_init_147 : decode cX7_init 147 = .ok (.iconst 1, 1) := by decide +kernel
theorem dX7_init_148 : decode cX7_init 148 = .ok (.putfield 66, 3) := by decide +kernel
theorem dX7_init_151 : decode cX7_init 151 = .ok (.return_, 1) := by decide +kernel
theorem dX7_isFrom_0 : decode cX7_isFrom 0 = .ok (.iload_n 0, 1) := by decide +kernel
theorem dX7_isFrom_1 : decode cX7_isFrom 1 = .ok (.iload_n 1, 1) := by decide +kernel
theorem dX7_isFrom_2 : decode cX7_isFrom 2 = .ok (.if_icmp .lt 12, 3) := by decide +kernel
theorem dX7_isFrom_5 : decode cX7_isFrom 5 = .ok (.iload_n 0, 1) := by decide +kernel
theorem dX7_isFrom_6 : decode cX7_isFrom 6 = .ok (.iload_n 2, 1) := by decide +kernel
theorem dX7_isFrom_7 : decode cX7_isFrom 7 = .ok (.if_icmp .gt 7, 3) := by decide +kernel
theorem dX7_isFrom_10 : decode cX7_isFrom 10 = .ok (.iconst 1, 1) := by decide +kernel
theorem dX7_isFrom_11 : decode cX7_isFrom 11 = .ok (.goto 4, 3) := by decide +kernel
theorem dX7_isFrom_14 : decode cX7_isFrom 14 = .ok (.iconst 0, 1) := by decide +kernel
theorem dX7_isFrom_15 : decode cX7_isFrom 15 = .ok (.ireturn, 1) := by decide +kernel
theorem dX7_terms_0 : decode cX7_terms 0 = .ok (.iconst 0, 1) := by decide +kernel
theorem dX7_terms_1 : decode cX7_terms 1 = .ok (.istore_n 3, 1) := by decide +kernel
theorem dX7_terms_2 : decode cX7_terms 2 = .ok (.iconst 0, 1) := by decide +kernel
theorem dX7_terms_3 : decode cX7_terms 3 = .ok (.istore 4, 2) := by decide +kernel
theorem dX7_terms_5 : decode cX7_terms 5 = .ok (.iload 4, 2) := by decide +kernel
theorem dX7_terms_7 : decode cX7_terms 7 = .ok (.iload_n 2, 1) := by decide +kernel
theorem dX7_terms_8 : decode cX7_terms 8 = .ok (.if_icmp .ge 30, 3) := by decide +kernel
theorem dX7_terms_11 : decode cX7_terms 11 = .ok (.iload_n 1, 1) := by decide +kernel
theorem dX7_terms_12 : decode cX7_terms 12 = .ok (.iload 4, 2) := by decide +kernel
theorem dX7_terms_14 : decode cX7_terms 14 = .ok (.ishr, 1) := by decide +kernel
theorem dX7_terms_15 : decode cX7_terms 15 = .ok (.iconst 1, 1) := by decide +kernel
theorem dX7_terms_16 : decode cX7_terms 16 = .ok (.iand, 1) := by decide +kernel
theorem dX7_terms_17 : decode cX7_terms 17 = .ok (.iconst 1, 1) := by decide +kernel
theorem dX7_terms_18 : decode cX7_terms 18 = .ok (.if_icmp .ne 12, 3) := by decide +kernel
theorem dX7_terms_21 : decode cX7_terms 21 = .ok (.iload_n 3, 1) := by decide +kernel
theorem dX7_terms_22 : decode cX7_terms 22 = .ok (.iload_n 0, 1) := by decide +kernel
theorem dX7_terms_23 : decode cX7_terms 23 = .ok (.iload 4, 2) := by decide +kernel
theorem dX7_terms_25 : decode cX7_terms 25 = .ok (.ishl, 1) := by decide +kernel
theorem dX7_terms_26 : decode cX7_terms 26 = .ok (.ixor, 1) := by decide +kernel
theorem dX7_terms_27 : decode cX7_terms 27 = .ok (.goto 4, 3) := by decide +kernel
theorem dX7_terms_30 : decode cX7_terms 30 = .ok (.iload_n 3, 1) := by decide +kernel
theorem dX7_terms_31 : decode cX7_terms 31 = .ok (.istore_n 3, 1) := by decide +kernel
theorem dX7_terms_32 : decode cX7_terms 32 = .ok (.iinc 4 1, 3) := by decide +kernel
theorem dX7_terms_35 : decode cX7_terms 35 = .ok (.goto (-30), 3) := by decide +kernel
theorem dX7_terms_38 : decode cX7_terms 38 = .ok (.iconst 2, 1) := by decide +kernel
theorem dX7_terms_39 : decode cX7_terms 39 = .ok (.iload_n 2, 1) := by decide +kernel
theorem dX7_terms_40 : decode cX7_terms 40 = .ok (.imul, 1) := by decide +kernel
theorem dX7_terms_41 : decode cX7_terms 41 = .ok (.iconst 2, 1) := by decide +kernel
theorem dX7_terms_42 : decode cX7_terms 42 = .ok (.isub, 1) := by decide +kernel
theorem dX7_terms_43 : decode cX7_terms 43 = .ok (.istore 4, 2) := by decide +kernel
theorem dX7_terms_45 : decode cX7_terms 45 = .ok (.iload 4, 2) := by decide +kernel
theorem dX7_terms_47 : decode cX7_terms 47 = .ok (.iload_n 2, 1) := by decide +kernel
theorem dX7_terms_48 : decode cX7_terms 48 = .ok (.if_icmp .lt 37, 3) := by decide +kernel
theorem dX7_terms_51 : decode cX7_terms 51 = .ok (.iload_n 3, 1) := by decide +kernel
theorem dX7_terms_52 : decode cX7_terms 52 = .ok (.iload 4, 2) := by decide +kernel
theorem dX7_terms_54 : decode cX7_terms 54 = .ok (.ishr, 1) := by decide +kernel
theorem dX7_terms_55 : decode cX7_terms 55 = .ok (.iconst 1, 1) := by decide +kernel
theorem dX7_terms_56 : decode cX7_terms 56 = .ok (.iand, 1) := by decide +kernel
theorem dX7_terms_57 : decode cX7_terms 57 = .ok (.iconst 1, 1) := by decide +kernel
theorem dX7_terms_58 : decode cX7_terms 58 = .ok (.if_icmp .ne 19, 3) := by decide +kernel
theorem dX7_terms_61 : decode cX7_terms 61 = .ok (.iload_n 3, 1) := by decide +kernel
theorem dX7_terms_62 : decode cX7_terms 62 = .ok (.iconst 1, 1) := by decide +kernel
theorem dX7_terms_63 : decode cX7_terms 63 = .ok (.iload 4, 2) := by decide +kernel
theorem dX7_terms_65 : decode cX7_terms 65 = .ok (.ishl, 1) := by decide +kernel
theorem dX7_terms_66 : decode cX7_terms 66 = .ok (.ixor, 1) := by decide +kernel
theorem dX7_terms_67 : decode cX7_terms 67 = .ok (.iconst 3, 1) := by decide +kernel
theorem dX7_terms_68 : decode cX7_terms 68 = .ok (.iload 4, 2) := by decide +kernel
theorem dX7_terms_70 : decode cX7_terms 70 = .ok (.iload_n 2, 1) := by decide +kernel
theorem dX7_terms_71 : decode cX7_terms 71 = .ok (.isub, 1) := by decide +kernel
theorem dX7_terms_72 : decode cX7_terms 72 = .ok (.ishl, 1) := by decide +kernel
theorem dX7_terms_73 : decode cX7_terms 73 = .ok (.ixor, 1) := by decide +kernel
theorem dX7_terms_74 : decode cX7_terms 74 = .ok (.goto 4, 3) := by decide +kernel
theorem dX7_terms_77 : decode cX7_terms 77 = .ok (.iload_n 3, 1) := by decide +kernel
theorem dX7_terms_78 : decode cX7_terms 78 = .ok (.istore_n 3, 1) := by decide +kernel
theorem dX7_terms_79 : decode cX7_terms 79 = .ok (.iinc 4 (-1), 3) := by decide +kernel
theorem dX7_terms_82 : decode cX7_terms 82 = .ok (.goto (-37), 3) := by decide +kernel
theorem dX7_terms_85 : decode cX7_terms 85 = .ok (.iload_n 3, 1) := by decide +kernel
theorem dX7_terms_86 : decode cX7_terms 86 = .ok (.ireturn, 1) := by decide +kernel
theorem dX7_sumOf_0 : decode cX7_sumOf 0 = .ok (.iload_n 0, 1) := by decide +kernel
theorem dX7_sumOf_1 : decode cX7_sumOf 1 = .ok (.iconst 4, 1) := by decide +kernel
theorem dX7_sumOf_2 : decode cX7_sumOf 2 = .ok (.if_icmp .eq 9, 3) := by decide +kernel
theorem dX7_sumOf_5 : decode cX7_sumOf 5 = .ok (.iload_n 0, 1) := by decide +kernel
theorem dX7_sumOf_6 : decode cX7_sumOf 6 = .ok (.bipush 8, 2) := by decide +kernel
theorem dX7_sumOf_8 : decode cX7_sumOf 8 = .ok (.if_icmp .ne 7, 3) := by decide +kernel
theorem dX7_sumOf_11 : decode cX7_sumOf 11 = .ok (.iload_n 1, 1) := by decide +kernel
theorem dX7_sumOf_12 : decode cX7_sumOf 12 = .ok (.iload_n 2, 1) := by decide +kernel
theorem dX7_sumOf_13 : decode cX7_sumOf 13 = .ok (.ixor, 1) := by decide +kernel
theorem dX7_sumOf_14 : decode cX7_sumOf 14 = .ok (.ireturn, 1) := by decide +kernel
theorem dX7_sumOf_15 : decode cX7_sumOf 15 = .ok (.iload_n 0, 1) := by decide +kernel
theorem dX7_sumOf_16 : decode cX7_sumOf 16 = .ok (.bipush 9, 2) := by decide +kernel
theorem dX7_sumOf_18 : decode cX7_sumOf 18 = .ok (.if_icmp .ne 27, 3) := by decide +kernel
theorem dX7_sumOf_21 : decode cX7_sumOf 21 = .ok (.iload_n 1, 1) := by decide +kernel
theorem dX7_sumOf_22 : decode cX7_sumOf 22 = .ok (.iconst 3, 1) := by decide +kernel
theorem dX7_sumOf_23 : decode cX7_sumOf 23 = .ok (.irem, 1) := by decide +kernel
theorem dX7_sumOf_24 : decode cX7_sumOf 24 = .ok (.iload_n 2, 1) := by decide +kernel
theorem dX7_sumOf_25 : decode cX7_sumOf 25 = .ok (.iconst 3, 1) := by decide +kernel
theorem dX7_sumOf_26 : decode cX7_sumOf 26 = .ok (.irem, 1) := by decide +kernel
theorem dX7_sumOf_27 : decode cX7_sumOf 27 = .ok (.iadd, 1) := by decide +kernel
theorem dX7_sumOf_28 : decode cX7_sumOf 28 = .ok (.iconst 3, 1) := by decide +kernel
theorem dX7_sumOf_29 : decode cX7_sumOf 29 = .ok (.irem, 1) := by decide +kernel
theorem dX7_sumOf_30 : decode cX7_sumOf 30 = .ok (.iconst 3, 1) := by decide +kernel
theorem dX7_sumOf_31 : decode cX7_sumOf 31 = .ok (.iload_n 1, 1) := by decide +kernel
theorem dX7_sumOf_32 : decode cX7_sumOf 32 = .ok (.iconst 3, 1) := by decide +kernel
theorem dX7_sumOf_33 : decode cX7_sumOf 33 = .ok (.idiv, 1) := by decide +kernel
theorem dX7_sumOf_34 : decode cX7_sumOf 34 = .ok (.iload_n 2, 1) := by decide +kernel
theorem dX7_sumOf_35 : decode cX7_sumOf 35 = .ok (.iconst 3, 1) := by decide +kernel
theorem dX7_sumOf_36 : decode cX7_sumOf 36 = .ok (.idiv, 1) := by decide +kernel
theorem dX7_sumOf_37 : decode cX7_sumOf 37 = .ok (.iadd, 1) := by decide +kernel
theorem dX7_sumOf_38 : decode cX7_sumOf 38 = .ok (.iconst 3, 1) := by decide +kernel
theorem dX7_sumOf_39 : decode cX7_sumOf 39 = .ok (.irem, 1) := by decide +kernel
theorem dX7_sumOf_40 : decode cX7_sumOf 40 = .ok (.imul, 1) := by decide +kernel
theorem dX7_sumOf_41 : decode cX7_sumOf 41 = .ok (.iadd, 1) := by decide +kernel
theorem dX7_sumOf_42 : decode cX7_sumOf 42 = .ok (.goto 8, 3) := by decide +kernel
theorem dX7_sumOf_45 : decode cX7_sumOf 45 = .ok (.iload_n 1, 1) := by decide +kernel
theorem dX7_sumOf_46 : decode cX7_sumOf 46 = .ok (.iload_n 2, 1) := by decide +kernel
theorem dX7_sumOf_47 : decode cX7_sumOf 47 = .ok (.iadd, 1) := by decide +kernel
theorem dX7_sumOf_48 : decode cX7_sumOf 48 = .ok (.iload_n 0, 1) := by decide +kernel
theorem dX7_sumOf_49 : decode cX7_sumOf 49 = .ok (.irem, 1) := by decide +kernel
theorem dX7_sumOf_50 : decode cX7_sumOf 50 = .ok (.ireturn, 1) := by decide +kernel
set_option maxRecDepth 20000 in
theorem ggX7_productOf_X7_terms : GoodIn wsX7_productOf wsX7_terms := goodIn_r _ [4] (by decide +kernel) (by decide +kernel)
set_option maxRecDepth 20000 in
theorem gX7_productOf_X7_terms : GoodIn wsX7_productOf (va_wsS RX7 70 yX7_terms wsX7_terms) := goodIn_app (goodIn_of _ (by decide +kernel)) ggX7_productOf_X7_terms
theorem dX7_productOf_0 : decode cX7_productOf 0 = .ok (.iload_n 0, 1) := by decide +kernel
theorem dX7_productOf_1 : decode cX7_productOf 1 = .ok (.iconst 4, 1) := by decide +kernel
theorem dX7_productOf_2 : decode cX7_productOf 2 = .ok (.if_icmp .eq 9, 3) := by decide +kernel
theorem dX7_productOf_5 : decode cX7_productOf 5 = .ok (.iload_n 0, 1) := by decide +kernel
theorem dX7_productOf_6 : decode cX7_productOf 6 = .ok (.bipush 8, 2) := by decide +kernel
theorem dX7_productOf_8 : decode cX7_productOf 8 = .ok (.if_icmp .ne 19, 3) := by decide +kernel
theorem dX7_productOf_11 : decode cX7_productOf 11 = .ok (.iload_n 1, 1) := by decide +kernel
theorem dX7_productOf_12 : decode cX7_productOf 12 = .ok (.iload_n 2, 1) := by decide +kernel
theorem dX7_productOf_13 : decode cX7_productOf 13 = .ok (.iload_n 0, 1) := by decide +kernel
theorem dX7_productOf_14 : decode cX7_productOf 14 = .ok (.iconst 4, 1) := by decide +kernel
theorem dX7_productOf_15 : decode cX7_productOf 15 = .ok (.if_icmp .ne 7, 3) := by decide +kernel
theorem dX7_productOf_18 : decode cX7_productOf 18 = .ok (.iconst 2, 1) := by decide +kernel
theorem dX7_productOf_19 : decode cX7_productOf 19 = .ok (.goto 4, 3) := by decide +kernel
theorem dX7_productOf_22 : decode cX7_productOf 22 = .ok (.iconst 3, 1) := by decide +kernel
theorem dX7_productOf_23 : decode cX7_productOf 23 = .ok (.invokestatic 70, 3) := by decide +kernel
theorem dX7_productOf_26 : decode cX7_productOf 26 = .ok (.ireturn, 1) := by decide +kernel
theorem dX7_productOf_27 : decode cX7_productOf 27 = .ok (.iload_n 0, 1) := by decide +kernel
theorem dX7_productOf_28 : decode cX7_productOf 28 = .ok (.bipush 9, 2) := by decide +kernel
theorem dX7_productOf_30 : decode cX7_productOf 30 = .ok (.if_icmp .ne 45, 3) := by decide +kernel
theorem dX7_productOf_33 : decode cX7_productOf 33 = .ok (.iload_n 1, 1) := by decide +kernel
theorem dX7_productOf_34 : decode cX7_productOf 34 = .ok (.iconst 3, 1) := by decide +kernel
theorem dX7_productOf_35 : decode cX7_productOf 35 = .ok (.irem, 1) := by decide +kernel
theorem dX7_productOf_36 : decode cX7_productOf 36 = .ok (.iload_n 2, 1) := by decide +kernel
theorem dX7_productOf_37 : decode cX7_productOf 37 = .ok (.iconst 3, 1) := by decide +kernel
theorem dX7_productOf_38 : decode cX7_productOf 38 = .ok (.irem, 1) := by decide +kernel
theorem dX7_productOf_39 : decode cX7_productOf 39 = .ok (.imul, 1) := by decide +kernel
theorem dX7_productOf_40 : decode cX7_productOf 40 = .ok (.iconst 2, 1) := by decide +kernel
theorem dX7_productOf_41 : decode cX7_productOf 41 = .ok (.iload_n 1, 1) := by decide +kernel
theorem dX7_productOf_42 : decode cX7_productOf 42 = .ok (.iconst 3, 1) := by decide +kernel
theorem dX7_productOf_43 : decode cX7_productOf 43 = .ok (.idiv, 1) := by decide +kernel
theorem dX7_productOf_44 : decode cX7_productOf 44 = .ok (.imul, 1) := by decide +kernel
theorem dX7_productOf_45 : decode cX7_productOf 45 = .ok (.iload_n 2, 1) := by decide +kernel
theorem dX7_productOf_46 : decode cX7_productOf 46 = .ok (.iconst 3, 1) := by decide +kernel
theorem dX7_productOf_47 : decode cX7_productOf 47 = .ok (.idiv, 1) := by decide +kernel
theorem dX7_productOf_48 : decode cX7_productOf 48 = .ok (.imul, 1) := by decide +kernel
theorem dX7_productOf_49 : decode cX7_productOf 49 = .ok (.iadd, 1) := by decide +kernel
theorem dX7_productOf_50 : decode cX7_productOf 50 = .ok (.iconst 3, 1) := by decide +kernel
theorem dX7_productOf_51 : decode cX7_productOf 51 = .ok (.irem, 1) := by decide +kernel
theorem dX7_productOf_52 : decode cX7_productOf 52 = .ok (.istore_n 3, 1) := by decide +kernel
theorem dX7_productOf_53 : decode cX7_productOf 53 = .ok (.iload_n 3, 1) := by decide +kernel
theorem dX7_productOf_54 : decode cX7_productOf 54 = .ok (.iconst 3, 1) := by decide +kernel
theorem dX7_productOf_55 : decode cX7_productOf 55 = .ok (.iload_n 1, 1) := by decide +kernel
theorem dX7_productOf_56 : decode cX7_productOf 56 = .ok (.iconst 3, 1) := by decide +kernel
theorem dX7_productOf_57 : decode cX7_productOf 57 = .ok (.irem, 1) := by decide +kernel
theorem dX7_productOf_58 : decode cX7_productOf 58 = .ok (.iload_n 2, 1) := by decide +kernel
theorem dX7_productOf_59 : decode cX7_productOf 59 = .ok (.iconst 3, 1) := by decide +kernel
theorem dX7_productOf_60 : decode cX7_productOf 60 = .ok (.idiv, 1) := by decide +kernel
theorem dX7_productOf_61 : decode cX7_productOf 61 = .ok (.imul, 1) := by decide +kernel
theorem dX7_productOf_62 : decode cX7_productOf 62 = .ok (.iload_n 1, 1) := by decide +kernel
theorem dX7_productOf_63 : decode cX7_productOf 63 = .ok (.iconst 3, 1) := by decide +kernel
theorem dX7_productOf_64 : decode cX7_productOf 64 = .ok (.idiv, 1) := by decide +kernel
theorem dX7_productOf_65 : decode cX7_productOf 65 = .ok (.iload_n 2, 1) := by decide +kernel
theorem dX7_productOf_66 : decode cX7_productOf 66 = .ok (.iconst 3, 1) := by decide +kernel
theorem dX7_productOf_67 : decode cX7_productOf 67 = .ok (.irem, 1) := by decide +kernel
theorem dX7_productOf_68 : decode cX7_productOf 68 = .ok (.imul, 1) := by decide +kernel
theorem dX7_productOf_69 : decode cX7_productOf 69 = .ok (.iadd, 1) := by decide +kernel
theorem dX7_productOf_70 : decode cX7_productOf 70 = .ok (.iconst 3, 1) := by decide +kernel
theorem dX7_productOf_71 : decode cX7_productOf 71 = .ok (.irem, 1) := by decide +kernel
theorem dX7_productOf_72 : decode cX7_productOf 72 = .ok (.imul, 1) := by decide +kernel
theorem dX7_productOf_73 : decode cX7_productOf 73 = .ok (.iadd, 1) := by decide +kernel
theorem dX7_productOf_74 : decode cX7_productOf 74 = .ok (.ireturn, 1) := by decide +kernel
theorem dX7_productOf_75 : decode cX7_productOf 75 = .ok (.iload_n 1, 1) := by decide +kernel
theorem dX7_productOf_76 : decode cX7_productOf 76 = .ok (.iload_n 2, 1) := by decide +kernel
theorem dX7_productOf_77 : decode cX7_productOf 77 = .ok (.imul, 1) := by decide +kernel
theorem dX7_productOf_78 : decode cX7_productOf 78 = .ok (.iload_n 0, 1) := by decide +kernel
theorem dX7_productOf_79 : decode cX7_productOf 79 = .ok (.irem, 1) := by decide +kernel
theorem dX7_productOf_80 : decode cX7_productOf 80 = .ok (.ireturn, 1) := by decide +kernel
set_option maxRecDepth 20000 in
theorem ggX7_make_X7_sumOf : GoodIn wsX7_make wsX7_sumOf := goodIn_r _ [13] (by decide +kernel) (by decide +kernel)
set_option maxRecDepth 20000 in
theorem gX7_make_X7_sumOf : GoodIn wsX7_make (va_wsS RX7 77 yX7_sumOf wsX7_sumOf) := goodIn_app (goodIn_of _ (by decide +kernel)) ggX7_make_X7_sumOf
set_option maxRecDepth 20000 in
theorem ggX7_make_X7_productOf : GoodIn wsX7_make wsX7_productOf := goodIn_r _ [16, 17, 18, 12, 19] (by decide +kernel) (by decide +kernel)
set_option maxRecDepth 20000 in
theorem gX7_make_X7_productOf : GoodIn wsX7_make (va_wsS RX7 80 yX7_productOf wsX7_productOf) := goodIn_app (goodIn_of _ (by decide +kernel)) ggX7_make_X7_productOf
theorem dX7_make_0 : decode cX7_make 0 = .ok (.aload_n 0, 1) := by decide +kernel
theorem dX7_make_1 : decode cX7_make 1 = .ok (.iload_n 1, 1) := by decide +kernel
theorem dX7_make_2 : decode cX7_make 2 = .ok (.putfield 74, 3) := by decide +kernel
theorem dX7_make_5 : decode cX7_make 5 = .ok (.iconst 0, 1) := by decide +kernel
theorem dX7_make_6 : decode cX7_make 6 = .ok (.istore_n 2, 1) := by decide +kernel
theorem dX7_make_7 : decode cX7_make 7 = .ok (.iload_n 2, 1) := by decide +kernel
theorem dX7_make_8 : decode cX7_make 8 = .ok (.aload_n 0, 1) := by decide +kernel
theorem dX7_make_9 : decode cX7_make 9 = .ok (.getfield 74, 3) := by decide +kernel
theorem dX7_make_12 : decode cX7_make 12 = .ok (.if_icmp .ge 65, 3) := by decide +kernel
theorem dX7_make_15 : decode cX7_make 15 = .ok (.iconst 0, 1) := by decide +kernel
theorem dX7_make_16 : decode cX7_make 16 = .ok (.istore_n 3, 1) := by decide +kernel
theorem dX7_make_17 : decode cX7_make 17 = .ok (.iload_n 3, 1) := by decide +kernel
theorem dX7_make_18 : decode cX7_make 18 = .ok (.aload_n 0, 1) := by decide +kernel
theorem dX7_make_19 : decode cX7_make 19 = .ok (.getfield 74, 3) := by decide +kernel
theorem dX7_make_22 : decode cX7_make 22 = .ok (.if_icmp .ge 49, 3) := by decide +kernel
theorem dX7_make_25 : decode cX7_make 25 = .ok (.aload_n 0, 1) := by decide +kernel
theorem dX7_make_26 : decode cX7_make 26 = .ok (.getfield 7, 3) := by decide +kernel
theorem dX7_make_29 : decode cX7_make 29 = .ok (.bipush 9, 2) := by decide +kernel
theorem dX7_make_31 : decode cX7_make 31 = .ok (.iload_n 2, 1) := by decide +kernel
theorem dX7_make_32 : decode cX7_make 32 = .ok (.imul, 1) := by decide +kernel
theorem dX7_make_33 : decode cX7_make 33 = .ok (.iload_n 3, 1) := by decide +kernel
theorem dX7_make_34 : decode cX7_make 34 = .ok (.iadd, 1) := by decide +kernel
theorem dX7_make_35 : decode cX7_make 35 = .ok (.aload_n 0, 1) := by decide +kernel
theorem dX7_make_36 : decode cX7_make 36 = .ok (.getfield 74, 3) := by decide +kernel
theorem dX7_make_39 : decode cX7_make 39 = .ok (.iload_n 2, 1) := by decide +kernel
theorem dX7_make_40 : decode cX7_make 40 = .ok (.iload_n 3, 1) := by decide +kernel
theorem dX7_make_41 : decode cX7_make 41 = .ok (.invokestatic 77, 3) := by decide +kernel
theorem dX7_make_44 : decode cX7_make 44 = .ok (.iastore, 1) := by decide +kernel
theorem dX7_make_45 : decode cX7_make 45 = .ok (.aload_n 0, 1) := by decide +kernel
theorem dX7_make_46 : decode cX7_make 46 = .ok (.getfield 13, 3) := by decide +kernel
theorem dX7_make_49 : decode cX7_make 49 = .ok (.bipush 9, 2) := by decide +kernel
theorem dX7_make_51 : decode cX7_make 51 = .ok (.iload_n 2, 1) := by decide +kernel
theorem dX7_make_52 : decode cX7_make 52 = .ok (.imul, 1) := by decide +kernel
theorem dX7_make_53 : decode cX7_make 53 = .ok (.iload_n 3, 1) := by decide +kernel
theorem dX7_make_54 : decode cX7_make 54 = .ok (.iadd, 1) := by decide +kernel
theorem dX7_make_55 : decode cX7_make 55 = .ok (.aload_n 0, 1) := by decide +kernel
theorem dX7_make_56 : decode cX7_make 56 = .ok (.getfield 74, 3) := by decide +kernel
theorem dX7_make_59 : decode cX7_make 59 = .ok (.iload_n 2, 1) := by decide +kernel
theorem dX7_make_60 : decode cX7_make 60 = .ok (.iload_n 3, 1) := by decide +kernel
theorem dX7_make_61 : decode cX7_make 61 = .ok (.invokestatic 80, 3) := by decide +kernel
theorem dX7_make_64 : decode cX7_make 64 = .ok (.iastore, 1) := by decide +kernel
theorem dX7_make_65 : decode cX7_make 65 = .ok (.iinc 3 1, 3) := by decide +kernel
theorem dX7_make_68 : decode cX7_make 68 = .ok (.goto (-51), 3) := by decide +kernel
theorem dX7_make_71 : decode cX7_make 71 = .ok (.iinc 2 1, 3) := by decide +kernel
theorem dX7_make_74 : decode cX7_make 74 = .ok (.goto (-67), 3) := by decide +kernel
theorem dX7_make_77 : decode cX7_make 77 = .ok (.aload_n 0, 1) := by decide +kernel
theorem dX7_make_78 : decode cX7_make 78 = .ok (.iconst 0, 1) := by decide +kernel
theorem dX7_make_79 : decode cX7_make 79 = .ok (.putfield 83, 3) := by decide +kernel
theorem dX7_make_82 : decode cX7_make 82 = .ok (.iconst 1, 1) := by decide +kernel
theorem dX7_make_83 : decode cX7_make 83 = .ok (.istore_n 2, 1) := by decide +kernel
theorem dX7_make_84 : decode cX7_make 84 = .ok (.iload_n 2, 1) := by decide +kernel
theorem dX7_make_85 : decode cX7_make 85 = .ok (.aload_n 0, 1) := by decide +kernel
theorem dX7_make_86 : decode cX7_make 86 = .ok (.getfield 74, 3) := by decide +kernel
theorem dX7_make_89 : decode cX7_make 89 = .ok (.aload_n 0, 1) := by decide +kernel
theorem dX7_make_90 : decode cX7_make 90 = .ok (.getfield 74, 3) := by decide +kernel
theorem dX7_make_93 : decode cX7_make 93 = .ok (.imul, 1) := by decide +kernel
theorem dX7_make_94 : decode cX7_make 94 = .ok (.aload_n 0, 1) := by decide +kernel
theorem dX7_make_95 : decode cX7_make 95 = .ok (.getfield 74, 3) := by decide +kernel
theorem dX7_make_98 : decode cX7_make 98 = .ok (.imul, 1) := by decide +kernel
theorem dX7_make_99 : decode cX7_make 99 = .ok (.if_icmp .ge 114, 3) := by decide +kernel
theorem dX7_make_102 : decode cX7_make 102 = .ok (.iload_n 2, 1) := by decide +kernel
theorem dX7_make_103 : decode cX7_make 103 = .ok (.aload_n 0, 1) := by decide +kernel
theorem dX7_make_104 : decode cX7_make 104 = .ok (.getfield 74, 3) := by decide +kernel
theorem dX7_make_107 : decode cX7_make 107 = .ok (.aload_n 0, 1) := by decide +kernel
theorem dX7_make_108 : decode cX7_make 108 = .ok (.getfield 74, 3) := by decide +kernel
theorem dX7_make_111 : decode cX7_make 111 = .ok (.imul, 1) := by decide +kernel
theorem dX7_make_112 : decode cX7_make 112 = .ok (.idiv, 1) := by decide +kernel
theorem dX7_make_113 : decode cX7_make 113 = .ok (.istore_n 3, 1) := by decide +kernel
theorem dX7_make_114 : decode cX7_make 114 = .ok (.iload_n 2, 1) := by decide +kernel
theorem dX7_make_115 : decode cX7_make 115 = .ok (.aload_n 0, 1) := by decide +kernel
theorem dX7_make_116 : decode cX7_make 116 = .ok (.getfield 74, 3) := by decide +kernel
theorem dX7_make_119 : decode cX7_make 119 = .ok (.idiv, 1) := by decide +kernel
theorem dX7_make_120 : decode cX7_make 120 = .ok (.aload_n 0, 1) := by decide +kernel
theorem dX7_make_121 : decode cX7_make 121 = .ok (.getfield 74, 3) := by decide +kernel
theorem dX7_make_124 : decode cX7_make 124 = .ok (.irem, 1) := by decide +kernel
theorem dX7_make_125 : decode cX7_make 125 = .ok (.istore 4, 2) := by decide +kernel
theorem dX7_make_127 : decode cX7_make 127 = .ok (.iload_n 2, 1) := by decide +kernel
theorem dX7_make_128 : decode cX7_make 128 = .ok (.aload_n 0, 1) := by decide +kernel
theorem dX7_make_129 : decode cX7_make 129 = .ok (.getfield 74, 3) := by decide +kernel
theorem dX7_make_132 : decode cX7_make 132 = .ok (.irem, 1) := by decide +kernel
theorem dX7_make_133 : decode cX7_make 133 = .ok (.istore 5, 2) := by decide +kernel
theorem dX7_make_135 : decode cX7_make 135 = .ok (.iload_n 3, 1) := by decide +kernel
theorem dX7_make_136 : decode cX7_make 136 = .ok (.iconst 1, 1) := by decide +kernel
theorem dX7_make_137 : decode cX7_make 137 = .ok (.if_icmp .eq 28, 3) := by decide +kernel
theorem dX7_make_140 : decode cX7_make 140 = .ok (.iload_n 3, 1) := by decide +kernel
theorem dX7_make_141 : decode cX7_make 141 = .ok (.ifCond .ne 9, 3) := by decide +kernel
theorem dX7_make_144 : decode cX7_make 144 = .ok (.iload 4, 2) := by decide +kernel
theorem dX7_make_146 : decode cX7_make 146 = .ok (.iconst 1, 1) := by decide +kernel
theorem dX7_make_147 : decode cX7_make 147 = .ok (.if_icmp .eq 18, 3) := by decide +kernel
theorem dX7_make_150 : decode cX7_make 150 = .ok (.iload_n 3, 1) := by decide +kernel
theorem dX7_make_151 : decode cX7_make 151 = .ok (.ifCond .ne 56, 3) := by decide +kernel
theorem dX7_make_154 : decode cX7_make 154 = .ok (.iload 4, 2) := by decide +kernel
theorem dX7_make_156 : decode cX7_make 156 = .ok (.ifCond .ne 51, 3) := by decide +kernel
theorem dX7_make_159 : decode cX7_make 159 = .ok (.iload 5, 2) := by decide +kernel
theorem dX7_make_161 : decode cX7_make 161 = .ok (.iconst 1, 1) := by decide +kernel
theorem dX7_make_162 : decode cX7_make 162 = .ok (.if_icmp .ne 45, 3) := by decide +kernel
theorem dX7_make_165 : decode cX7_make 165 = .ok (.aload_n 0, 1) := by decide +kernel
theorem dX7_make_166 : decode cX7_make 166 = .ok (.getfield 16, 3) := by decide +kernel
theorem dX7_make_169 : decode cX7_make 169 = .ok (.aload_n 0, 1) := by decide +kernel
theorem dX7_make_170 : decode cX7_make 170 = .ok (.getfield 83, 3) := by decide +kernel
theorem dX7_make_173 : decode cX7_make 173 = .ok (.iload_n 3, 1) := by decide +kernel
theorem dX7_make_174 : decode cX7_make 174 = .ok (.iastore, 1) := by decide +kernel
theorem dX7_make_175 : decode cX7_make 175 = .ok (.aload_n 0, 1) := by decide +kernel
theorem dX7_make_176 : decode cX7_make 176 = .ok (.getfield 19, 3) := by decide +kernel
theorem dX7_make_179 : decode cX7_make 179 = .ok (.aload_n 0, 1) := by decide +kernel
theorem dX7_make_180 : decode cX7_make 180 = .ok (.getfield 83, 3) := by decide +kernel
theorem dX7_make_183 : decode cX7_make 183 = .ok (.iload 4, 2) := by decide +kernel
theorem dX7_make_185 : decode cX7_make 185 = .ok (.iastore, 1) := by decide +kernel
theorem dX7_make_186 : decode cX7_make 186 = .ok (.aload_n 0, 1) := by decide +kernel
theorem dX7_make_187 : decode cX7_make 187 = .ok (.getfield 22, 3) := by decide +kernel
theorem dX7_make_190 : decode cX7_make 190 = .ok (.aload_n 0, 1) := by decide +kernel
theorem dX7_make_191 : decode cX7_make 191 = .ok (.getfield 83, 3) := by decide +kernel
theorem dX7_make_194 : decode cX7_make 194 = .ok (.iload 5, 2) := by decide +kernel
theorem dX7_make_196 : decode cX7_make 196 = .ok (.iastore, 1) := by decide +kernel
theorem dX7_make_197 : decode cX7_make 197 = .ok (.aload_n 0, 1) := by decide +kernel
theorem dX7_make_198 : decode cX7_make 198 = .ok (.dup, 1) := by decide +kernel
theorem dX7_make_199 : decode cX7_make 199 = .ok (.getfield 83, 3) := by decide +kernel
theorem dX7_make_202 : decode cX7_make 202 = .ok (.iconst 1, 1) := by decide +kernel
theorem dX7_make_203 : decode cX7_make 203 = .ok (.iadd, 1) := by decide +kernel
theorem dX7_make_204 : decode cX7_make 204 = .ok (.putfield 83, 3) := by decide +kernel
theorem dX7_make_207 : decode cX7_make 207 = .ok (.iinc 2 1, 3) := by decide +kernel
theorem dX7_make_210 : decode cX7_make 210 = .ok (.goto (-126), 3) := by decide +kernel
theorem dX7_make_213 : decode cX7_make 213 = .ok (.iconst 0, 1) := by decide +kernel
theorem dX7_make_214 : decode cX7_make 214 = .ok (.istore_n 2, 1) := by decide +kernel
theorem dX7_make_215 : decode cX7_make 215 = .ok (.iload_n 2, 1) := by decide +kernel
theorem dX7_make_216 : decode cX7_make 216 = .ok (.bipush 91, 2) := by decide +kernel
theorem dX7_make_218 : decode cX7_make 218 = .ok (.if_icmp .ge 16, 3) := by decide +kernel
theorem dX7_make_221 : decode cX7_make 221 = .ok (.aload_n 0, 1) := by decide +kernel
theorem dX7_make_222 : decode cX7_make 222 = .ok (.getfield 25, 3) := by decide +kernel
theorem dX7_make_225 : decode cX7_make 225 = .ok (.iload_n 2, 1) := by decide +kernel
theorem dX7_make_226 : decode cX7_make 226 = .ok (.iconst 0, 1) := by decide +kernel
theorem dX7_make_227 : decode cX7_make 227 = .ok (.bastore, 1) := by decide +kernel
theorem dX7_make_228 : decode cX7_make 228 = .ok (.iinc 2 1, 3) := by decide +kernel
theorem dX7_make_231 : decode cX7_make 231 = .ok (.goto (-16), 3) := by decide +kernel
theorem dX7_make_234 : decode cX7_make 234 = .ok (.iconst 0, 1) := by decide +kernel
theorem dX7_make_235 : decode cX7_make 235 = .ok (.istore_n 2, 1) := by decide +kernel
theorem dX7_make_236 : decode cX7_make 236 = .ok (.iload_n 2, 1) := by decide +kernel
theorem dX7_make_237 : decode cX7_make 237 = .ok (.bipush 9, 2) := by decide +kernel
theorem dX7_make_239 : decode cX7_make 239 = .ok (.if_icmp .ge 26, 3) := by decide +kernel
theorem dX7_make_242 : decode cX7_make 242 = .ok (.aload_n 0, 1) := by decide +kernel
theorem dX7_make_243 : decode cX7_make 243 = .ok (.getfield 29, 3) := by decide +kernel
theorem dX7_make_246 : decode cX7_make 246 = .ok (.iload_n 2, 1) := by decide +kernel
theorem dX7_make_247 : decode cX7_make 247 = .ok (.iload_n 2, 1) := by decide +kernel
theorem dX7_make_248 : decode cX7_make 248 = .ok (.iconst 4, 1) := by decide +kernel
theorem dX7_make_249 : decode cX7_make 249 = .ok (.irem, 1) := by decide +kernel
theorem dX7_make_250 : decode cX7_make 250 = .ok (.ifCond .ne 7, 3) := by decide +kernel
theorem dX7_make_253 : decode cX7_make 253 = .ok (.iconst 1, 1) := by decide +kernel
theorem dX7_make_254 : decode cX7_make 254 = .ok (.goto 4, 3) := by decide +kernel
theorem dX7_make_257 : decode cX7_make 257 = .ok (.iconst 0, 1) := by decide +kernel
theorem dX7_make_258 : decode cX7_make 258 = .ok (.iastore, 1) := by decide +kernel
theorem dX7_make_259 : decode cX7_make 259 = .ok (.iinc 2 1, 3) := by decide +kernel
theorem dX7_make_262 : decode cX7_make 262 = .ok (.goto (-26), 3) := by decide +kernel
theorem dX7_make_265 : decode cX7_make 265 = .ok (.return_, 1) := by decide +kernel
set_option maxRecDepth 20000 in
theorem ggX7_begin_X7_make : GoodIn wsX7_begin wsX7_make := goodIn_r _ [6, 1, 7, 8, 9, 10, 11, 12, 13, 14, 15, 16, 5, 17, 18, 19, 20, 21, 22, 23, 24, 25, 26, 27, 28, 29, 30, 31, 32, 33, 34, 35, 36, 37, 38, 39, 40, 41, 42, 43] (by decide +kernel) (by decide +kernel)
set_option maxRecDepth 20000 in
theorem gX7_begin_X7_make : GoodIn wsX7_begin (wsV RX7 62 RX7 yX7_make wsX7_make) := goodIn_app (goodIn_of _ (by decide +kernel)) ggX7_begin_X7_make
theorem dX7_begin_0 : decode cX7_begin 0 = .ok (.iload_n 1, 1) := by decide +kernel
theorem dX7_begin_1 : decode cX7_begin 1 = .ok (.iconst 2, 1) := by decide +kernel
theorem dX7_begin_2 : decode cX7_begin 2 = .ok (.if_icmp .eq 39, 3) := by decide +kernel
theorem dX7_begin_5 : decode cX7_begin 5 = .ok (.iload_n 1, 1) := by decide +kernel
theorem dX7_begin_6 : decode cX7_begin 6 = .ok (.iconst 3, 1) := by decide +kernel
theorem dX7_begin_7 : decode cX7_begin 7 = .ok (.if_icmp .eq 34, 3) := by decide +kernel
theorem dX7_begin_10 : decode cX7_begin 10 = .ok (.iload_n 1, 1) := by decide +kernel
theorem dX7_begin_11 : decode cX7_begin 11 = .ok (.iconst 4, 1) := by decide +kernel
theorem dX7_begin_12 : decode cX7_begin 12 = .ok (.if_icmp .eq 29, 3) := by decide +kernel
theorem dX7_begin_15 : decode cX7_begin 15 = .ok (.iload_n 1, 1) := by decide +kernel
theorem dX7_begin_16 : decode cX7_begin 16 = .ok (.iconst 5, 1) := by decide +kernel
theorem dX7_begin_17 : decode cX7_begin 17 = .ok (.if_icmp .eq 24, 3) := by decide +kernel
theorem dX7_begin_20 : decode cX7_begin 20 = .ok (.iload_n 1, 1) := by decide +kernel
theorem dX7_begin_21 : decode cX7_begin 21 = .ok (.bipush 7, 2) := by decide +kernel
theorem dX7_begin_23 : decode cX7_begin 23 = .ok (.if_icmp .eq 18, 3) := by decide +kernel
theorem dX7_begin_26 : decode cX7_begin 26 = .ok (.iload_n 1, 1) := by decide +kernel
theorem dX7_begin_27 : decode cX7_begin 27 = .ok (.bipush 8, 2) := by decide +kernel
theorem dX7_begin_29 : decode cX7_begin 29 = .ok (.if_icmp .eq 12, 3) := by decide +kernel
theorem dX7_begin_32 : decode cX7_begin 32 = .ok (.iload_n 1, 1) := by decide +kernel
theorem dX7_begin_33 : decode cX7_begin 33 = .ok (.bipush 9, 2) := by decide +kernel
theorem dX7_begin_35 : decode cX7_begin 35 = .ok (.if_icmp .eq 6, 3) := by decide +kernel
theorem dX7_begin_38 : decode cX7_begin 38 = .ok (.bipush (-2), 2) := by decide +kernel
theorem dX7_begin_40 : decode cX7_begin 40 = .ok (.ireturn, 1) := by decide +kernel
theorem dX7_begin_41 : decode cX7_begin 41 = .ok (.aload_n 0, 1) := by decide +kernel
theorem dX7_begin_42 : decode cX7_begin 42 = .ok (.getfield 74, 3) := by decide +kernel
theorem dX7_begin_45 : decode cX7_begin 45 = .ok (.istore_n 2, 1) := by decide +kernel
theorem dX7_begin_46 : decode cX7_begin 46 = .ok (.aload_n 0, 1) := by decide +kernel
theorem dX7_begin_47 : decode cX7_begin 47 = .ok (.iload_n 1, 1) := by decide +kernel
theorem dX7_begin_48 : decode cX7_begin 48 = .ok (.invokevirtual 62, 3) := by decide +kernel
theorem dX7_begin_51 : decode cX7_begin 51 = .ok (.iload_n 2, 1) := by decide +kernel
theorem dX7_begin_52 : decode cX7_begin 52 = .ok (.ireturn, 1) := by decide +kernel
theorem dX7_add_0 : decode cX7_add 0 = .ok (.aload_n 0, 1) := by decide +kernel
theorem dX7_add_1 : decode cX7_add 1 = .ok (.getfield 7, 3) := by decide +kernel
theorem dX7_add_4 : decode cX7_add 4 = .ok (.bipush 9, 2) := by decide +kernel
theorem dX7_add_6 : decode cX7_add 6 = .ok (.iload_n 1, 1) := by decide +kernel
theorem dX7_add_7 : decode cX7_add 7 = .ok (.imul, 1) := by decide +kernel
theorem dX7_add_8 : decode cX7_add 8 = .ok (.iload_n 2, 1) := by decide +kernel
theorem dX7_add_9 : decode cX7_add 9 = .ok (.iadd, 1) := by decide +kernel
theorem dX7_add_10 : decode cX7_add 10 = .ok (.iaload, 1) := by decide +kernel
theorem dX7_add_11 : decode cX7_add 11 = .ok (.ireturn, 1) := by decide +kernel
theorem dX7_times_0 : decode cX7_times 0 = .ok (.aload_n 0, 1) := by decide +kernel
theorem dX7_times_1 : decode cX7_times 1 = .ok (.getfield 13, 3) := by decide +kernel
theorem dX7_times_4 : decode cX7_times 4 = .ok (.bipush 9, 2) := by decide +kernel
theorem dX7_times_6 : decode cX7_times 6 = .ok (.iload_n 1, 1) := by decide +kernel
theorem dX7_times_7 : decode cX7_times 7 = .ok (.imul, 1) := by decide +kernel
theorem dX7_times_8 : decode cX7_times 8 = .ok (.iload_n 2, 1) := by decide +kernel
theorem dX7_times_9 : decode cX7_times 9 = .ok (.iadd, 1) := by decide +kernel
theorem dX7_times_10 : decode cX7_times 10 = .ok (.iaload, 1) := by decide +kernel
theorem dX7_times_11 : decode cX7_times 11 = .ok (.ireturn, 1) := by decide +kernel
set_option maxRecDepth 20000 in
theorem ggX7_less_X7_add : GoodIn wsX7_less wsX7_add := goodIn_r _ [5, 6, 7, 8, 9, 10, 11, 12, 13, 14, 15, 16, 17, 18, 19, 20, 21, 22, 23, 24, 25, 26] (by decide +kernel) (by decide +kernel)
set_option maxRecDepth 20000 in
theorem gX7_less_X7_add : GoodIn wsX7_less (wsV RX7 86 RX7 yX7_add wsX7_add) := goodIn_app (goodIn_of _ (by decide +kernel)) ggX7_less_X7_add
theorem dX7_less_0 : decode cX7_less 0 = .ok (.iconst 0, 1) := by decide +kernel
theorem dX7_less_1 : decode cX7_less 1 = .ok (.istore_n 3, 1) := by decide +kernel
theorem dX7_less_2 : decode cX7_less 2 = .ok (.aload_n 0, 1) := by decide +kernel
theorem dX7_less_3 : decode cX7_less 3 = .ok (.iload_n 3, 1) := by decide +kernel
theorem dX7_less_4 : decode cX7_less 4 = .ok (.iload_n 2, 1) := by decide +kernel
theorem dX7_less_5 : decode cX7_less 5 = .ok (.invokevirtual 86, 3) := by decide +kernel
theorem dX7_less_8 : decode cX7_less 8 = .ok (.iload_n 1, 1) := by decide +kernel
theorem dX7_less_9 : decode cX7_less 9 = .ok (.if_icmp .eq 9, 3) := by decide +kernel
theorem dX7_less_12 : decode cX7_less 12 = .ok (.iinc 3 1, 3) := by decide +kernel
theorem dX7_less_15 : decode cX7_less 15 = .ok (.goto (-13), 3) := by decide +kernel
theorem dX7_less_18 : decode cX7_less 18 = .ok (.iload_n 3, 1) := by decide +kernel
theorem dX7_less_19 : decode cX7_less 19 = .ok (.ireturn, 1) := by decide +kernel
set_option maxRecDepth 20000 in
theorem ggX7_by_X7_times : GoodIn wsX7_by wsX7_times := goodIn_r _ [5, 6, 7, 8, 9, 10, 11, 12, 13, 14, 15, 16, 17, 18, 19, 20, 21, 22, 23, 24, 25, 26] (by decide +kernel) (by decide +kernel)
set_option maxRecDepth 20000 in
theorem gX7_by_X7_times : GoodIn wsX7_by (wsV RX7 90 RX7 yX7_times wsX7_times) := goodIn_app (goodIn_of _ (by decide +kernel)) ggX7_by_X7_times
theorem dX7_by_0 : decode cX7_by 0 = .ok (.iconst 0, 1) := by decide +kernel
theorem dX7_by_1 : decode cX7_by 1 = .ok (.istore_n 3, 1) := by decide +kernel
theorem dX7_by_2 : decode cX7_by 2 = .ok (.aload_n 0, 1) := by decide +kernel
theorem dX7_by_3 : decode cX7_by 3 = .ok (.iload_n 3, 1) := by decide +kernel
theorem dX7_by_4 : decode cX7_by 4 = .ok (.iload_n 2, 1) := by decide +kernel
theorem dX7_by_5 : decode cX7_by 5 = .ok (.invokevirtual 90, 3) := by decide +kernel
theorem dX7_by_8 : decode cX7_by 8 = .ok (.iload_n 1, 1) := by decide +kernel
theorem dX7_by_9 : decode cX7_by 9 = .ok (.if_icmp .eq 9, 3) := by decide +kernel
theorem dX7_by_12 : decode cX7_by 12 = .ok (.iinc 3 1, 3) := by decide +kernel
theorem dX7_by_15 : decode cX7_by 15 = .ok (.goto (-13), 3) := by decide +kernel
theorem dX7_by_18 : decode cX7_by 18 = .ok (.iload_n 3, 1) := by decide +kernel
theorem dX7_by_19 : decode cX7_by 19 = .ok (.ireturn, 1) := by decide +kernel
set_option maxRecDepth 20000 in
theorem ggX7_isNumber_X7_isFrom : GoodIn wsX7_isNumber wsX7_isFrom := goodIn_r _ [5] (by decide +kernel) (by decide +kernel)
set_option maxRecDepth 20000 in
theorem gX7_isNumber_X7_isFrom : GoodIn wsX7_isNumber (va_wsS RX7 93 yX7_isFrom wsX7_isFrom) := goodIn_app (goodIn_of _ (by decide +kernel)) ggX7_isNumber_X7_isFrom
theorem dX7_isNumber_0 : decode cX7_isNumber 0 = .ok (.iload_n 1, 1) := by decide +kernel
theorem dX7_isNumber_1 : decode cX7_isNumber 1 = .ok (.iconst 0, 1) := by decide +kernel
theorem dX7_isNumber_2 : decode cX7_isNumber 2 = .ok (.aload_n 0, 1) := by decide +kernel
theorem dX7_isNumber_3 : decode cX7_isNumber 3 = .ok (.getfield 74, 3) := by decide +kernel
theorem dX7_isNumber_6 : decode cX7_isNumber 6 = .ok (.iconst 1, 1) := by decide +kernel
theorem dX7_isNumber_7 : decode cX7_isNumber 7 = .ok (.isub, 1) := by decide +kernel
theorem dX7_isNumber_8 : decode cX7_isNumber 8 = .ok (.invokestatic 93, 3) := by decide +kernel
theorem dX7_isNumber_11 : decode cX7_isNumber 11 = .ok (.ireturn, 1) := by decide +kernel
set_option maxRecDepth 20000 in
theorem ggX7_reckon_X7_isFrom : GoodIn wsX7_reckon wsX7_isFrom := goodIn_r _ [4] (by decide +kernel) (by decide +kernel)
set_option maxRecDepth 20000 in
theorem gX7_reckon_X7_isFrom : GoodIn wsX7_reckon (va_wsS RX7 93 yX7_isFrom wsX7_isFrom) := goodIn_app (goodIn_of _ (by decide +kernel)) ggX7_reckon_X7_isFrom
set_option maxRecDepth 20000 in
theorem ggX7_reckon_X7_isNumber : GoodIn wsX7_reckon wsX7_isNumber := goodIn_r _ [8, 9, 1, 2, 3, 4, 28, 29, 30, 31, 32, 33, 34, 35, 36, 37, 38, 39, 40, 41, 42, 43, 44, 45, 46, 47] (by decide +kernel) (by decide +kernel)
set_option maxRecDepth 20000 in
theorem gX7_reckon_X7_isNumber : GoodIn wsX7_reckon (wsV RX7 97 RX7 yX7_isNumber wsX7_isNumber) := goodIn_app (goodIn_of _ (by decide +kernel)) ggX7_reckon_X7_isNumber
set_option maxRecDepth 20000 in
theorem ggX7_reckon_X7_add : GoodIn wsX7_reckon wsX7_add := goodIn_r _ [13, 14, 28, 29, 30, 31, 32, 33, 34, 35, 36, 37, 38, 39, 40, 41, 42, 43, 44, 45, 46, 47] (by decide +kernel) (by decide +kernel)
set_option maxRecDepth 20000 in
theorem gX7_reckon_X7_add : GoodIn wsX7_reckon (wsV RX7 86 RX7 yX7_add wsX7_add) := goodIn_app (goodIn_of _ (by decide +kernel)) ggX7_reckon_X7_add
set_option maxRecDepth 20000 in
theorem ggX7_reckon_X7_less : GoodIn wsX7_reckon wsX7_less := goodIn_r _ [18, 10, 11, 12, 3, 13, 14, 28, 29, 30, 31, 32, 33, 34, 35, 36, 37, 38, 39, 40, 41, 42, 43, 44, 45, 46, 47] (by decide +kernel) (by decide +kernel)
set_option maxRecDepth 20000 in
theorem gX7_reckon_X7_less : GoodIn wsX7_reckon (wsV RX7 101 RX7 yX7_less wsX7_less) := goodIn_app (goodIn_of _ (by decide +kernel)) ggX7_reckon_X7_less
set_option maxRecDepth 20000 in
theorem ggX7_reckon_X7_times : GoodIn wsX7_reckon wsX7_times := goodIn_r _ [22, 23, 28, 29, 30, 31, 32, 33, 34, 35, 36, 37, 38, 39, 40, 41, 42, 43, 44, 45, 46, 47] (by decide +kernel) (by decide +kernel)
set_option maxRecDepth 20000 in
theorem gX7_reckon_X7_times : GoodIn wsX7_reckon (wsV RX7 90 RX7 yX7_times wsX7_times) := goodIn_app (goodIn_of _ (by decide +kernel)) ggX7_reckon_X7_times
set_option maxRecDepth 20000 in
theorem ggX7_reckon_X7_by : GoodIn wsX7_reckon wsX7_by := goodIn_r _ [27, 19, 20, 21, 3, 22, 23, 28, 29, 30, 31, 32, 33, 34, 35, 36, 37, 38, 39, 40, 41, 42, 43, 44, 45, 46, 47] (by decide +kernel) (by decide +kernel)
set_option maxRecDepth 20000 in
theorem gX7_reckon_X7_by : GoodIn wsX7_reckon (wsV RX7 104 RX7 yX7_by wsX7_by) := goodIn_app (goodIn_of _ (by decide +kernel)) ggX7_reckon_X7_by
theorem dX7_reckon_0 : decode cX7_reckon 0 = .ok (.iload_n 1, 1) := by decide +kernel
theorem dX7_reckon_1 : decode cX7_reckon 1 = .ok (.iconst 0, 1) := by decide +kernel
theorem dX7_reckon_2 : decode cX7_reckon 2 = .ok (.iconst 3, 1) := by decide +kernel
theorem dX7_reckon_3 : decode cX7_reckon 3 = .ok (.invokestatic 93, 3) := by decide +kernel
theorem dX7_reckon_6 : decode cX7_reckon 6 = .ok (.ifCond .eq 19, 3) := by decide +kernel
theorem dX7_reckon_9 : decode cX7_reckon 9 = .ok (.aload_n 0, 1) := by decide +kernel
theorem dX7_reckon_10 : decode cX7_reckon 10 = .ok (.iload_n 2, 1) := by decide +kernel
theorem dX7_reckon_11 : decode cX7_reckon 11 = .ok (.invokevirtual 97, 3) := by decide +kernel
theorem dX7_reckon_14 : decode cX7_reckon 14 = .ok (.ifCond .eq 11, 3) := by decide +kernel
theorem dX7_reckon_17 : decode cX7_reckon 17 = .ok (.aload_n 0, 1) := by decide +kernel
theorem dX7_reckon_18 : decode cX7_reckon 18 = .ok (.iload_n 3, 1) := by decide +kernel
theorem dX7_reckon_19 : decode cX7_reckon 19 = .ok (.invokevirtual 97, 3) := by decide +kernel
theorem dX7_reckon_22 : decode cX7_reckon 22 = .ok (.ifCond .ne 6, 3) := by decide +kernel
theorem dX7_reckon_25 : decode cX7_reckon 25 = .ok (.bipush (-2), 2) := by decide +kernel
theorem dX7_reckon_27 : decode cX7_reckon 27 = .ok (.ireturn, 1) := by decide +kernel
theorem dX7_reckon_28 : decode cX7_reckon 28 = .ok (.iload_n 1, 1) := by decide +kernel
theorem dX7_reckon_29 : decode cX7_reckon 29 = .ok (.tableswitch 48 0 2 #[27, 34, 41], 27) := by decide +kernel
theorem dX7_reckon_56 : decode cX7_reckon 56 = .ok (.aload_n 0, 1) := by decide +kernel
theorem dX7_reckon_57 : decode cX7_reckon 57 = .ok (.iload_n 2, 1) := by decide +kernel
theorem dX7_reckon_58 : decode cX7_reckon 58 = .ok (.iload_n 3, 1) := by decide +kernel
theorem dX7_reckon_59 : decode cX7_reckon 59 = .ok (.invokevirtual 86, 3) := by decide +kernel
theorem dX7_reckon_62 : decode cX7_reckon 62 = .ok (.ireturn, 1) := by decide +kernel
theorem dX7_reckon_63 : decode cX7_reckon 63 = .ok (.aload_n 0, 1) := by decide +kernel
theorem dX7_reckon_64 : decode cX7_reckon 64 = .ok (.iload_n 2, 1) := by decide +kernel
theorem dX7_reckon_65 : decode cX7_reckon 65 = .ok (.iload_n 3, 1) := by decide +kernel
theorem dX7_reckon_66 : decode cX7_reckon 66 = .ok (.invokevirtual 101, 3) := by decide +kernel
theorem dX7_reckon_69 : decode cX7_reckon 69 = .ok (.ireturn, 1) := by decide +kernel
theorem dX7_reckon_70 : decode cX7_reckon 70 = .ok (.aload_n 0, 1) := by decide +kernel
theorem dX7_reckon_71 : decode cX7_reckon 71 = .ok (.iload_n 2, 1) := by decide +kernel
theorem dX7_reckon_72 : decode cX7_reckon 72 = .ok (.iload_n 3, 1) := by decide +kernel
theorem dX7_reckon_73 : decode cX7_reckon 73 = .ok (.invokevirtual 90, 3) := by decide +kernel
theorem dX7_reckon_76 : decode cX7_reckon 76 = .ok (.ireturn, 1) := by decide +kernel
theorem dX7_reckon_77 : decode cX7_reckon 77 = .ok (.iload_n 3, 1) := by decide +kernel
theorem dX7_reckon_78 : decode cX7_reckon 78 = .ok (.ifCond .ne 8, 3) := by decide +kernel
theorem dX7_reckon_81 : decode cX7_reckon 81 = .ok (.bipush (-3), 2) := by decide +kernel
theorem dX7_reckon_83 : decode cX7_reckon 83 = .ok (.goto 9, 3) := by decide +kernel
theorem dX7_reckon_86 : decode cX7_reckon 86 = .ok (.aload_n 0, 1) := by decide +kernel
theorem dX7_reckon_87 : decode cX7_reckon 87 = .ok (.iload_n 2, 1) := by decide +kernel
theorem dX7_reckon_88 : decode cX7_reckon 88 = .ok (.iload_n 3, 1) := by decide +kernel
theorem dX7_reckon_89 : decode cX7_reckon 89 = .ok (.invokevirtual 104, 3) := by decide +kernel
theorem dX7_reckon_92 : decode cX7_reckon 92 = .ok (.ireturn, 1) := by decide +kernel
set_option maxRecDepth 20000 in
theorem ggX7_isPoint_X7_isFrom : GoodIn wsX7_isPoint wsX7_isFrom := goodIn_r _ [5] (by decide +kernel) (by decide +kernel)
set_option maxRecDepth 20000 in
theorem gX7_isPoint_X7_isFrom : GoodIn wsX7_isPoint (va_wsS RX7 93 yX7_isFrom wsX7_isFrom) := goodIn_app (goodIn_of _ (by decide +kernel)) ggX7_isPoint_X7_isFrom
theorem dX7_isPoint_0 : decode cX7_isPoint 0 = .ok (.iload_n 1, 1) := by decide +kernel
theorem dX7_isPoint_1 : decode cX7_isPoint 1 = .ok (.iconst 0, 1) := by decide +kernel
theorem dX7_isPoint_2 : decode cX7_isPoint 2 = .ok (.aload_n 0, 1) := by decide +kernel
theorem dX7_isPoint_3 : decode cX7_isPoint 3 = .ok (.getfield 83, 3) := by decide +kernel
theorem dX7_isPoint_6 : decode cX7_isPoint 6 = .ok (.iconst 1, 1) := by decide +kernel
theorem dX7_isPoint_7 : decode cX7_isPoint 7 = .ok (.isub, 1) := by decide +kernel
theorem dX7_isPoint_8 : decode cX7_isPoint 8 = .ok (.invokestatic 93, 3) := by decide +kernel
theorem dX7_isPoint_11 : decode cX7_isPoint 11 = .ok (.ireturn, 1) := by decide +kernel
theorem dX7_three_0 : decode cX7_three 0 = .ok (.iload_n 3, 1) := by decide +kernel
theorem dX7_three_1 : decode cX7_three 1 = .ok (.ifCond .ne 7, 3) := by decide +kernel
theorem dX7_three_4 : decode cX7_three 4 = .ok (.iload_n 0, 1) := by decide +kernel
theorem dX7_three_5 : decode cX7_three 5 = .ok (.goto 13, 3) := by decide +kernel
theorem dX7_three_8 : decode cX7_three 8 = .ok (.iload_n 3, 1) := by decide +kernel
theorem dX7_three_9 : decode cX7_three 9 = .ok (.iconst 1, 1) := by decide +kernel
theorem dX7_three_10 : decode cX7_three 10 = .ok (.if_icmp .ne 7, 3) := by decide +kernel
theorem dX7_three_13 : decode cX7_three 13 = .ok (.iload_n 1, 1) := by decide +kernel
theorem dX7_three_14 : decode cX7_three 14 = .ok (.goto 4, 3) := by decide +kernel
theorem dX7_three_17 : decode cX7_three 17 = .ok (.iload_n 2, 1) := by decide +kernel
theorem dX7_three_18 : decode cX7_three 18 = .ok (.ireturn, 1) := by decide +kernel
set_option maxRecDepth 20000 in
theorem ggX7_triple_X7_isPoint : GoodIn wsX7_triple wsX7_isPoint := goodIn_r _ [8, 9, 10, 11, 7, 12, 16, 17, 18, 19, 20, 21, 22, 23, 24, 25, 26, 27, 28, 29, 30, 31, 32, 33, 34, 35] (by decide +kernel) (by decide +kernel)
set_option maxRecDepth 20000 in
theorem gX7_triple_X7_isPoint : GoodIn wsX7_triple (wsV RX7 107 RX7 yX7_isPoint wsX7_isPoint) := goodIn_app (goodIn_of _ (by decide +kernel)) ggX7_triple_X7_isPoint
set_option maxRecDepth 20000 in
theorem ggX7_triple_X7_isFrom : GoodIn wsX7_triple wsX7_isFrom := goodIn_r _ [12] (by decide +kernel) (by decide +kernel)
set_option maxRecDepth 20000 in
theorem gX7_triple_X7_isFrom : GoodIn wsX7_triple (va_wsS RX7 93 yX7_isFrom wsX7_isFrom) := goodIn_app (goodIn_of _ (by decide +kernel)) ggX7_triple_X7_isFrom
set_option maxRecDepth 20000 in
theorem ggX7_triple_X7_three : GoodIn wsX7_triple wsX7_three := goodIn_r _ [15] (by decide +kernel) (by decide +kernel)
set_option maxRecDepth 20000 in
theorem gX7_triple_X7_three : GoodIn wsX7_triple (va_wsS RX7 110 yX7_three wsX7_three) := goodIn_app (goodIn_of _ (by decide +kernel)) ggX7_triple_X7_three
theorem dX7_triple_0 : decode cX7_triple 0 = .ok (.aload_n 0, 1) := by decide +kernel
theorem dX7_triple_1 : decode cX7_triple 1 = .ok (.iload_n 1, 1) := by decide +kernel
theorem dX7_triple_2 : decode cX7_triple 2 = .ok (.invokevirtual 107, 3) := by decide +kernel
theorem dX7_triple_5 : decode cX7_triple 5 = .ok (.ifCond .eq 37, 3) := by decide +kernel
theorem dX7_triple_8 : decode cX7_triple 8 = .ok (.iload_n 2, 1) := by decide +kernel
theorem dX7_triple_9 : decode cX7_triple 9 = .ok (.iconst 0, 1) := by decide +kernel
theorem dX7_triple_10 : decode cX7_triple 10 = .ok (.iconst 2, 1) := by decide +kernel
theorem dX7_triple_11 : decode cX7_triple 11 = .ok (.invokestatic 93, 3) := by decide +kernel
theorem dX7_triple_14 : decode cX7_triple 14 = .ok (.ifCond .eq 28, 3) := by decide +kernel
theorem dX7_triple_17 : decode cX7_triple 17 = .ok (.aload_n 0, 1) := by decide +kernel
theorem dX7_triple_18 : decode cX7_triple 18 = .ok (.getfield 16, 3) := by decide +kernel
theorem dX7_triple_21 : decode cX7_triple 21 = .ok (.iload_n 1, 1) := by decide +kernel
theorem dX7_triple_22 : decode cX7_triple 22 = .ok (.iaload, 1) := by decide +kernel
theorem dX7_triple_23 : decode cX7_triple 23 = .ok (.aload_n 0, 1) := by decide +kernel
theorem dX7_triple_24 : decode cX7_triple 24 = .ok (.getfield 19, 3) := by decide +kernel
theorem dX7_triple_27 : decode cX7_triple 27 = .ok (.iload_n 1, 1) := by decide +kernel
theorem dX7_triple_28 : decode cX7_triple 28 = .ok (.iaload, 1) := by decide +kernel
theorem dX7_triple_29 : decode cX7_triple 29 = .ok (.aload_n 0, 1) := by decide +kernel
theorem dX7_triple_30 : decode cX7_triple 30 = .ok (.getfield 22, 3) := by decide +kernel
theorem dX7_triple_33 : decode cX7_triple 33 = .ok (.iload_n 1, 1) := by decide +kernel
theorem dX7_triple_34 : decode cX7_triple 34 = .ok (.iaload, 1) := by decide +kernel
theorem dX7_triple_35 : decode cX7_triple 35 = .ok (.iload_n 2, 1) := by decide +kernel
theorem dX7_triple_36 : decode cX7_triple 36 = .ok (.invokestatic 110, 3) := by decide +kernel
theorem dX7_triple_39 : decode cX7_triple 39 = .ok (.goto 5, 3) := by decide +kernel
theorem dX7_triple_42 : decode cX7_triple 42 = .ok (.bipush (-2), 2) := by decide +kernel
theorem dX7_triple_44 : decode cX7_triple 44 = .ok (.ireturn, 1) := by decide +kernel
set_option maxRecDepth 20000 in
theorem ggX7_pointOf_X7_by : GoodIn wsX7_pointOf wsX7_by := goodIn_r _ [8, 9, 10, 11, 7, 12, 13, 14, 15, 16, 17, 18, 19, 20, 21, 22, 23, 24, 25, 26, 27, 28, 29, 30, 31, 32, 33] (by decide +kernel) (by decide +kernel)
set_option maxRecDepth 20000 in
theorem gX7_pointOf_X7_by : GoodIn wsX7_pointOf (wsV RX7 104 RX7 yX7_by wsX7_by) := goodIn_app (goodIn_of _ (by decide +kernel)) ggX7_pointOf_X7_by
theorem dX7_pointOf_0 : decode cX7_pointOf 0 = .ok (.iload_n 1, 1) := by decide +kernel
theorem dX7_pointOf_1 : decode cX7_pointOf 1 = .ok (.ifCond .eq 7, 3) := by decide +kernel
theorem dX7_pointOf_4 : decode cX7_pointOf 4 = .ok (.iload_n 1, 1) := by decide +kernel
theorem dX7_pointOf_5 : decode cX7_pointOf 5 = .ok (.goto 12, 3) := by decide +kernel
theorem dX7_pointOf_8 : decode cX7_pointOf 8 = .ok (.iload_n 2, 1) := by decide +kernel
theorem dX7_pointOf_9 : decode cX7_pointOf 9 = .ok (.ifCond .eq 7, 3) := by decide +kernel
theorem dX7_pointOf_12 : decode cX7_pointOf 12 = .ok (.iload_n 2, 1) := by decide +kernel
theorem dX7_pointOf_13 : decode cX7_pointOf 13 = .ok (.goto 4, 3) := by decide +kernel
theorem dX7_pointOf_16 : decode cX7_pointOf 16 = .ok (.iload_n 3, 1) := by decide +kernel
theorem dX7_pointOf_17 : decode cX7_pointOf 17 = .ok (.istore 4, 2) := by decide +kernel
theorem dX7_pointOf_19 : decode cX7_pointOf 19 = .ok (.aload_n 0, 1) := by decide +kernel
theorem dX7_pointOf_20 : decode cX7_pointOf 20 = .ok (.iload_n 1, 1) := by decide +kernel
theorem dX7_pointOf_21 : decode cX7_pointOf 21 = .ok (.iload 4, 2) := by decide +kernel
theorem dX7_pointOf_23 : decode cX7_pointOf 23 = .ok (.invokevirtual 104, 3) := by decide +kernel
theorem dX7_pointOf_26 : decode cX7_pointOf 26 = .ok (.istore 5, 2) := by decide +kernel
theorem dX7_pointOf_28 : decode cX7_pointOf 28 = .ok (.aload_n 0, 1) := by decide +kernel
theorem dX7_pointOf_29 : decode cX7_pointOf 29 = .ok (.iload_n 2, 1) := by decide +kernel
theorem dX7_pointOf_30 : decode cX7_pointOf 30 = .ok (.iload 4, 2) := by decide +kernel
theorem dX7_pointOf_32 : decode cX7_pointOf 32 = .ok (.invokevirtual 104, 3) := by decide +kernel
theorem dX7_pointOf_35 : decode cX7_pointOf 35 = .ok (.istore 6, 2) := by decide +kernel
theorem dX7_pointOf_37 : decode cX7_pointOf 37 = .ok (.aload_n 0, 1) := by decide +kernel
theorem dX7_pointOf_38 : decode cX7_pointOf 38 = .ok (.iload_n 3, 1) := by decide +kernel
theorem dX7_pointOf_39 : decode cX7_pointOf 39 = .ok (.iload 4, 2) := by decide +kernel
theorem dX7_pointOf_41 : decode cX7_pointOf 41 = .ok (.invokevirtual 104, 3) := by decide +kernel
theorem dX7_pointOf_44 : decode cX7_pointOf 44 = .ok (.istore 7, 2) := by decide +kernel
theorem dX7_pointOf_46 : decode cX7_pointOf 46 = .ok (.iconst 0, 1) := by decide +kernel
theorem dX7_pointOf_47 : decode cX7_pointOf 47 = .ok (.istore 8, 2) := by decide +kernel
theorem dX7_pointOf_49 : decode cX7_pointOf 49 = .ok (.aload_n 0, 1) := by decide +kernel
theorem dX7_pointOf_50 : decode cX7_pointOf 50 = .ok (.getfield 16, 3) := by decide +kernel
theorem dX7_pointOf_53 : decode cX7_pointOf 53 = .ok (.iload 8, 2) := by decide +kernel
theorem dX7_pointOf_55 : decode cX7_pointOf 55 = .ok (.iaload, 1) := by decide +kernel
theorem dX7_pointOf_56 : decode cX7_pointOf 56 = .ok (.iload 5, 2) := by decide +kernel
theorem dX7_pointOf_58 : decode cX7_pointOf 58 = .ok (.if_icmp .ne 27, 3) := by decide +kernel
theorem dX7_pointOf_61 : decode cX7_pointOf 61 = .ok (.aload_n 0, 1) := by decide +kernel
theorem dX7_pointOf_62 : decode cX7_pointOf 62 = .ok (.getfield 19, 3) := by decide +kernel
theorem dX7_pointOf_65 : decode cX7_pointOf 65 = .ok (.iload 8, 2) := by decide +kernel
theorem dX7_pointOf_67 : decode cX7_pointOf 67 = .ok (.iaload, 1) := by decide +kernel
theorem dX7_pointOf_68 : decode cX7_pointOf 68 = .ok (.iload 6, 2) := by decide +kernel
theorem dX7_pointOf_70 : decode cX7_pointOf 70 = .ok (.if_icmp .ne 15, 3) := by decide +kernel
theorem dX7_pointOf_73 : decode cX7_pointOf 73 = .ok (.aload_n 0, 1) := by decide +kernel
theorem dX7_pointOf_74 : decode cX7_pointOf 74 = .ok (.getfield 22, 3) := by decide +kernel
theorem dX7_pointOf_77 : decode cX7_pointOf 77 = .ok (.iload 8, 2) := by decide +kernel
theorem dX7_pointOf_79 : decode cX7_pointOf 79 = .ok (.iaload, 1) := by decide +kernel
theorem dX7_pointOf_80 : decode cX7_pointOf 80 = .ok (.iload 7, 2) := by decide +kernel
theorem dX7_pointOf_82 : decode cX7_pointOf 82 = .ok (.if_icmp .eq 9, 3) := by decide +kernel
theorem dX7_pointOf_85 : decode cX7_pointOf 85 = .ok (.iinc 8 1, 3) := by decide +kernel
theorem dX7_pointOf_88 : decode cX7_pointOf 88 = .ok (.goto (-39), 3) := by decide +kernel
theorem dX7_pointOf_91 : decode cX7_pointOf 91 = .ok (.iload 8, 2) := by decide +kernel
theorem dX7_pointOf_93 : decode cX7_pointOf 93 = .ok (.ireturn, 1) := by decide +kernel
set_option maxRecDepth 20000 in
theorem ggX7_number_X7_isNumber : GoodIn wsX7_number wsX7_isNumber := goodIn_r _ [5, 6, 7, 8, 4, 9, 26, 27, 28, 29, 30, 31, 32, 33, 34, 35, 36, 37, 38, 39, 40, 41, 42, 43, 44, 45] (by decide +kernel) (by decide +kernel)
set_option maxRecDepth 20000 in
theorem gX7_number_X7_isNumber : GoodIn wsX7_number (wsV RX7 97 RX7 yX7_isNumber wsX7_isNumber) := goodIn_app (goodIn_of _ (by decide +kernel)) ggX7_number_X7_isNumber
set_option maxRecDepth 20000 in
theorem ggX7_number_X7_pointOf : GoodIn wsX7_number wsX7_pointOf := goodIn_r _ [13, 14, 15, 16, 17, 18, 19, 4, 20, 21, 22, 23, 24, 25, 26, 27, 28, 29, 30, 31, 32, 33, 34, 35, 36, 37, 38, 39, 40, 41, 42, 43, 44, 45] (by decide +kernel) (by decide +kernel)
set_option maxRecDepth 20000 in
theorem gX7_number_X7_pointOf : GoodIn wsX7_number (wsV RX7 114 RX7 yX7_pointOf wsX7_pointOf) := goodIn_app (goodIn_of _ (by decide +kernel)) ggX7_number_X7_pointOf
theorem dX7_number_0 : decode cX7_number 0 = .ok (.aload_n 0, 1) := by decide +kernel
theorem dX7_number_1 : decode cX7_number 1 = .ok (.iload_n 1, 1) := by decide +kernel
theorem dX7_number_2 : decode cX7_number 2 = .ok (.invokevirtual 97, 3) := by decide +kernel
theorem dX7_number_5 : decode cX7_number 5 = .ok (.ifCond .eq 19, 3) := by decide +kernel
theorem dX7_number_8 : decode cX7_number 8 = .ok (.aload_n 0, 1) := by decide +kernel
theorem dX7_number_9 : decode cX7_number 9 = .ok (.iload_n 2, 1) := by decide +kernel
theorem dX7_number_10 : decode cX7_number 10 = .ok (.invokevirtual 97, 3) := by decide +kernel
theorem dX7_number_13 : decode cX7_number 13 = .ok (.ifCond .eq 11, 3) := by decide +kernel
theorem dX7_number_16 : decode cX7_number 16 = .ok (.aload_n 0, 1) := by decide +kernel
theorem dX7_number_17 : decode cX7_number 17 = .ok (.iload_n 3, 1) := by decide +kernel
theorem dX7_number_18 : decode cX7_number 18 = .ok (.invokevirtual 97, 3) := by decide +kernel
theorem dX7_number_21 : decode cX7_number 21 = .ok (.ifCond .ne 6, 3) := by decide +kernel
theorem dX7_number_24 : decode cX7_number 24 = .ok (.bipush (-2), 2) := by decide +kernel
theorem dX7_number_26 : decode cX7_number 26 = .ok (.ireturn, 1) := by decide +kernel
theorem dX7_number_27 : decode cX7_number 27 = .ok (.iload_n 1, 1) := by decide +kernel
theorem dX7_number_28 : decode cX7_number 28 = .ok (.ifCond .ne 16, 3) := by decide +kernel
theorem dX7_number_31 : decode cX7_number 31 = .ok (.iload_n 2, 1) := by decide +kernel
theorem dX7_number_32 : decode cX7_number 32 = .ok (.ifCond .ne 12, 3) := by decide +kernel
theorem dX7_number_35 : decode cX7_number 35 = .ok (.iload_n 3, 1) := by decide +kernel
theorem dX7_number_36 : decode cX7_number 36 = .ok (.ifCond .ne 8, 3) := by decide +kernel
theorem dX7_number_39 : decode cX7_number 39 = .ok (.bipush (-3), 2) := by decide +kernel
theorem dX7_number_41 : decode cX7_number 41 = .ok (.goto 10, 3) := by decide +kernel
theorem dX7_number_44 : decode cX7_number 44 = .ok (.aload_n 0, 1) := by decide +kernel
theorem dX7_number_45 : decode cX7_number 45 = .ok (.iload_n 1, 1) := by decide +kernel
theorem dX7_number_46 : decode cX7_number 46 = .ok (.iload_n 2, 1) := by decide +kernel
theorem dX7_number_47 : decode cX7_number 47 = .ok (.iload_n 3, 1) := by decide +kernel
theorem dX7_number_48 : decode cX7_number 48 = .ok (.invokevirtual 114, 3) := by decide +kernel
theorem dX7_number_51 : decode cX7_number 51 = .ok (.ireturn, 1) := by decide +kernel
set_option maxRecDepth 20000 in
theorem ggX7_isOn_X7_times : GoodIn wsX7_isOn wsX7_times := goodIn_r _ [8, 9, 15, 16, 17, 18, 19, 20, 21, 22, 23, 24, 25, 26, 27, 28, 29, 30, 31, 32, 33, 34] (by decide +kernel) (by decide +kernel)
set_option maxRecDepth 20000 in
theorem gX7_isOn_X7_times : GoodIn wsX7_isOn (wsV RX7 90 RX7 yX7_times wsX7_times) := goodIn_app (goodIn_of _ (by decide +kernel)) ggX7_isOn_X7_times
set_option maxRecDepth 20000 in
theorem ggX7_isOn_X7_add : GoodIn wsX7_isOn wsX7_add := goodIn_r _ [13, 14, 15, 16, 17, 18, 19, 20, 21, 22, 23, 24, 25, 26, 27, 28, 29, 30, 31, 32, 33, 34] (by decide +kernel) (by decide +kernel)
set_option maxRecDepth 20000 in
theorem gX7_isOn_X7_add : GoodIn wsX7_isOn (wsV RX7 86 RX7 yX7_add wsX7_add) := goodIn_app (goodIn_of _ (by decide +kernel)) ggX7_isOn_X7_add
theorem dX7_isOn_0 : decode cX7_isOn 0 = .ok (.aload_n 0, 1) := by decide +kernel
theorem dX7_isOn_1 : decode cX7_isOn 1 = .ok (.aload_n 0, 1) := by decide +kernel
theorem dX7_isOn_2 : decode cX7_isOn 2 = .ok (.aload_n 0, 1) := by decide +kernel
theorem dX7_isOn_3 : decode cX7_isOn 3 = .ok (.aload_n 0, 1) := by decide +kernel
theorem dX7_isOn_4 : decode cX7_isOn 4 = .ok (.getfield 16, 3) := by decide +kernel
theorem dX7_isOn_7 : decode cX7_isOn 7 = .ok (.iload_n 1, 1) := by decide +kernel
theorem dX7_isOn_8 : decode cX7_isOn 8 = .ok (.iaload, 1) := by decide +kernel
theorem dX7_isOn_9 : decode cX7_isOn 9 = .ok (.aload_n 0, 1) := by decide +kernel
theorem dX7_isOn_10 : decode cX7_isOn 10 = .ok (.getfield 16, 3) := by decide +kernel
theorem dX7_isOn_13 : decode cX7_isOn 13 = .ok (.iload_n 2, 1) := by decide +kernel
theorem dX7_isOn_14 : decode cX7_isOn 14 = .ok (.iaload, 1) := by decide +kernel
theorem dX7_isOn_15 : decode cX7_isOn 15 = .ok (.invokevirtual 90, 3) := by decide +kernel
theorem dX7_isOn_18 : decode cX7_isOn 18 = .ok (.aload_n 0, 1) := by decide +kernel
theorem dX7_isOn_19 : decode cX7_isOn 19 = .ok (.aload_n 0, 1) := by decide +kernel
theorem dX7_isOn_20 : decode cX7_isOn 20 = .ok (.getfield 19, 3) := by decide +kernel
theorem dX7_isOn_23 : decode cX7_isOn 23 = .ok (.iload_n 1, 1) := by decide +kernel
theorem dX7_isOn_24 : decode cX7_isOn 24 = .ok (.iaload, 1) := by decide +kernel
theorem dX7_isOn_25 : decode cX7_isOn 25 = .ok (.aload_n 0, 1) := by decide +kernel
theorem dX7_isOn_26 : decode cX7_isOn 26 = .ok (.getfield 19, 3) := by decide +kernel
theorem dX7_isOn_29 : decode cX7_isOn 29 = .ok (.iload_n 2, 1) := by decide +kernel
theorem dX7_isOn_30 : decode cX7_isOn 30 = .ok (.iaload, 1) := by decide +kernel
theorem dX7_isOn_31 : decode cX7_isOn 31 = .ok (.invokevirtual 90, 3) := by decide +kernel
theorem dX7_isOn_34 : decode cX7_isOn 34 = .ok (.invokevirtual 86, 3) := by decide +kernel
theorem dX7_isOn_37 : decode cX7_isOn 37 = .ok (.aload_n 0, 1) := by decide +kernel
theorem dX7_isOn_38 : decode cX7_isOn 38 = .ok (.aload_n 0, 1) := by decide +kernel
theorem dX7_isOn_39 : decode cX7_isOn 39 = .ok (.getfield 22, 3) := by decide +kernel
theorem dX7_isOn_42 : decode cX7_isOn 42 = .ok (.iload_n 1, 1) := by decide +kernel
theorem dX7_isOn_43 : decode cX7_isOn 43 = .ok (.iaload, 1) := by decide +kernel
theorem dX7_isOn_44 : decode cX7_isOn 44 = .ok (.aload_n 0, 1) := by decide +kernel
theorem dX7_isOn_45 : decode cX7_isOn 45 = .ok (.getfield 22, 3) := by decide +kernel
theorem dX7_isOn_48 : decode cX7_isOn 48 = .ok (.iload_n 2, 1) := by decide +kernel
theorem dX7_isOn_49 : decode cX7_isOn 49 = .ok (.iaload, 1) := by decide +kernel
theorem dX7_isOn_50 : decode cX7_isOn 50 = .ok (.invokevirtual 90, 3) := by decide +kernel
theorem dX7_isOn_53 : decode cX7_isOn 53 = .ok (.invokevirtual 86, 3) := by decide +kernel
theorem dX7_isOn_56 : decode cX7_isOn 56 = .ok (.ifCond .ne 7, 3) := by decide +kernel
theorem dX7_isOn_59 : decode cX7_isOn 59 = .ok (.iconst 1, 1) := by decide +kernel
theorem dX7_isOn_60 : decode cX7_isOn 60 = .ok (.goto 4, 3) := by decide +kernel
theorem dX7_isOn_63 : decode cX7_isOn 63 = .ok (.iconst 0, 1) := by decide +kernel
theorem dX7_isOn_64 : decode cX7_isOn 64 = .ok (.ireturn, 1) := by decide +kernel
set_option maxRecDepth 20000 in
theorem ggX7_on_X7_isPoint : GoodIn wsX7_on wsX7_isPoint := goodIn_r _ [5, 6, 7, 8, 4, 9, 27, 28, 29, 30, 31, 32, 33, 34, 35, 36, 37, 38, 39, 40, 41, 42, 43, 44, 45, 46] (by decide +kernel) (by decide +kernel)
set_option maxRecDepth 20000 in
theorem gX7_on_X7_isPoint : GoodIn wsX7_on (wsV RX7 107 RX7 yX7_isPoint wsX7_isPoint) := goodIn_app (goodIn_of _ (by decide +kernel)) ggX7_on_X7_isPoint
set_option maxRecDepth 20000 in
theorem ggX7_on_X7_isOn : GoodIn wsX7_on wsX7_isOn := goodIn_r _ [13, 14, 15, 16, 17, 18, 19, 4, 20, 21, 22, 23, 24, 25, 26, 27, 28, 29, 30, 31, 32, 33, 34, 35, 36, 37, 38, 39, 40, 41, 42, 43, 44, 45, 46] (by decide +kernel) (by decide +kernel)
set_option maxRecDepth 20000 in
theorem gX7_on_X7_isOn : GoodIn wsX7_on (wsV RX7 117 RX7 yX7_isOn wsX7_isOn) := goodIn_app (goodIn_of _ (by decide +kernel)) ggX7_on_X7_isOn
theorem dX7_on_0 : decode cX7_on 0 = .ok (.aload_n 0, 1) := by decide +kernel
theorem dX7_on_1 : decode cX7_on 1 = .ok (.iload_n 1, 1) := by decide +kernel
theorem dX7_on_2 : decode cX7_on 2 = .ok (.invokevirtual 107, 3) := by decide +kernel
theorem dX7_on_5 : decode cX7_on 5 = .ok (.ifCond .eq 28, 3) := by decide +kernel
theorem dX7_on_8 : decode cX7_on 8 = .ok (.aload_n 0, 1) := by decide +kernel
theorem dX7_on_9 : decode cX7_on 9 = .ok (.iload_n 2, 1) := by decide +kernel
theorem dX7_on_10 : decode cX7_on 10 = .ok (.invokevirtual 107, 3) := by decide +kernel
theorem dX7_on_13 : decode cX7_on 13 = .ok (.ifCond .eq 20, 3) := by decide +kernel
theorem dX7_on_16 : decode cX7_on 16 = .ok (.aload_n 0, 1) := by decide +kernel
theorem dX7_on_17 : decode cX7_on 17 = .ok (.iload_n 1, 1) := by decide +kernel
theorem dX7_on_18 : decode cX7_on 18 = .ok (.iload_n 2, 1) := by decide +kernel
theorem dX7_on_19 : decode cX7_on 19 = .ok (.invokevirtual 117, 3) := by decide +kernel
theorem dX7_on_22 : decode cX7_on 22 = .ok (.ifCond .eq 7, 3) := by decide +kernel
theorem dX7_on_25 : decode cX7_on 25 = .ok (.iconst 1, 1) := by decide +kernel
theorem dX7_on_26 : decode cX7_on 26 = .ok (.goto 9, 3) := by decide +kernel
theorem dX7_on_29 : decode cX7_on 29 = .ok (.iconst 0, 1) := by decide +kernel
theorem dX7_on_30 : decode cX7_on 30 = .ok (.goto 5, 3) := by decide +kernel
theorem dX7_on_33 : decode cX7_on 33 = .ok (.bipush (-2), 2) := by decide +kernel
theorem dX7_on_35 : decode cX7_on 35 = .ok (.ireturn, 1) := by decide +kernel
set_option maxRecDepth 20000 in
theorem ggX7_joinOf_X7_isOn : GoodIn wsX7_joinOf wsX7_isOn := goodIn_r _ [5, 6, 7, 8, 9, 10, 11, 4, 12, 13, 14, 15, 16, 17, 18, 19, 20, 21, 22, 23, 24, 25, 26, 27, 28, 29, 30, 31, 32, 33, 34, 35, 36, 37, 38] (by decide +kernel) (by decide +kernel)
set_option maxRecDepth 20000 in
theorem gX7_joinOf_X7_isOn : GoodIn wsX7_joinOf (wsV RX7 117 RX7 yX7_isOn wsX7_isOn) := goodIn_app (goodIn_of _ (by decide +kernel)) ggX7_joinOf_X7_isOn
theorem dX7_joinOf_0 : decode cX7_joinOf 0 = .ok (.iconst 0, 1) := by decide +kernel
theorem dX7_joinOf_1 : decode cX7_joinOf 1 = .ok (.istore_n 3, 1) := by decide +kernel
theorem dX7_joinOf_2 : decode cX7_joinOf 2 = .ok (.aload_n 0, 1) := by decide +kernel
theorem dX7_joinOf_3 : decode cX7_joinOf 3 = .ok (.iload_n 1, 1) := by decide +kernel
theorem dX7_joinOf_4 : decode cX7_joinOf 4 = .ok (.iload_n 3, 1) := by decide +kernel
theorem dX7_joinOf_5 : decode cX7_joinOf 5 = .ok (.invokevirtual 117, 3) := by decide +kernel
theorem dX7_joinOf_8 : decode cX7_joinOf 8 = .ok (.ifCond .eq 12, 3) := by decide +kernel
theorem dX7_joinOf_11 : decode cX7_joinOf 11 = .ok (.aload_n 0, 1) := by decide +kernel
theorem dX7_joinOf_12 : decode cX7_joinOf 12 = .ok (.iload_n 2, 1) := by decide +kernel
theorem dX7_joinOf_13 : decode cX7_joinOf 13 = .ok (.iload_n 3, 1) := by decide +kernel
theorem dX7_joinOf_14 : decode cX7_joinOf 14 = .ok (.invokevirtual 117, 3) := by decide +kernel
theorem dX7_joinOf_17 : decode cX7_joinOf 17 = .ok (.ifCond .ne 9, 3) := by decide +kernel
theorem dX7_joinOf_20 : decode cX7_joinOf 20 = .ok (.iinc 3 1, 3) := by decide +kernel
theorem dX7_joinOf_23 : decode cX7_joinOf 23 = .ok (.goto (-21), 3) := by decide +kernel
theorem dX7_joinOf_26 : decode cX7_joinOf 26 = .ok (.iload_n 3, 1) := by decide +kernel
theorem dX7_joinOf_27 : decode cX7_joinOf 27 = .ok (.ireturn, 1) := by decide +kernel
set_option maxRecDepth 20000 in
theorem ggX7_join_X7_isPoint : GoodIn wsX7_join wsX7_isPoint := goodIn_r _ [5, 6, 7, 8, 4, 9, 31, 32, 33, 34, 35, 36, 37, 38, 39, 40, 41, 42, 43, 44, 45, 46, 47, 48, 49, 50] (by decide +kernel) (by decide +kernel)
set_option maxRecDepth 20000 in
theorem gX7_join_X7_isPoint : GoodIn wsX7_join (wsV RX7 107 RX7 yX7_isPoint wsX7_isPoint) := goodIn_app (goodIn_of _ (by decide +kernel)) ggX7_join_X7_isPoint
set_option maxRecDepth 20000 in
theorem ggX7_join_X7_joinOf : GoodIn wsX7_join wsX7_joinOf := goodIn_r _ [13, 14, 15, 16, 4, 17, 18, 19, 20, 21, 22, 23, 24, 25, 26, 27, 28, 29, 30, 31, 32, 33, 34, 35, 36, 37, 38, 39, 40, 41, 42, 43, 44, 45, 46, 47, 48, 49, 50] (by decide +kernel) (by decide +kernel)
set_option maxRecDepth 20000 in
theorem gX7_join_X7_joinOf : GoodIn wsX7_join (wsV RX7 121 RX7 yX7_joinOf wsX7_joinOf) := goodIn_app (goodIn_of _ (by decide +kernel)) ggX7_join_X7_joinOf
theorem dX7_join_0 : decode cX7_join 0 = .ok (.aload_n 0, 1) := by decide +kernel
theorem dX7_join_1 : decode cX7_join 1 = .ok (.iload_n 1, 1) := by decide +kernel
theorem dX7_join_2 : decode cX7_join 2 = .ok (.invokevirtual 107, 3) := by decide +kernel
theorem dX7_join_5 : decode cX7_join 5 = .ok (.ifCond .eq 25, 3) := by decide +kernel
theorem dX7_join_8 : decode cX7_join 8 = .ok (.aload_n 0, 1) := by decide +kernel
theorem dX7_join_9 : decode cX7_join 9 = .ok (.iload_n 2, 1) := by decide +kernel
theorem dX7_join_10 : decode cX7_join 10 = .ok (.invokevirtual 107, 3) := by decide +kernel
theorem dX7_join_13 : decode cX7_join 13 = .ok (.ifCond .eq 17, 3) := by decide +kernel
theorem dX7_join_16 : decode cX7_join 16 = .ok (.iload_n 1, 1) := by decide +kernel
theorem dX7_join_17 : decode cX7_join 17 = .ok (.iload_n 2, 1) := by decide +kernel
theorem dX7_join_18 : decode cX7_join 18 = .ok (.if_icmp .eq 12, 3) := by decide +kernel
theorem dX7_join_21 : decode cX7_join 21 = .ok (.aload_n 0, 1) := by decide +kernel
theorem dX7_join_22 : decode cX7_join 22 = .ok (.iload_n 1, 1) := by decide +kernel
theorem dX7_join_23 : decode cX7_join 23 = .ok (.iload_n 2, 1) := by decide +kernel
theorem dX7_join_24 : decode cX7_join 24 = .ok (.invokevirtual 121, 3) := by decide +kernel
theorem dX7_join_27 : decode cX7_join 27 = .ok (.goto 5, 3) := by decide +kernel
theorem dX7_join_30 : decode cX7_join 30 = .ok (.bipush (-2), 2) := by decide +kernel
theorem dX7_join_32 : decode cX7_join 32 = .ok (.ireturn, 1) := by decide +kernel
set_option maxRecDepth 20000 in
theorem ggX7_row_X7_isPoint : GoodIn wsX7_row wsX7_isPoint := goodIn_r _ [6, 1, 7, 8, 5, 9, 27, 28, 29, 30, 31, 32, 33, 34, 35, 36, 37, 38, 39, 40, 41, 42, 43, 44, 45, 46] (by decide +kernel) (by decide +kernel)
set_option maxRecDepth 20000 in
theorem gX7_row_X7_isPoint : GoodIn wsX7_row (wsV RX7 107 RX7 yX7_isPoint wsX7_isPoint) := goodIn_app (goodIn_of _ (by decide +kernel)) ggX7_row_X7_isPoint
set_option maxRecDepth 20000 in
theorem ggX7_row_X7_isOn : GoodIn wsX7_row wsX7_isOn := goodIn_r _ [13, 14, 15, 16, 17, 18, 19, 5, 20, 21, 22, 23, 24, 25, 26, 27, 28, 29, 30, 31, 32, 33, 34, 35, 36, 37, 38, 39, 40, 41, 42, 43, 44, 45, 46] (by decide +kernel) (by decide +kernel)
set_option maxRecDepth 20000 in
theorem gX7_row_X7_isOn : GoodIn wsX7_row (wsV RX7 117 RX7 yX7_isOn wsX7_isOn) := goodIn_app (goodIn_of _ (by decide +kernel)) ggX7_row_X7_isOn
theorem dX7_row_0 : decode cX7_row 0 = .ok (.aload_n 0, 1) := by decide +kernel
theorem dX7_row_1 : decode cX7_row 1 = .ok (.iload_n 1, 1) := by decide +kernel
theorem dX7_row_2 : decode cX7_row 2 = .ok (.invokevirtual 107, 3) := by decide +kernel
theorem dX7_row_5 : decode cX7_row 5 = .ok (.ifCond .ne 6, 3) := by decide +kernel
theorem dX7_row_8 : decode cX7_row 8 = .ok (.bipush (-2), 2) := by decide +kernel
theorem dX7_row_10 : decode cX7_row 10 = .ok (.ireturn, 1) := by decide +kernel
theorem dX7_row_11 : decode cX7_row 11 = .ok (.iconst 0, 1) := by decide +kernel
theorem dX7_row_12 : decode cX7_row 12 = .ok (.istore_n 3, 1) := by decide +kernel
theorem dX7_row_13 : decode cX7_row 13 = .ok (.iconst (-1), 1) := by decide +kernel
theorem dX7_row_14 : decode cX7_row 14 = .ok (.istore 4, 2) := by decide +kernel
theorem dX7_row_16 : decode cX7_row 16 = .ok (.iconst 0, 1) := by decide +kernel
theorem dX7_row_17 : decode cX7_row 17 = .ok (.istore 5, 2) := by decide +kernel
theorem dX7_row_19 : decode cX7_row 19 = .ok (.iload 5, 2) := by decide +kernel
theorem dX7_row_21 : decode cX7_row 21 = .ok (.aload_n 0, 1) := by decide +kernel
theorem dX7_row_22 : decode cX7_row 22 = .ok (.getfield 83, 3) := by decide +kernel
theorem dX7_row_25 : decode cX7_row 25 = .ok (.if_icmp .ge 36, 3) := by decide +kernel
theorem dX7_row_28 : decode cX7_row 28 = .ok (.aload_n 0, 1) := by decide +kernel
theorem dX7_row_29 : decode cX7_row 29 = .ok (.iload 5, 2) := by decide +kernel
theorem dX7_row_31 : decode cX7_row 31 = .ok (.iload_n 1, 1) := by decide +kernel
theorem dX7_row_32 : decode cX7_row 32 = .ok (.invokevirtual 117, 3) := by decide +kernel
theorem dX7_row_35 : decode cX7_row 35 = .ok (.ifCond .eq 20, 3) := by decide +kernel
theorem dX7_row_38 : decode cX7_row 38 = .ok (.iload_n 3, 1) := by decide +kernel
theorem dX7_row_39 : decode cX7_row 39 = .ok (.iload_n 2, 1) := by decide +kernel
theorem dX7_row_40 : decode cX7_row 40 = .ok (.if_icmp .ne 8, 3) := by decide +kernel
theorem dX7_row_43 : decode cX7_row 43 = .ok (.iload 5, 2) := by decide +kernel
theorem dX7_row_45 : decode cX7_row 45 = .ok (.goto 5, 3) := by decide +kernel
theorem dX7_row_48 : decode cX7_row 48 = .ok (.iload 4, 2) := by decide +kernel
theorem dX7_row_50 : decode cX7_row 50 = .ok (.istore 4, 2) := by decide +kernel
theorem dX7_row_52 : decode cX7_row 52 = .ok (.iinc 3 1, 3) := by decide +kernel
theorem dX7_row_55 : decode cX7_row 55 = .ok (.iinc 5 1, 3) := by decide +kernel
theorem dX7_row_58 : decode cX7_row 58 = .ok (.goto (-39), 3) := by decide +kernel
theorem dX7_row_61 : decode cX7_row 61 = .ok (.iload 4, 2) := by decide +kernel
theorem dX7_row_63 : decode cX7_row 63 = .ok (.ireturn, 1) := by decide +kernel
set_option maxRecDepth 20000 in
theorem ggX7_put_X7_isPoint : GoodIn wsX7_put wsX7_isPoint := goodIn_r _ [6, 7, 8, 9, 5, 10, 11, 12, 13, 14, 15, 16, 17, 18, 19, 20, 21, 22, 23, 24, 25, 26, 27, 28, 29, 30] (by decide +kernel) (by decide +kernel)
set_option maxRecDepth 20000 in
theorem gX7_put_X7_isPoint : GoodIn wsX7_put (wsV RX7 107 RX7 yX7_isPoint wsX7_isPoint) := goodIn_app (goodIn_of _ (by decide +kernel)) ggX7_put_X7_isPoint
theorem dX7_put_0 : decode cX7_put 0 = .ok (.aload_n 0, 1) := by decide +kernel
theorem dX7_put_1 : decode cX7_put 1 = .ok (.iload_n 1, 1) := by decide +kernel
theorem dX7_put_2 : decode cX7_put 2 = .ok (.invokevirtual 107, 3) := by decide +kernel
theorem dX7_put_5 : decode cX7_put 5 = .ok (.ifCond .ne 6, 3) := by decide +kernel
theorem dX7_put_8 : decode cX7_put 8 = .ok (.bipush (-2), 2) := by decide +kernel
theorem dX7_put_10 : decode cX7_put 10 = .ok (.ireturn, 1) := by decide +kernel
theorem dX7_put_11 : decode cX7_put 11 = .ok (.aload_n 0, 1) := by decide +kernel
theorem dX7_put_12 : decode cX7_put 12 = .ok (.getfield 25, 3) := by decide +kernel
theorem dX7_put_15 : decode cX7_put 15 = .ok (.iload_n 1, 1) := by decide +kernel
theorem dX7_put_16 : decode cX7_put 16 = .ok (.baload, 1) := by decide +kernel
theorem dX7_put_17 : decode cX7_put 17 = .ok (.ifCond .eq 7, 3) := by decide +kernel
theorem dX7_put_20 : decode cX7_put 20 = .ok (.iconst 1, 1) := by decide +kernel
theorem dX7_put_21 : decode cX7_put 21 = .ok (.goto 4, 3) := by decide +kernel
theorem dX7_put_24 : decode cX7_put 24 = .ok (.iconst 0, 1) := by decide +kernel
theorem dX7_put_25 : decode cX7_put 25 = .ok (.istore_n 3, 1) := by decide +kernel
theorem dX7_put_26 : decode cX7_put 26 = .ok (.aload_n 0, 1) := by decide +kernel
theorem dX7_put_27 : decode cX7_put 27 = .ok (.getfield 25, 3) := by decide +kernel
theorem dX7_put_30 : decode cX7_put 30 = .ok (.iload_n 1, 1) := by decide +kernel
theorem dX7_put_31 : decode cX7_put 31 = .ok (.iload_n 2, 1) := by decide +kernel
theorem dX7_put_32 : decode cX7_put 32 = .ok (.bastore, 1) := by decide +kernel
theorem dX7_put_33 : decode cX7_put 33 = .ok (.iload_n 3, 1) := by decide +kernel
theorem dX7_put_34 : decode cX7_put 34 = .ok (.ireturn, 1) := by decide +kernel
theorem dX7_sizeOf_0 : decode cX7_sizeOf 0 = .ok (.iconst 0, 1) := by decide +kernel
theorem dX7_sizeOf_1 : decode cX7_sizeOf 1 = .ok (.istore_n 2, 1) := by decide +kernel
theorem dX7_sizeOf_2 : decode cX7_sizeOf 2 = .ok (.iconst 0, 1) := by decide +kernel
theorem dX7_sizeOf_3 : decode cX7_sizeOf 3 = .ok (.istore_n 3, 1) := by decide +kernel
theorem dX7_sizeOf_4 : decode cX7_sizeOf 4 = .ok (.iload_n 3, 1) := by decide +kernel
theorem dX7_sizeOf_5 : decode cX7_sizeOf 5 = .ok (.aload_n 0, 1) := by decide +kernel
theorem dX7_sizeOf_6 : decode cX7_sizeOf 6 = .ok (.getfield 83, 3) := by decide +kernel
theorem dX7_sizeOf_9 : decode cX7_sizeOf 9 = .ok (.if_icmp .ge 23, 3) := by decide +kernel
theorem dX7_sizeOf_12 : decode cX7_sizeOf 12 = .ok (.aload_n 1, 1) := by decide +kernel
theorem dX7_sizeOf_13 : decode cX7_sizeOf 13 = .ok (.iload_n 3, 1) := by decide +kernel
theorem dX7_sizeOf_14 : decode cX7_sizeOf 14 = .ok (.baload, 1) := by decide +kernel
theorem dX7_sizeOf_15 : decode cX7_sizeOf 15 = .ok (.ifCond .eq 9, 3) := by decide +kernel
theorem dX7_sizeOf_18 : decode cX7_sizeOf 18 = .ok (.iload_n 2, 1) := by decide +kernel
theorem dX7_sizeOf_19 : decode cX7_sizeOf 19 = .ok (.iconst 1, 1) := by decide +kernel
theorem dX7_sizeOf_20 : decode cX7_sizeOf 20 = .ok (.iadd, 1) := by decide +kernel
theorem dX7_sizeOf_21 : decode cX7_sizeOf 21 = .ok (.goto 4, 3) := by decide +kernel
theorem dX7_sizeOf_24 : decode cX7_sizeOf 24 = .ok (.iload_n 2, 1) := by decide +kernel
theorem dX7_sizeOf_25 : decode cX7_sizeOf 25 = .ok (.istore_n 2, 1) := by decide +kernel
theorem dX7_sizeOf_26 : decode cX7_sizeOf 26 = .ok (.iinc 3 1, 3) := by decide +kernel
theorem dX7_sizeOf_29 : decode cX7_sizeOf 29 = .ok (.goto (-25), 3) := by decide +kernel
theorem dX7_sizeOf_32 : decode cX7_sizeOf 32 = .ok (.iload_n 2, 1) := by decide +kernel
theorem dX7_sizeOf_33 : decode cX7_sizeOf 33 = .ok (.ireturn, 1) := by decide +kernel
theorem dX7_memberOf_0 : decode cX7_memberOf 0 = .ok (.iconst 0, 1) := by decide +kernel
theorem dX7_memberOf_1 : decode cX7_memberOf 1 = .ok (.istore_n 3, 1) := by decide +kernel
theorem dX7_memberOf_2 : decode cX7_memberOf 2 = .ok (.iconst (-1), 1) := by decide +kernel
theorem dX7_memberOf_3 : decode cX7_memberOf 3 = .ok (.istore 4, 2) := by decide +kernel
theorem dX7_memberOf_5 : decode cX7_memberOf 5 = .ok (.iconst 0, 1) := by decide +kernel
theorem dX7_memberOf_6 : decode cX7_memberOf 6 = .ok (.istore 5, 2) := by decide +kernel
theorem dX7_memberOf_8 : decode cX7_memberOf 8 = .ok (.iload 5, 2) := by decide +kernel
theorem dX7_memberOf_10 : decode cX7_memberOf 10 = .ok (.aload_n 0, 1) := by decide +kernel
theorem dX7_memberOf_11 : decode cX7_memberOf 11 = .ok (.getfield 83, 3) := by decide +kernel
theorem dX7_memberOf_14 : decode cX7_memberOf 14 = .ok (.if_icmp .ge 33, 3) := by decide +kernel
theorem dX7_memberOf_17 : decode cX7_memberOf 17 = .ok (.aload_n 1, 1) := by decide +kernel
theorem dX7_memberOf_18 : decode cX7_memberOf 18 = .ok (.iload 5, 2) := by decide +kernel
theorem dX7_memberOf_20 : decode cX7_memberOf 20 = .ok (.baload, 1) := by decide +kernel
theorem dX7_memberOf_21 : decode cX7_memberOf 21 = .ok (.ifCond .eq 20, 3) := by decide +kernel
theorem dX7_memberOf_24 : decode cX7_memberOf 24 = .ok (.iload_n 3, 1) := by decide +kernel
theorem dX7_memberOf_25 : decode cX7_memberOf 25 = .ok (.iload_n 2, 1) := by decide +kernel
theorem dX7_memberOf_26 : decode cX7_memberOf 26 = .ok (.if_icmp .ne 8, 3) := by decide +kernel
theorem dX7_memberOf_29 : decode cX7_memberOf 29 = .ok (.iload 5, 2) := by decide +kernel
theorem dX7_memberOf_31 : decode cX7_memberOf 31 = .ok (.goto 5, 3) := by decide +kernel
theorem dX7_memberOf_34 : decode cX7_memberOf 34 = .ok (.iload 4, 2) := by decide +kernel
theorem dX7_memberOf_36 : decode cX7_memberOf 36 = .ok (.istore 4, 2) := by decide +kernel
theorem dX7_memberOf_38 : decode cX7_memberOf 38 = .ok (.iinc 3 1, 3) := by decide +kernel
theorem dX7_memberOf_41 : decode cX7_memberOf 41 = .ok (.iinc 5 1, 3) := by decide +kernel
theorem dX7_memberOf_44 : decode cX7_memberOf 44 = .ok (.goto (-36), 3) := by decide +kernel
theorem dX7_memberOf_47 : decode cX7_memberOf 47 = .ok (.iload 4, 2) := by decide +kernel
theorem dX7_memberOf_49 : decode cX7_memberOf 49 = .ok (.ireturn, 1) := by decide +kernel
set_option maxRecDepth 20000 in
theorem ggX7_member_X7_memberOf : GoodIn wsX7_member wsX7_memberOf := goodIn_r _ [6, 7, 8, 9, 10, 11, 12, 13, 14, 15, 16, 17, 18, 19, 20, 21, 22, 23, 24, 25, 26, 27] (by decide +kernel) (by decide +kernel)
set_option maxRecDepth 20000 in
theorem gX7_member_X7_memberOf : GoodIn wsX7_member (wsV RX7 124 RX7 yX7_memberOf wsX7_memberOf) := goodIn_app (goodIn_of _ (by decide +kernel)) ggX7_member_X7_memberOf
theorem dX7_member_0 : decode cX7_member 0 = .ok (.aload_n 0, 1) := by decide +kernel
theorem dX7_member_1 : decode cX7_member 1 = .ok (.aload_n 0, 1) := by decide +kernel
theorem dX7_member_2 : decode cX7_member 2 = .ok (.getfield 25, 3) := by decide +kernel
theorem dX7_member_5 : decode cX7_member 5 = .ok (.iload_n 1, 1) := by decide +kernel
theorem dX7_member_6 : decode cX7_member 6 = .ok (.invokevirtual 124, 3) := by decide +kernel
theorem dX7_member_9 : decode cX7_member 9 = .ok (.ireturn, 1) := by decide +kernel
set_option maxRecDepth 20000 in
theorem ggX7_met_X7_isOn : GoodIn wsX7_met wsX7_isOn := goodIn_r _ [6, 7, 8, 9, 10, 11, 12, 5, 13, 14, 15, 16, 17, 18, 19, 20, 21, 22, 23, 24, 25, 26, 27, 28, 29, 30, 31, 32, 33, 34, 35, 36, 37, 38, 39] (by decide +kernel) (by decide +kernel)
set_option maxRecDepth 20000 in
theorem gX7_met_X7_isOn : GoodIn wsX7_met (wsV RX7 117 RX7 yX7_isOn wsX7_isOn) := goodIn_app (goodIn_of _ (by decide +kernel)) ggX7_met_X7_isOn
theorem dX7_met_0 : decode cX7_met 0 = .ok (.iconst 0, 1) := by decide +kernel
theorem dX7_met_1 : decode cX7_met 1 = .ok (.istore_n 3, 1) := by decide +kernel
theorem dX7_met_2 : decode cX7_met 2 = .ok (.iconst 0, 1) := by decide +kernel
theorem dX7_met_3 : decode cX7_met 3 = .ok (.istore 4, 2) := by decide +kernel
theorem dX7_met_5 : decode cX7_met 5 = .ok (.iload 4, 2) := by decide +kernel
theorem dX7_met_7 : decode cX7_met 7 = .ok (.aload_n 0, 1) := by decide +kernel
theorem dX7_met_8 : decode cX7_met 8 = .ok (.getfield 83, 3) := by decide +kernel
theorem dX7_met_11 : decode cX7_met 11 = .ok (.if_icmp .ge 34, 3) := by decide +kernel
theorem dX7_met_14 : decode cX7_met 14 = .ok (.aload_n 1, 1) := by decide +kernel
theorem dX7_met_15 : decode cX7_met 15 = .ok (.iload 4, 2) := by decide +kernel
theorem dX7_met_17 : decode cX7_met 17 = .ok (.baload, 1) := by decide +kernel
theorem dX7_met_18 : decode cX7_met 18 = .ok (.ifCond .eq 19, 3) := by decide +kernel
theorem dX7_met_21 : decode cX7_met 21 = .ok (.aload_n 0, 1) := by decide +kernel
theorem dX7_met_22 : decode cX7_met 22 = .ok (.iload 4, 2) := by decide +kernel
theorem dX7_met_24 : decode cX7_met 24 = .ok (.iload_n 2, 1) := by decide +kernel
theorem dX7_met_25 : decode cX7_met 25 = .ok (.invokevirtual 117, 3) := by decide +kernel
theorem dX7_met_28 : decode cX7_met 28 = .ok (.ifCond .eq 9, 3) := by decide +kernel
theorem dX7_met_31 : decode cX7_met 31 = .ok (.iload_n 3, 1) := by decide +kernel
theorem dX7_met_32 : decode cX7_met 32 = .ok (.iconst 1, 1) := by decide +kernel
theorem dX7_met_33 : decode cX7_met 33 = .ok (.iadd, 1) := by decide +kernel
theorem dX7_met_34 : decode cX7_met 34 = .ok (.goto 4, 3) := by decide +kernel
theorem dX7_met_37 : decode cX7_met 37 = .ok (.iload_n 3, 1) := by decide +kernel
theorem dX7_met_38 : decode cX7_met 38 = .ok (.istore_n 3, 1) := by decide +kernel
theorem dX7_met_39 : decode cX7_met 39 = .ok (.iinc 4 1, 3) := by decide +kernel
theorem dX7_met_42 : decode cX7_met 42 = .ok (.goto (-37), 3) := by decide +kernel
theorem dX7_met_45 : decode cX7_met 45 = .ok (.iload_n 3, 1) := by decide +kernel
theorem dX7_met_46 : decode cX7_met 46 = .ok (.ireturn, 1) := by decide +kernel
set_option maxRecDepth 20000 in
theorem ggX7_isArc_X7_met : GoodIn wsX7_isArc wsX7_met := goodIn_r _ [6, 1, 7, 8, 9, 5, 10, 11, 12, 13, 14, 15, 16, 17, 18, 19, 20, 21, 22, 23, 24, 25, 26, 27, 28, 29, 30, 31, 32, 33, 34, 35, 36, 37, 38, 39, 40, 41, 42, 43] (by decide +kernel) (by decide +kernel)
set_option maxRecDepth 20000 in
theorem gX7_isArc_X7_met : GoodIn wsX7_isArc (wsV RX7 128 RX7 yX7_met wsX7_met) := goodIn_app (goodIn_of _ (by decide +kernel)) ggX7_isArc_X7_met
theorem dX7_isArc_0 : decode cX7_isArc 0 = .ok (.iconst 1, 1) := by decide +kernel
theorem dX7_isArc_1 : decode cX7_isArc 1 = .ok (.istore_n 2, 1) := by decide +kernel
theorem dX7_isArc_2 : decode cX7_isArc 2 = .ok (.iconst 0, 1) := by decide +kernel
theorem dX7_isArc_3 : decode cX7_isArc 3 = .ok (.istore_n 3, 1) := by decide +kernel
theorem dX7_isArc_4 : decode cX7_isArc 4 = .ok (.iload_n 3, 1) := by decide +kernel
theorem dX7_isArc_5 : decode cX7_isArc 5 = .ok (.aload_n 0, 1) := by decide +kernel
theorem dX7_isArc_6 : decode cX7_isArc 6 = .ok (.getfield 83, 3) := by decide +kernel
theorem dX7_isArc_9 : decode cX7_isArc 9 = .ok (.if_icmp .ge 29, 3) := by decide +kernel
theorem dX7_isArc_12 : decode cX7_isArc 12 = .ok (.iload_n 2, 1) := by decide +kernel
theorem dX7_isArc_13 : decode cX7_isArc 13 = .ok (.ifCond .eq 25, 3) := by decide +kernel
theorem dX7_isArc_16 : decode cX7_isArc 16 = .ok (.aload_n 0, 1) := by decide +kernel
theorem dX7_isArc_17 : decode cX7_isArc 17 = .ok (.aload_n 1, 1) := by decide +kernel
theorem dX7_isArc_18 : decode cX7_isArc 18 = .ok (.iload_n 3, 1) := by decide +kernel
theorem dX7_isArc_19 : decode cX7_isArc 19 = .ok (.invokevirtual 128, 3) := by decide +kernel
theorem dX7_isArc_22 : decode cX7_isArc 22 = .ok (.iconst 3, 1) := by decide +kernel
theorem dX7_isArc_23 : decode cX7_isArc 23 = .ok (.if_icmp .ge 7, 3) := by decide +kernel
theorem dX7_isArc_26 : decode cX7_isArc 26 = .ok (.iconst 1, 1) := by decide +kernel
theorem dX7_isArc_27 : decode cX7_isArc 27 = .ok (.goto 4, 3) := by decide +kernel
theorem dX7_isArc_30 : decode cX7_isArc 30 = .ok (.iconst 0, 1) := by decide +kernel
theorem dX7_isArc_31 : decode cX7_isArc 31 = .ok (.istore_n 2, 1) := by decide +kernel
theorem dX7_isArc_32 : decode cX7_isArc 32 = .ok (.iinc 3 1, 3) := by decide +kernel
theorem dX7_isArc_35 : decode cX7_isArc 35 = .ok (.goto (-31), 3) := by decide +kernel
theorem dX7_isArc_38 : decode cX7_isArc 38 = .ok (.iload_n 2, 1) := by decide +kernel
theorem dX7_isArc_39 : decode cX7_isArc 39 = .ok (.ireturn, 1) := by decide +kernel
set_option maxRecDepth 20000 in
theorem ggX7_isBlocking_X7_met : GoodIn wsX7_isBlocking wsX7_met := goodIn_r _ [7, 1, 8, 9, 10, 6, 11, 12, 13, 14, 15, 16, 17, 18, 19, 20, 21, 22, 23, 24, 25, 26, 27, 28, 29, 30, 31, 32, 33, 34, 35, 36, 37, 38, 39, 40, 41, 42, 43, 44] (by decide +kernel) (by decide +kernel)
set_option maxRecDepth 20000 in
theorem gX7_isBlocking_X7_met : GoodIn wsX7_isBlocking (wsV RX7 128 RX7 yX7_met wsX7_met) := goodIn_app (goodIn_of _ (by decide +kernel)) ggX7_isBlocking_X7_met
theorem dX7_isBlocking_0 : decode cX7_isBlocking 0 = .ok (.iconst 1, 1) := by decide +kernel
theorem dX7_isBlocking_1 : decode cX7_isBlocking 1 = .ok (.istore_n 1, 1) := by decide +kernel
theorem dX7_isBlocking_2 : decode cX7_isBlocking 2 = .ok (.iconst 0, 1) := by decide +kernel
theorem dX7_isBlocking_3 : decode cX7_isBlocking 3 = .ok (.istore_n 2, 1) := by decide +kernel
theorem dX7_isBlocking_4 : decode cX7_isBlocking 4 = .ok (.iload_n 2, 1) := by decide +kernel
theorem dX7_isBlocking_5 : decode cX7_isBlocking 5 = .ok (.aload_n 0, 1) := by decide +kernel
theorem dX7_isBlocking_6 : decode cX7_isBlocking 6 = .ok (.getfield 83, 3) := by decide +kernel
theorem dX7_isBlocking_9 : decode cX7_isBlocking 9 = .ok (.if_icmp .ge 31, 3) := by decide +kernel
theorem dX7_isBlocking_12 : decode cX7_isBlocking 12 = .ok (.iload_n 1, 1) := by decide +kernel
theorem dX7_isBlocking_13 : decode cX7_isBlocking 13 = .ok (.ifCond .eq 27, 3) := by decide +kernel
theorem dX7_isBlocking_16 : decode cX7_isBlocking 16 = .ok (.aload_n 0, 1) := by decide +kernel
theorem dX7_isBlocking_17 : decode cX7_isBlocking 17 = .ok (.aload_n 0, 1) := by decide +kernel
theorem dX7_isBlocking_18 : decode cX7_isBlocking 18 = .ok (.getfield 25, 3) := by decide +kernel
theorem dX7_isBlocking_21 : decode cX7_isBlocking 21 = .ok (.iload_n 2, 1) := by decide +kernel
theorem dX7_isBlocking_22 : decode cX7_isBlocking 22 = .ok (.invokevirtual 128, 3) := by decide +kernel
theorem dX7_isBlocking_25 : decode cX7_isBlocking 25 = .ok (.ifCond .le 7, 3) := by decide +kernel
theorem dX7_isBlocking_28 : decode cX7_isBlocking 28 = .ok (.iconst 1, 1) := by decide +kernel
theorem dX7_isBlocking_29 : decode cX7_isBlocking 29 = .ok (.goto 4, 3) := by decide +kernel
theorem dX7_isBlocking_32 : decode cX7_isBlocking 32 = .ok (.iconst 0, 1) := by decide +kernel
theorem dX7_isBlocking_33 : decode cX7_isBlocking 33 = .ok (.istore_n 1, 1) := by decide +kernel
theorem dX7_isBlocking_34 : decode cX7_isBlocking 34 = .ok (.iinc 2 1, 3) := by decide +kernel
theorem dX7_isBlocking_37 : decode cX7_isBlocking 37 = .ok (.goto (-33), 3) := by decide +kernel
theorem dX7_isBlocking_40 : decode cX7_isBlocking 40 = .ok (.iload_n 1, 1) := by decide +kernel
theorem dX7_isBlocking_41 : decode cX7_isBlocking 41 = .ok (.ireturn, 1) := by decide +kernel
set_option maxRecDepth 20000 in
theorem ggX7_spares_X7_isBlocking : GoodIn wsX7_spares wsX7_isBlocking := goodIn_r _ [7, 1, 2, 8, 9, 10, 6, 11, 12, 13, 14, 15, 16, 17, 18, 19, 20, 21, 22, 23, 24, 25, 26, 27, 28, 29, 30, 31, 32, 33, 34, 35, 36, 37, 38, 39, 40, 41, 42, 43, 44, 45, 46, 47, 48] (by decide +kernel) (by decide +kernel)
set_option maxRecDepth 20000 in
theorem gX7_spares_X7_isBlocking : GoodIn wsX7_spares (wsV RX7 131 RX7 yX7_isBlocking wsX7_isBlocking) := goodIn_app (goodIn_of _ (by decide +kernel)) ggX7_spares_X7_isBlocking
theorem dX7_spares_0 : decode cX7_spares 0 = .ok (.iconst 0, 1) := by decide +kernel
theorem dX7_spares_1 : decode cX7_spares 1 = .ok (.istore_n 1, 1) := by decide +kernel
theorem dX7_spares_2 : decode cX7_spares 2 = .ok (.iconst 0, 1) := by decide +kernel
theorem dX7_spares_3 : decode cX7_spares 3 = .ok (.istore_n 2, 1) := by decide +kernel
theorem dX7_spares_4 : decode cX7_spares 4 = .ok (.iload_n 2, 1) := by decide +kernel
theorem dX7_spares_5 : decode cX7_spares 5 = .ok (.aload_n 0, 1) := by decide +kernel
theorem dX7_spares_6 : decode cX7_spares 6 = .ok (.getfield 83, 3) := by decide +kernel
theorem dX7_spares_9 : decode cX7_spares 9 = .ok (.if_icmp .ge 54, 3) := by decide +kernel
theorem dX7_spares_12 : decode cX7_spares 12 = .ok (.aload_n 0, 1) := by decide +kernel
theorem dX7_spares_13 : decode cX7_spares 13 = .ok (.invokevirtual 131, 3) := by decide +kernel
theorem dX7_spares_16 : decode cX7_spares 16 = .ok (.ifCond .eq 47, 3) := by decide +kernel
theorem dX7_spares_19 : decode cX7_spares 19 = .ok (.aload_n 0, 1) := by decide +kernel
theorem dX7_spares_20 : decode cX7_spares 20 = .ok (.getfield 25, 3) := by decide +kernel
theorem dX7_spares_23 : decode cX7_spares 23 = .ok (.iload_n 2, 1) := by decide +kernel
theorem dX7_spares_24 : decode cX7_spares 24 = .ok (.baload, 1) := by decide +kernel
theorem dX7_spares_25 : decode cX7_spares 25 = .ok (.ifCond .eq 32, 3) := by decide +kernel
theorem dX7_spares_28 : decode cX7_spares 28 = .ok (.aload_n 0, 1) := by decide +kernel
theorem dX7_spares_29 : decode cX7_spares 29 = .ok (.getfield 25, 3) := by decide +kernel
theorem dX7_spares_32 : decode cX7_spares 32 = .ok (.iload_n 2, 1) := by decide +kernel
theorem dX7_spares_33 : decode cX7_spares 33 = .ok (.iconst 0, 1) := by decide +kernel
theorem dX7_spares_34 : decode cX7_spares 34 = .ok (.bastore, 1) := by decide +kernel
theorem dX7_spares_35 : decode cX7_spares 35 = .ok (.aload_n 0, 1) := by decide +kernel
theorem dX7_spares_36 : decode cX7_spares 36 = .ok (.invokevirtual 131, 3) := by decide +kernel
theorem dX7_spares_39 : decode cX7_spares 39 = .ok (.ifCond .eq 9, 3) := by decide +kernel
theorem dX7_spares_42 : decode cX7_spares 42 = .ok (.iload_n 1, 1) := by decide +kernel
theorem dX7_spares_43 : decode cX7_spares 43 = .ok (.iconst 1, 1) := by decide +kernel
theorem dX7_spares_44 : decode cX7_spares 44 = .ok (.iadd, 1) := by decide +kernel
theorem dX7_spares_45 : decode cX7_spares 45 = .ok (.goto 4, 3) := by decide +kernel
theorem dX7_spares_48 : decode cX7_spares 48 = .ok (.iload_n 1, 1) := by decide +kernel
theorem dX7_spares_49 : decode cX7_spares 49 = .ok (.istore_n 1, 1) := by decide +kernel
theorem dX7_spares_50 : decode cX7_spares 50 = .ok (.aload_n 0, 1) := by decide +kernel
theorem dX7_spares_51 : decode cX7_spares 51 = .ok (.getfield 25, 3) := by decide +kernel
theorem dX7_spares_54 : decode cX7_spares 54 = .ok (.iload_n 2, 1) := by decide +kernel
theorem dX7_spares_55 : decode cX7_spares 55 = .ok (.iconst 1, 1) := by decide +kernel
theorem dX7_spares_56 : decode cX7_spares 56 = .ok (.bastore, 1) := by decide +kernel
theorem dX7_spares_57 : decode cX7_spares 57 = .ok (.iinc 2 1, 3) := by decide +kernel
theorem dX7_spares_60 : decode cX7_spares 60 = .ok (.goto (-56), 3) := by decide +kernel
theorem dX7_spares_63 : decode cX7_spares 63 = .ok (.iload_n 1, 1) := by decide +kernel
theorem dX7_spares_64 : decode cX7_spares 64 = .ok (.ireturn, 1) := by decide +kernel
set_option maxRecDepth 20000 in
theorem ggX7_comers_X7_isArc : GoodIn wsX7_comers wsX7_isArc := goodIn_r _ [7, 1, 8, 9, 10, 6, 11, 12, 13, 14, 15, 16, 17, 18, 19, 20, 21, 22, 23, 24, 25, 26, 27, 28, 29, 30, 31, 32, 33, 34, 35, 36, 37, 38, 39, 40, 41, 42, 43, 44, 45, 46, 47, 48] (by decide +kernel) (by decide +kernel)
set_option maxRecDepth 20000 in
theorem gX7_comers_X7_isArc : GoodIn wsX7_comers (wsV RX7 135 RX7 yX7_isArc wsX7_isArc) := goodIn_app (goodIn_of _ (by decide +kernel)) ggX7_comers_X7_isArc
theorem dX7_comers_0 : decode cX7_comers 0 = .ok (.iconst 0, 1) := by decide +kernel
theorem dX7_comers_1 : decode cX7_comers 1 = .ok (.istore_n 1, 1) := by decide +kernel
theorem dX7_comers_2 : decode cX7_comers 2 = .ok (.iconst 0, 1) := by decide +kernel
theorem dX7_comers_3 : decode cX7_comers 3 = .ok (.istore_n 2, 1) := by decide +kernel
theorem dX7_comers_4 : decode cX7_comers 4 = .ok (.iload_n 2, 1) := by decide +kernel
theorem dX7_comers_5 : decode cX7_comers 5 = .ok (.aload_n 0, 1) := by decide +kernel
theorem dX7_comers_6 : decode cX7_comers 6 = .ok (.getfield 83, 3) := by decide +kernel
theorem dX7_comers_9 : decode cX7_comers 9 = .ok (.if_icmp .ge 62, 3) := by decide +kernel
theorem dX7_comers_12 : decode cX7_comers 12 = .ok (.aload_n 0, 1) := by decide +kernel
theorem dX7_comers_13 : decode cX7_comers 13 = .ok (.aload_n 0, 1) := by decide +kernel
theorem dX7_comers_14 : decode cX7_comers 14 = .ok (.getfield 25, 3) := by decide +kernel
theorem dX7_comers_17 : decode cX7_comers 17 = .ok (.invokevirtual 135, 3) := by decide +kernel
theorem dX7_comers_20 : decode cX7_comers 20 = .ok (.ifCond .eq 51, 3) := by decide +kernel
theorem dX7_comers_23 : decode cX7_comers 23 = .ok (.aload_n 0, 1) := by decide +kernel
theorem dX7_comers_24 : decode cX7_comers 24 = .ok (.getfield 25, 3) := by decide +kernel
theorem dX7_comers_27 : decode cX7_comers 27 = .ok (.iload_n 2, 1) := by decide +kernel
theorem dX7_comers_28 : decode cX7_comers 28 = .ok (.baload, 1) := by decide +kernel
theorem dX7_comers_29 : decode cX7_comers 29 = .ok (.ifCond .ne 36, 3) := by decide +kernel
theorem dX7_comers_32 : decode cX7_comers 32 = .ok (.aload_n 0, 1) := by decide +kernel
theorem dX7_comers_33 : decode cX7_comers 33 = .ok (.getfield 25, 3) := by decide +kernel
theorem dX7_comers_36 : decode cX7_comers 36 = .ok (.iload_n 2, 1) := by decide +kernel
theorem dX7_comers_37 : decode cX7_comers 37 = .ok (.iconst 1, 1) := by decide +kernel
theorem dX7_comers_38 : decode cX7_comers 38 = .ok (.bastore, 1) := by decide +kernel
theorem dX7_comers_39 : decode cX7_comers 39 = .ok (.aload_n 0, 1) := by decide +kernel
theorem dX7_comers_40 : decode cX7_comers 40 = .ok (.aload_n 0, 1) := by decide +kernel
theorem dX7_comers_41 : decode cX7_comers 41 = .ok (.getfield 25, 3) := by decide +kernel
theorem dX7_comers_44 : decode cX7_comers 44 = .ok (.invokevirtual 135, 3) := by decide +kernel
theorem dX7_comers_47 : decode cX7_comers 47 = .ok (.ifCond .eq 9, 3) := by decide +kernel
theorem dX7_comers_50 : decode cX7_comers 50 = .ok (.iload_n 1, 1) := by decide +kernel
theorem dX7_comers_51 : decode cX7_comers 51 = .ok (.iconst 1, 1) := by decide +kernel
theorem dX7_comers_52 : decode cX7_comers 52 = .ok (.iadd, 1) := by decide +kernel
theorem dX7_comers_53 : decode cX7_comers 53 = .ok (.goto 4, 3) := by decide +kernel
theorem dX7_comers_56 : decode cX7_comers 56 = .ok (.iload_n 1, 1) := by decide +kernel
theorem dX7_comers_57 : decode cX7_comers 57 = .ok (.istore_n 1, 1) := by decide +kernel
theorem dX7_comers_58 : decode cX7_comers 58 = .ok (.aload_n 0, 1) := by decide +kernel
theorem dX7_comers_59 : decode cX7_comers 59 = .ok (.getfield 25, 3) := by decide +kernel
theorem dX7_comers_62 : decode cX7_comers 62 = .ok (.iload_n 2, 1) := by decide +kernel
theorem dX7_comers_63 : decode cX7_comers 63 = .ok (.iconst 0, 1) := by decide +kernel
theorem dX7_comers_64 : decode cX7_comers 64 = .ok (.bastore, 1) := by decide +kernel
theorem dX7_comers_65 : decode cX7_comers 65 = .ok (.iinc 2 1, 3) := by decide +kernel
theorem dX7_comers_68 : decode cX7_comers 68 = .ok (.goto (-64), 3) := by decide +kernel
theorem dX7_comers_71 : decode cX7_comers 71 = .ok (.iload_n 1, 1) := by decide +kernel
theorem dX7_comers_72 : decode cX7_comers 72 = .ok (.ireturn, 1) := by decide +kernel
set_option maxRecDepth 20000 in
theorem ggX7_close_X7_met : GoodIn wsX7_close wsX7_met := goodIn_r _ [8, 1, 9, 10, 11, 7, 12, 13, 14, 15, 16, 17, 18, 19, 20, 21, 22, 23, 24, 25, 30, 31, 32, 33, 34, 35, 36, 37, 38, 39, 40, 41, 42, 43, 44, 45, 46, 47, 48, 49] (by decide +kernel) (by decide +kernel)
set_option maxRecDepth 20000 in
theorem gX7_close_X7_met : GoodIn wsX7_close (wsV RX7 128 RX7 yX7_met wsX7_met) := goodIn_app (goodIn_of _ (by decide +kernel)) ggX7_close_X7_met
set_option maxRecDepth 20000 in
theorem ggX7_close_X7_joinOf : GoodIn wsX7_close wsX7_joinOf := goodIn_r _ [29, 9, 10, 11, 7, 12, 13, 14, 15, 16, 17, 18, 19, 20, 21, 22, 23, 24, 25, 30, 31, 32, 33, 34, 35, 36, 37, 38, 39, 40, 41, 42, 43, 44, 45, 46, 47, 48, 49] (by decide +kernel) (by decide +kernel)
set_option maxRecDepth 20000 in
theorem gX7_close_X7_joinOf : GoodIn wsX7_close (wsV RX7 121 RX7 yX7_joinOf wsX7_joinOf) := goodIn_app (goodIn_of _ (by decide +kernel)) ggX7_close_X7_joinOf
theorem dX7_close_0 : decode cX7_close 0 = .ok (.iconst 0, 1) := by decide +kernel
theorem dX7_close_1 : decode cX7_close 1 = .ok (.istore_n 1, 1) := by decide +kernel
theorem dX7_close_2 : decode cX7_close 2 = .ok (.iload_n 1, 1) := by decide +kernel
theorem dX7_close_3 : decode cX7_close 3 = .ok (.aload_n 0, 1) := by decide +kernel
theorem dX7_close_4 : decode cX7_close 4 = .ok (.getfield 83, 3) := by decide +kernel
theorem dX7_close_7 : decode cX7_close 7 = .ok (.if_icmp .ge 21, 3) := by decide +kernel
theorem dX7_close_10 : decode cX7_close 10 = .ok (.aload_n 0, 1) := by decide +kernel
theorem dX7_close_11 : decode cX7_close 11 = .ok (.getfield 32, 3) := by decide +kernel
theorem dX7_close_14 : decode cX7_close 14 = .ok (.iload_n 1, 1) := by decide +kernel
theorem dX7_close_15 : decode cX7_close 15 = .ok (.aload_n 0, 1) := by decide +kernel
theorem dX7_close_16 : decode cX7_close 16 = .ok (.getfield 25, 3) := by decide +kernel
theorem dX7_close_19 : decode cX7_close 19 = .ok (.iload_n 1, 1) := by decide +kernel
theorem dX7_close_20 : decode cX7_close 20 = .ok (.baload, 1) := by decide +kernel
theorem dX7_close_21 : decode cX7_close 21 = .ok (.bastore, 1) := by decide +kernel
theorem dX7_close_22 : decode cX7_close 22 = .ok (.iinc 1 1, 3) := by decide +kernel
theorem dX7_close_25 : decode cX7_close 25 = .ok (.goto (-23), 3) := by decide +kernel
theorem dX7_close_28 : decode cX7_close 28 = .ok (.iconst 1, 1) := by decide +kernel
theorem dX7_close_29 : decode cX7_close 29 = .ok (.istore_n 1, 1) := by decide +kernel
theorem dX7_close_30 : decode cX7_close 30 = .ok (.iload_n 1, 1) := by decide +kernel
theorem dX7_close_31 : decode cX7_close 31 = .ok (.ifCond .eq 99, 3) := by decide +kernel
theorem dX7_close_34 : decode cX7_close 34 = .ok (.iconst 0, 1) := by decide +kernel
theorem dX7_close_35 : decode cX7_close 35 = .ok (.istore_n 1, 1) := by decide +kernel
theorem dX7_close_36 : decode cX7_close 36 = .ok (.iconst 0, 1) := by decide +kernel
theorem dX7_close_37 : decode cX7_close 37 = .ok (.istore_n 2, 1) := by decide +kernel
theorem dX7_close_38 : decode cX7_close 38 = .ok (.iload_n 2, 1) := by decide +kernel
theorem dX7_close_39 : decode cX7_close 39 = .ok (.aload_n 0, 1) := by decide +kernel
theorem dX7_close_40 : decode cX7_close 40 = .ok (.getfield 83, 3) := by decide +kernel
theorem dX7_close_43 : decode cX7_close 43 = .ok (.if_icmp .ge 84, 3) := by decide +kernel
theorem dX7_close_46 : decode cX7_close 46 = .ok (.iconst 0, 1) := by decide +kernel
theorem dX7_close_47 : decode cX7_close 47 = .ok (.istore_n 3, 1) := by decide +kernel
theorem dX7_close_48 : decode cX7_close 48 = .ok (.iload_n 3, 1) := by decide +kernel
theorem dX7_close_49 : decode cX7_close 49 = .ok (.iload_n 2, 1) := by decide +kernel
theorem dX7_close_50 : decode cX7_close 50 = .ok (.if_icmp .ge 71, 3) := by decide +kernel
theorem dX7_close_53 : decode cX7_close 53 = .ok (.aload_n 0, 1) := by decide +kernel
theorem dX7_close_54 : decode cX7_close 54 = .ok (.aload_n 0, 1) := by decide +kernel
theorem dX7_close_55 : decode cX7_close 55 = .ok (.getfield 32, 3) := by decide +kernel
theorem dX7_close_58 : decode cX7_close 58 = .ok (.iload_n 2, 1) := by decide +kernel
theorem dX7_close_59 : decode cX7_close 59 = .ok (.invokevirtual 128, 3) := by decide +kernel
theorem dX7_close_62 : decode cX7_close 62 = .ok (.iconst 1, 1) := by decide +kernel
theorem dX7_close_63 : decode cX7_close 63 = .ok (.if_icmp .le 52, 3) := by decide +kernel
theorem dX7_close_66 : decode cX7_close 66 = .ok (.aload_n 0, 1) := by decide +kernel
theorem dX7_close_67 : decode cX7_close 67 = .ok (.aload_n 0, 1) := by decide +kernel
theorem dX7_close_68 : decode cX7_close 68 = .ok (.getfield 32, 3) := by decide +kernel
theorem dX7_close_71 : decode cX7_close 71 = .ok (.iload_n 3, 1) := by decide +kernel
theorem dX7_close_72 : decode cX7_close 72 = .ok (.invokevirtual 128, 3) := by decide +kernel
theorem dX7_close_75 : decode cX7_close 75 = .ok (.iconst 1, 1) := by decide +kernel
theorem dX7_close_76 : decode cX7_close 76 = .ok (.if_icmp .le 39, 3) := by decide +kernel
theorem dX7_close_79 : decode cX7_close 79 = .ok (.aload_n 0, 1) := by decide +kernel
theorem dX7_close_80 : decode cX7_close 80 = .ok (.iload_n 2, 1) := by decide +kernel
theorem dX7_close_81 : decode cX7_close 81 = .ok (.iload_n 3, 1) := by decide +kernel
theorem dX7_close_82 : decode cX7_close 82 = .ok (.invokevirtual 121, 3) := by decide +kernel
theorem dX7_close_85 : decode cX7_close 85 = .ok (.istore 4, 2) := by decide +kernel
theorem dX7_close_87 : decode cX7_close 87 = .ok (.iload_n 1, 1) := by decide +kernel
theorem dX7_close_88 : decode cX7_close 88 = .ok (.ifCond .ne 13, 3) := by decide +kernel
theorem dX7_close_91 : decode cX7_close 91 = .ok (.aload_n 0, 1) := by decide +kernel
theorem dX7_close_92 : decode cX7_close 92 = .ok (.getfield 32, 3) := by decide +kernel
theorem dX7_close_95 : decode cX7_close 95 = .ok (.iload 4, 2) := by decide +kernel
theorem dX7_close_97 : decode cX7_close 97 = .ok (.baload, 1) := by decide +kernel
theorem dX7_close_98 : decode cX7_close 98 = .ok (.ifCond .ne 7, 3) := by decide +kernel
theorem dX7_close_101 : decode cX7_close 101 = .ok (.iconst 1, 1) := by decide +kernel
theorem dX7_close_102 : decode cX7_close 102 = .ok (.goto 4, 3) := by decide +kernel
theorem dX7_close_105 : decode cX7_close 105 = .ok (.iconst 0, 1) := by decide +kernel
theorem dX7_close_106 : decode cX7_close 106 = .ok (.istore_n 1, 1) := by decide +kernel
theorem dX7_close_107 : decode cX7_close 107 = .ok (.aload_n 0, 1) := by decide +kernel
theorem dX7_close_108 : decode cX7_close 108 = .ok (.getfield 32, 3) := by decide +kernel
theorem dX7_close_111 : decode cX7_close 111 = .ok (.iload 4, 2) := by decide +kernel
theorem dX7_close_113 : decode cX7_close 113 = .ok (.iconst 1, 1) := by decide +kernel
theorem dX7_close_114 : decode cX7_close 114 = .ok (.bastore, 1) := by decide +kernel
theorem dX7_close_115 : decode cX7_close 115 = .ok (.iinc 3 1, 3) := by decide +kernel
theorem dX7_close_118 : decode cX7_close 118 = .ok (.goto (-70), 3) := by decide +kernel
theorem dX7_close_121 : decode cX7_close 121 = .ok (.iinc 2 1, 3) := by decide +kernel
theorem dX7_close_124 : decode cX7_close 124 = .ok (.goto (-86), 3) := by decide +kernel
theorem dX7_close_127 : decode cX7_close 127 = .ok (.goto (-97), 3) := by decide +kernel
theorem dX7_close_130 : decode cX7_close 130 = .ok (.return_, 1) := by decide +kernel
set_option maxRecDepth 20000 in
theorem ggX7_closure_X7_close : GoodIn wsX7_closure wsX7_close := goodIn_r _ [6, 7, 1, 8, 9, 10, 11, 5, 12, 13, 14, 15, 16, 17, 18, 19, 20, 21, 22, 23, 24, 25, 26, 27, 28, 29, 30, 31, 32, 33, 38, 39, 40, 41, 42, 43, 44, 45, 46, 47, 48, 49, 50, 51, 52, 53, 54, 55, 56, 57] (by decide +kernel) (by decide +kernel)
set_option maxRecDepth 20000 in
theorem gX7_closure_X7_close : GoodIn wsX7_closure (wsV RX7 139 RX7 yX7_close wsX7_close) := goodIn_app (goodIn_of _ (by decide +kernel)) ggX7_closure_X7_close
set_option maxRecDepth 20000 in
theorem ggX7_closure_X7_memberOf : GoodIn wsX7_closure wsX7_memberOf := goodIn_r _ [37, 7, 38, 39, 40, 41, 42, 43, 44, 45, 46, 47, 48, 49, 50, 51, 52, 53, 54, 55, 56, 57] (by decide +kernel) (by decide +kernel)
set_option maxRecDepth 20000 in
theorem gX7_closure_X7_memberOf : GoodIn wsX7_closure (wsV RX7 124 RX7 yX7_memberOf wsX7_memberOf) := goodIn_app (goodIn_of _ (by decide +kernel)) ggX7_closure_X7_memberOf
theorem dX7_closure_0 : decode cX7_closure 0 = .ok (.aload_n 0, 1) := by decide +kernel
theorem dX7_closure_1 : decode cX7_closure 1 = .ok (.invokevirtual 139, 3) := by decide +kernel
theorem dX7_closure_4 : decode cX7_closure 4 = .ok (.aload_n 0, 1) := by decide +kernel
theorem dX7_closure_5 : decode cX7_closure 5 = .ok (.aload_n 0, 1) := by decide +kernel
theorem dX7_closure_6 : decode cX7_closure 6 = .ok (.getfield 32, 3) := by decide +kernel
theorem dX7_closure_9 : decode cX7_closure 9 = .ok (.iload_n 1, 1) := by decide +kernel
theorem dX7_closure_10 : decode cX7_closure 10 = .ok (.invokevirtual 124, 3) := by decide +kernel
theorem dX7_closure_13 : decode cX7_closure 13 = .ok (.ireturn, 1) := by decide +kernel
set_option maxRecDepth 20000 in
theorem ggX7_meets_X7_met : GoodIn wsX7_meets wsX7_met := goodIn_r _ [7, 1, 8, 9, 10, 6, 11, 12, 13, 14, 15, 16, 17, 18, 19, 20, 21, 22, 23, 24, 25, 26, 27, 28, 29, 30, 31, 32, 33, 34, 35, 36, 37, 38, 39, 40, 41, 42, 43, 44] (by decide +kernel) (by decide +kernel)
set_option maxRecDepth 20000 in
theorem gX7_meets_X7_met : GoodIn wsX7_meets (wsV RX7 128 RX7 yX7_met wsX7_met) := goodIn_app (goodIn_of _ (by decide +kernel)) ggX7_meets_X7_met
theorem dX7_meets_0 : decode cX7_meets 0 = .ok (.iconst 0, 1) := by decide +kernel
theorem dX7_meets_1 : decode cX7_meets 1 = .ok (.istore_n 2, 1) := by decide +kernel
theorem dX7_meets_2 : decode cX7_meets 2 = .ok (.iconst 0, 1) := by decide +kernel
theorem dX7_meets_3 : decode cX7_meets 3 = .ok (.istore_n 3, 1) := by decide +kernel
theorem dX7_meets_4 : decode cX7_meets 4 = .ok (.iload_n 3, 1) := by decide +kernel
theorem dX7_meets_5 : decode cX7_meets 5 = .ok (.aload_n 0, 1) := by decide +kernel
theorem dX7_meets_6 : decode cX7_meets 6 = .ok (.getfield 83, 3) := by decide +kernel
theorem dX7_meets_9 : decode cX7_meets 9 = .ok (.if_icmp .ge 30, 3) := by decide +kernel
theorem dX7_meets_12 : decode cX7_meets 12 = .ok (.aload_n 0, 1) := by decide +kernel
theorem dX7_meets_13 : decode cX7_meets 13 = .ok (.aload_n 0, 1) := by decide +kernel
theorem dX7_meets_14 : decode cX7_meets 14 = .ok (.getfield 25, 3) := by decide +kernel
theorem dX7_meets_17 : decode cX7_meets 17 = .ok (.iload_n 3, 1) := by decide +kernel
theorem dX7_meets_18 : decode cX7_meets 18 = .ok (.invokevirtual 128, 3) := by decide +kernel
theorem dX7_meets_21 : decode cX7_meets 21 = .ok (.iload_n 1, 1) := by decide +kernel
theorem dX7_meets_22 : decode cX7_meets 22 = .ok (.if_icmp .ne 9, 3) := by decide +kernel
theorem dX7_meets_25 : decode cX7_meets 25 = .ok (.iload_n 2, 1) := by decide +kernel
theorem dX7_meets_26 : decode cX7_meets 26 = .ok (.iconst 1, 1) := by decide +kernel
theorem dX7_meets_27 : decode cX7_meets 27 = .ok (.iadd, 1) := by decide +kernel
theorem dX7_meets_28 : decode cX7_meets 28 = .ok (.goto 4, 3) := by decide +kernel
theorem dX7_meets_31 : decode cX7_meets 31 = .ok (.iload_n 2, 1) := by decide +kernel
theorem dX7_meets_32 : decode cX7_meets 32 = .ok (.istore_n 2, 1) := by decide +kernel
theorem dX7_meets_33 : decode cX7_meets 33 = .ok (.iinc 3 1, 3) := by decide +kernel
theorem dX7_meets_36 : decode cX7_meets 36 = .ok (.goto (-32), 3) := by decide +kernel
theorem dX7_meets_39 : decode cX7_meets 39 = .ok (.iload_n 2, 1) := by decide +kernel
theorem dX7_meets_40 : decode cX7_meets 40 = .ok (.ireturn, 1) := by decide +kernel
set_option maxRecDepth 20000 in
theorem ggX7_is_X7_isArc : GoodIn wsX7_is wsX7_isArc := goodIn_r _ [7, 8, 9, 10, 11, 6, 12, 13, 14, 15, 16, 17, 18, 19, 20, 21, 22, 23, 24, 25, 26, 27, 28, 29, 50, 51, 52, 53, 54, 55, 56, 57, 58, 59, 60, 61, 62, 63, 64, 65, 66, 67, 68, 69] (by decide +kernel) (by decide +kernel)
set_option maxRecDepth 20000 in
theorem gX7_is_X7_isArc : GoodIn wsX7_is (wsV RX7 135 RX7 yX7_isArc wsX7_isArc) := goodIn_app (goodIn_of _ (by decide +kernel)) ggX7_is_X7_isArc
set_option maxRecDepth 20000 in
theorem ggX7_is_X7_comers : GoodIn wsX7_is wsX7_comers := goodIn_r _ [33, 8, 1, 3, 4, 5, 6, 7, 9, 10, 11, 12, 13, 14, 15, 16, 17, 18, 19, 20, 21, 22, 23, 24, 25, 26, 27, 28, 29, 50, 51, 52, 53, 54, 55, 56, 57, 58, 59, 60, 61, 62, 63, 64, 65, 66, 67, 68, 69] (by decide +kernel) (by decide +kernel)
set_option maxRecDepth 20000 in
theorem gX7_is_X7_comers : GoodIn wsX7_is (wsV RX7 142 RX7 yX7_comers wsX7_comers) := goodIn_app (goodIn_of _ (by decide +kernel)) ggX7_is_X7_comers
set_option maxRecDepth 20000 in
theorem ggX7_is_X7_isBlocking : GoodIn wsX7_is wsX7_isBlocking := goodIn_r _ [37, 8, 1, 9, 10, 11, 6, 12, 13, 14, 15, 16, 17, 18, 19, 20, 21, 22, 23, 24, 25, 26, 27, 28, 29, 50, 51, 52, 53, 54, 55, 56, 57, 58, 59, 60, 61, 62, 63, 64, 65, 66, 67, 68, 69] (by decide +kernel) (by decide +kernel)
set_option maxRecDepth 20000 in
theorem gX7_is_X7_isBlocking : GoodIn wsX7_is (wsV RX7 131 RX7 yX7_isBlocking wsX7_isBlocking) := goodIn_app (goodIn_of _ (by decide +kernel)) ggX7_is_X7_isBlocking
set_option maxRecDepth 20000 in
theorem ggX7_is_X7_close : GoodIn wsX7_is wsX7_close := goodIn_r _ [41, 8, 2, 1, 9, 10, 11, 6, 12, 13, 14, 15, 16, 17, 18, 19, 20, 21, 22, 23, 24, 25, 26, 27, 28, 29, 42, 43, 44, 45, 50, 51, 52, 53, 54, 55, 56, 57, 58, 59, 60, 61, 62, 63, 64, 65, 66, 67, 68, 69] (by decide +kernel) (by decide +kernel)
set_option maxRecDepth 20000 in
theorem gX7_is_X7_close : GoodIn wsX7_is (wsV RX7 139 RX7 yX7_close wsX7_close) := goodIn_app (goodIn_of _ (by decide +kernel)) ggX7_is_X7_close
set_option maxRecDepth 20000 in
theorem ggX7_is_X7_sizeOf : GoodIn wsX7_is wsX7_sizeOf := goodIn_r _ [49, 8, 50, 51, 52, 53, 54, 55, 56, 57, 58, 59, 60, 61, 62, 63, 64, 65, 66, 67, 68, 69] (by decide +kernel) (by decide +kernel)
set_option maxRecDepth 20000 in
theorem gX7_is_X7_sizeOf : GoodIn wsX7_is (wsV RX7 146 RX7 yX7_sizeOf wsX7_sizeOf) := goodIn_app (goodIn_of _ (by decide +kernel)) ggX7_is_X7_sizeOf
theorem dX7_is_0 : decode cX7_is 0 = .ok (.iload_n 1, 1) := by decide +kernel
theorem dX7_is_1 : decode cX7_is 1 = .ok (.tableswitch 114 0 3 #[31, 48, 72, 85], 31) := by decide +kernel
theorem dX7_is_32 : decode cX7_is 32 = .ok (.aload_n 0, 1) := by decide +kernel
theorem dX7_is_33 : decode cX7_is 33 = .ok (.aload_n 0, 1) := by decide +kernel
theorem dX7_is_34 : decode cX7_is 34 = .ok (.getfield 25, 3) := by decide +kernel
theorem dX7_is_37 : decode cX7_is 37 = .ok (.invokevirtual 135, 3) := by decide +kernel
theorem dX7_is_40 : decode cX7_is 40 = .ok (.ifCond .eq 7, 3) := by decide +kernel
theorem dX7_is_43 : decode cX7_is 43 = .ok (.iconst 1, 1) := by decide +kernel
theorem dX7_is_44 : decode cX7_is 44 = .ok (.goto 4, 3) := by decide +kernel
theorem dX7_is_47 : decode cX7_is 47 = .ok (.iconst 0, 1) := by decide +kernel
theorem dX7_is_48 : decode cX7_is 48 = .ok (.ireturn, 1) := by decide +kernel
theorem dX7_is_49 : decode cX7_is 49 = .ok (.aload_n 0, 1) := by decide +kernel
theorem dX7_is_50 : decode cX7_is 50 = .ok (.aload_n 0, 1) := by decide +kernel
theorem dX7_is_51 : decode cX7_is 51 = .ok (.getfield 25, 3) := by decide +kernel
theorem dX7_is_54 : decode cX7_is 54 = .ok (.invokevirtual 135, 3) := by decide +kernel
theorem dX7_is_57 : decode cX7_is 57 = .ok (.ifCond .eq 14, 3) := by decide +kernel
theorem dX7_is_60 : decode cX7_is 60 = .ok (.aload_n 0, 1) := by decide +kernel
theorem dX7_is_61 : decode cX7_is 61 = .ok (.invokevirtual 142, 3) := by decide +kernel
theorem dX7_is_64 : decode cX7_is 64 = .ok (.ifCond .ne 7, 3) := by decide +kernel
theorem dX7_is_67 : decode cX7_is 67 = .ok (.iconst 1, 1) := by decide +kernel
theorem dX7_is_68 : decode cX7_is 68 = .ok (.goto 4, 3) := by decide +kernel
theorem dX7_is_71 : decode cX7_is 71 = .ok (.iconst 0, 1) := by decide +kernel
theorem dX7_is_72 : decode cX7_is 72 = .ok (.ireturn, 1) := by decide +kernel
theorem dX7_is_73 : decode cX7_is 73 = .ok (.aload_n 0, 1) := by decide +kernel
theorem dX7_is_74 : decode cX7_is 74 = .ok (.invokevirtual 131, 3) := by decide +kernel
theorem dX7_is_77 : decode cX7_is 77 = .ok (.ifCond .eq 7, 3) := by decide +kernel
theorem dX7_is_80 : decode cX7_is 80 = .ok (.iconst 1, 1) := by decide +kernel
theorem dX7_is_81 : decode cX7_is 81 = .ok (.goto 4, 3) := by decide +kernel
theorem dX7_is_84 : decode cX7_is 84 = .ok (.iconst 0, 1) := by decide +kernel
theorem dX7_is_85 : decode cX7_is 85 = .ok (.ireturn, 1) := by decide +kernel
theorem dX7_is_86 : decode cX7_is 86 = .ok (.aload_n 0, 1) := by decide +kernel
theorem dX7_is_87 : decode cX7_is 87 = .ok (.invokevirtual 139, 3) := by decide +kernel
theorem dX7_is_90 : decode cX7_is 90 = .ok (.aload_n 0, 1) := by decide +kernel
theorem dX7_is_91 : decode cX7_is 91 = .ok (.aload_n 0, 1) := by decide +kernel
theorem dX7_is_92 : decode cX7_is 92 = .ok (.getfield 32, 3) := by decide +kernel
theorem dX7_is_95 : decode cX7_is 95 = .ok (.invokevirtual 146, 3) := by decide +kernel
theorem dX7_is_98 : decode cX7_is 98 = .ok (.aload_n 0, 1) := by decide +kernel
theorem dX7_is_99 : decode cX7_is 99 = .ok (.aload_n 0, 1) := by decide +kernel
theorem dX7_is_100 : decode cX7_is 100 = .ok (.getfield 25, 3) := by decide +kernel
theorem dX7_is_103 : decode cX7_is 103 = .ok (.invokevirtual 146, 3) := by decide +kernel
theorem dX7_is_106 : decode cX7_is 106 = .ok (.if_icmp .ne 7, 3) := by decide +kernel
theorem dX7_is_109 : decode cX7_is 109 = .ok (.iconst 1, 1) := by decide +kernel
theorem dX7_is_110 : decode cX7_is 110 = .ok (.goto 4, 3) := by decide +kernel
