theorem dX8_init_0 : decode cX8_init 0 = .ok (.aload_n 0, 1) := by decide +kernel
theorem dX8_init_1 : decode cX8_init 1 = .ok (.invokespecial 1, 3) := by decide +kernel
theorem dX8_init_4 : decode cX8_init 4 = .ok (.aload_n 0, 1) := by decide +kernel
theorem dX8_init_5 : decode cX8_init 5 = .ok (.iconst 5, 1) := by decide +kernel
theorem dX8_init_6 : decode cX8_init 6 = .ok (.newarray .int, 2) := by decide +kernel
theorem dX8_init_8 : decode cX8_init 8 = .ok (.putfield 7, 3) := by decide +kernel
theorem dX8_init_11 : decode cX8_init 11 = .ok (.aload_n 0, 1) := by decide +kernel
theorem dX8_init_12 : decode cX8_init 12 = .ok (.iconst 1, 1) := by decide +kernel
theorem dX8_init_13 : decode cX8_init 13 = .ok (.putfield 13, 3) := by decide +kernel
theorem dX8_init_16 : decode cX8_init 16 = .ok (.aload_n 0, 1) := by decide +kernel
theorem dX8_init_17 : decode cX8_init 17 = .ok (.iconst 1, 1) := by decide +kernel
theorem dX8_init_18 : decode cX8_init 18 = .ok (.putfield 17, 3) := by decide +kernel
theorem dX8_init_21 : decode cX8_init 21 = .ok (.aload_n 0, 1) := by decide +kernel
theorem dX8_init_22 : decode cX8_init 22 = .ok (.sipush 400, 3) := by decide +kernel
theorem dX8_init_25 : decode cX8_init 25 = .ok (.newarray .int, 2) := by decide +kernel
theorem dX8_init_27 : decode cX8_init 27 = .ok (.putfield 20, 3) := by decide +kernel
theorem dX8_init_30 : decode cX8_init 30 = .ok (.aload_n 0, 1) := by decide +kernel
theorem dX8_init_31 : decode cX8_init 31 = .ok (.bipush 20, 2) := by decide +kernel
theorem dX8_init_33 : decode cX8_init 33 = .ok (.newarray .int, 2) := by decide +kernel
theorem dX8_init_35 : decode cX8_init 35 = .ok (.putfield 23, 3) := by decide +kernel
theorem dX8_init_38 : decode cX8_init 38 = .ok (.aload_n 0, 1) := by decide +kernel
theorem dX8_init_39 : decode cX8_init 39 = .ok (.bipush 20, 2) := by decide +kernel
theorem dX8_init_41 : decode cX8_init 41 = .ok (.newarray .int, 2) := by decide +kernel
theorem dX8_init_43 : decode cX8_init 43 = .ok (.putfield 26, 3) := by decide +kernel
theorem dX8_init_46 : decode cX8_init 46 = .ok (.aload_n 0, 1) := by decide +kernel
theorem dX8_init_47 : decode cX8_init 47 = .ok (.bipush 20, 2) := by decide +kernel
theorem dX8_init_49 : decode cX8_init 49 = .ok (.newarray .int, 2) := by decide +kernel
theorem dX8_init_51 : decode cX8_init 51 = .ok (.putfield 29, 3) := by decide +kernel
theorem dX8_init_54 : decode cX8_init 54 = .ok (.aload_n 0, 1) := by decide +kernel
theorem dX8_init_55 : decode cX8_init 55 = .ok (.sipush 8000, 3) := by decide +kernel
theorem dX8_init_58 : decode cX8_init 58 = .ok (.newarray .int, 2) := by decide +kernel
theorem dX8_init_60 : decode cX8_init 60 = .ok (.putfield 32, 3) := by decide +kernel
theorem dX8_init_63 : decode cX8_init 63 = .ok (.aload_n 0, 1) := by decide +kernel
theorem dX8_init_64 : decode cX8_init 64 = .ok (.bipush 6, 2) := by decide +kernel
theorem dX8_init_66 : decode cX8_init 66 = .ok (.newarray .int, 2) := by decide +kernel
theorem dX8_init_68 : decode cX8_init 68 = .ok (.putfield 35, 3) := by decide +kernel
theorem dX8_init_71 : decode cX8_init 71 = .ok (.aload_n 0, 1) := by decide +kernel
theorem dX8_init_72 : decode cX8_init 72 = .ok (.bipush 6, 2) := by decide +kernel
theorem dX8_init_74 : decode cX8_init 74 = .ok (.newarray .int, 2) := by decide +kernel
theorem dX8_init_76 : decode cX8_init 76 = .ok (.putfield 38, 3) := by decide +kernel
theorem dX8_init_79 : decode cX8_init 79 = .ok (.aload_n 0, 1) := by decide +kernel
theorem dX8_init_80 : decode cX8_init 80 = .ok (.bipush 6, 2) := by decide +kernel
theorem dX8_init_82 : decode cX8_init 82 = .ok (.newarray .int, 2) := by decide +kernel
theorem dX8_init_84 : decode cX8_init 84 = .ok (.putfield 41, 3) := by decide +kernel
theorem dX8_init_87 : decode cX8_init 87 = .ok (.aload_n 0, 1) := by decide +kernel
theorem dX8_init_88 : decode cX8_init 88 = .ok (.sipush 400, 3) := by decide +kernel
theorem dX8_init_91 : decode cX8_init 91 = .ok (.newarray .int, 2) := by decide +kernel
theorem dX8_init_93 : decode cX8_init 93 = .ok (.putfield 44, 3) := by decide +kernel
theorem dX8_init_96 : decode cX8_init 96 = .ok (.aload_n 0, 1) := by decide +kernel
theorem dX8_init_97 : decode cX8_init 97 = .ok (.sipush 1764, 3) := by decide +kernel
theorem dX8_init_100 : decode cX8_init 100 = .ok (.newarray .int, 2) := by decide +kernel
theorem dX8_init_102 : decode cX8_init 102 = .ok (.putfield 47, 3) := by decide +kernel
theorem dX8_init_105 : decode cX8_init 105 = .ok (.aload_n 0, 1) := by decide +kernel
theorem dX8_init_106 : decode cX8_init 106 = .ok (.sipush 441, 3) := by decide +kernel
theorem dX8_init_109 : decode cX8_init 109 = .ok (.newarray .int, 2) := by decide +kernel
theorem dX8_init_111 : decode cX8_init 111 = .ok (.putfield 50, 3) := by decide +kernel
theorem dX8_init_114 : decode cX8_init 114 = .ok (.aload_n 0, 1) := by decide +kernel
theorem dX8_init_115 : decode cX8_init 115 = .ok (.sipush 441, 3) := by decide +kernel
theorem dX8_init_118 : decode cX8_init 118 = .ok (.newarray .int, 2) := by decide +kernel
theorem dX8_init_120 : decode cX8_init 120 = .ok (.putfield 53, 3) := by decide +kernel
theorem dX8_init_123 : decode cX8_init 123 = .ok (.aload_n 0, 1) := by decide +kernel
theorem dX8_init_124 : decode cX8_init 124 = .ok (.sipush 1764, 3) := by decide +kernel
theorem dX8_init_127 : decode cX8_init 127 = .ok (.newarray .int, 2) := by decide +kernel
theorem dX8_init_129 : decode cX8_init 129 = .ok (.putfield 56, 3) := by decide +kernel
theorem dX8_init_132 : decode cX8_init 132 = .ok (.aload_n 0, 1) := by decide +kernel
theorem dX8_init_133 : decode cX8_init 133 = .ok (.sipush 1764, 3) := by decide +kernel
theorem dX8_init_136 : decode cX8_init 136 = .ok (.newarray .int, 2) := by decide +kernel
theorem dX8_init_138 : decode cX8_init 138 = .ok (.putfield 59, 3) := by decide +kernel
theorem dX8_init_141 : decode cX8_init 141 = .ok (.aload_n 0, 1) := by decide +kernel
theorem dX8_init_142 : decode cX8_init 142 = .ok (.sipush 1764, 3) := by decide +kernel
theorem dX8_init_145 : decode cX8_init 145 = .ok (.newarray .boolean, 2) := by decide +kernel
theorem dX8_init_147 : decode cX8_init 147 = .ok (.putfield 62, 3) := by decide +kernel
theorem dX8_init_150 : decode cX8_init 150 = .ok (.aload_n 0, 1) := by decide +kernel
theorem dX8_init_151 : decode cX8_init 151 = .ok (.sipush 1764, 3) := by decide +kernel
theorem dX8_init_154 : decode cX8_init 154 = .ok (.newarray .int, 2) := by decide +kernel
theorem dX8_init_156 : decode cX8_init 156 = .ok (.putfield 66, 3) := by decide +kernel
theorem dX8_init_159 : decode cX8_init 159 = .ok (.aload_n 0, 1) := by decide +kernel
theorem dX8_init_160 : decode cX8_init 160 = .ok (.sipush 1800, 3) := by decide +kernel
theorem dX8_init_163 : decode cX8_init 163 = .ok (.newarray .int, 2) := by decide +kernel
theorem dX8_init_165 : decode cX8_init 165 = .ok (.putfield 69, 3) := by decide +kernel
theorem dX8_init_168 : decode cX8_init 168 = .ok (.aload_n 0, 1) := by decide +kernel
theorem dX8_init_169 : decode cX8_init 169 = .ok (.bipush (-9), 2) := by decide +kernel
theorem dX8_init_171 : decode cX8_init 171 = .ok (.putfield 72, 3) := by decide +kernel
theorem dX8_init_174 : decode cX8_init 174 = .ok (.aload_n 0, 1) := by decide +kernel
theorem dX8_init_175 : decode cX8_init 175 = .ok (.sipush 200, 3) := by decide +kernel
theorem dX8_init_178 : decode cX8_init 178 = .ok (.newarray .int, 2) := by decide +kernel
theorem dX8_init_180 : decode cX8_init 180 = .ok (.putfield 75, 3) := by decide +kernel
theorem dX8_init_183 : decode cX8_init 183 = .ok (.return_, 1) := by decide +kernel
theorem dX8_in_0 : decode cX8_in 0 = .ok (.iload_n 0, 1) := by decide +kernel
theorem dX8_in_1 : decode cX8_in 1 = .ok (.iload_n 1, 1) := by decide +kernel
theorem dX8_in_2 : decode cX8_in 2 = .ok (.if_icmp .lt 12, 3) := by decide +kernel
theorem dX8_in_5 : decode cX8_in 5 = .ok (.iload_n 0, 1) := by decide +kernel
theorem dX8_in_6 : decode cX8_in 6 = .ok (.iload_n 2, 1) := by decide +kernel
theorem dX8_in_7 : decode cX8_in 7 = .ok (.if_icmp .gt 7, 3) := by decide +kernel
theorem dX8_in_10 : decode cX8_in 10 = .ok (.iconst 1, 1) := by decide +kernel
theorem dX8_in_11 : decode cX8_in 11 = .ok (.goto 4, 3) := by decide +kernel
theorem dX8_in_14 : decode cX8_in 14 = .ok (.iconst 0, 1) := by decide +kernel
theorem dX8_in_15 : decode cX8_in 15 = .ok (.ireturn, 1) := by decide +kernel
theorem dX8_meets_0 : decode cX8_meets 0 = .ok (.aload_n 0, 1) := by decide +kernel
theorem dX8_meets_1 : decode cX8_meets 1 = .ok (.iload_n 1, 1) := by decide +kernel
theorem dX8_meets_2 : decode cX8_meets 2 = .ok (.putfield 78, 3) := by decide +kernel
theorem dX8_meets_5 : decode cX8_meets 5 = .ok (.aload_n 0, 1) := by decide +kernel
theorem dX8_meets_6 : decode cX8_meets 6 = .ok (.getfield 7, 3) := by decide +kernel
theorem dX8_meets_9 : decode cX8_meets 9 = .ok (.iload_n 1, 1) := by decide +kernel
theorem dX8_meets_10 : decode cX8_meets 10 = .ok (.dup2, 1) := by decide +kernel
theorem dX8_meets_11 : decode cX8_meets 11 = .ok (.iaload, 1) := by decide +kernel
theorem dX8_meets_12 : decode cX8_meets 12 = .ok (.iconst 1, 1) := by decide +kernel
theorem dX8_meets_13 : decode cX8_meets 13 = .ok (.iadd, 1) := by decide +kernel
theorem dX8_meets_14 : decode cX8_meets 14 = .ok (.iastore, 1) := by decide +kernel
theorem dX8_meets_15 : decode cX8_meets 15 = .ok (.bipush (-3), 2) := by decide +kernel
theorem dX8_meets_17 : decode cX8_meets 17 = .ok (.ireturn, 1) := by decide +kernel
set_option maxRecDepth 20000 in
theorem ggX8_house_X8_in : GoodIn wsX8_house wsX8_in := goodIn_r _ [12] (by decide +kernel) (by decide +kernel)
set_option maxRecDepth 20000 in
theorem gX8_house_X8_in : GoodIn wsX8_house (va_wsS RX8 81 yX8_in wsX8_in) := goodIn_app (goodIn_of _ (by decide +kernel)) ggX8_house_X8_in
theorem dX8_house_0 : decode cX8_house 0 = .ok (.iload_n 1, 1) := by decide +kernel
theorem dX8_house_1 : decode cX8_house 1 = .ok (.iconst 1, 1) := by decide +kernel
theorem dX8_house_2 : decode cX8_house 2 = .ok (.bipush 20, 2) := by decide +kernel
theorem dX8_house_4 : decode cX8_house 4 = .ok (.invokestatic 81, 3) := by decide +kernel
theorem dX8_house_7 : decode cX8_house 7 = .ok (.ifCond .eq 13, 3) := by decide +kernel
theorem dX8_house_10 : decode cX8_house 10 = .ok (.iload_n 2, 1) := by decide +kernel
theorem dX8_house_11 : decode cX8_house 11 = .ok (.iconst 1, 1) := by decide +kernel
theorem dX8_house_12 : decode cX8_house 12 = .ok (.bipush 20, 2) := by decide +kernel
theorem dX8_house_14 : decode cX8_house 14 = .ok (.invokestatic 81, 3) := by decide +kernel
theorem dX8_house_17 : decode cX8_house 17 = .ok (.ifCond .ne 5, 3) := by decide +kernel
theorem dX8_house_20 : decode cX8_house 20 = .ok (.iconst (-1), 1) := by decide +kernel
theorem dX8_house_21 : decode cX8_house 21 = .ok (.ireturn, 1) := by decide +kernel
theorem dX8_house_22 : decode cX8_house 22 = .ok (.aload_n 0, 1) := by decide +kernel
theorem dX8_house_23 : decode cX8_house 23 = .ok (.iload_n 1, 1) := by decide +kernel
theorem dX8_house_24 : decode cX8_house 24 = .ok (.putfield 13, 3) := by decide +kernel
theorem dX8_house_27 : decode cX8_house 27 = .ok (.aload_n 0, 1) := by decide +kernel
theorem dX8_house_28 : decode cX8_house 28 = .ok (.iload_n 2, 1) := by decide +kernel
theorem dX8_house_29 : decode cX8_house 29 = .ok (.putfield 17, 3) := by decide +kernel
theorem dX8_house_32 : decode cX8_house 32 = .ok (.aload_n 0, 1) := by decide +kernel
theorem dX8_house_33 : decode cX8_house 33 = .ok (.iconst 0, 1) := by decide +kernel
theorem dX8_house_34 : decode cX8_house 34 = .ok (.putfield 85, 3) := by decide +kernel
theorem dX8_house_37 : decode cX8_house 37 = .ok (.aload_n 0, 1) := by decide +kernel
theorem dX8_house_38 : decode cX8_house 38 = .ok (.iconst 0, 1) := by decide +kernel
theorem dX8_house_39 : decode cX8_house 39 = .ok (.putfield 88, 3) := by decide +kernel
theorem dX8_house_42 : decode cX8_house 42 = .ok (.aload_n 0, 1) := by decide +kernel
theorem dX8_house_43 : decode cX8_house 43 = .ok (.iconst 0, 1) := by decide +kernel
theorem dX8_house_44 : decode cX8_house 44 = .ok (.putfield 91, 3) := by decide +kernel
theorem dX8_house_47 : decode cX8_house 47 = .ok (.aload_n 0, 1) := by decide +kernel
theorem dX8_house_48 : decode cX8_house 48 = .ok (.iconst 0, 1) := by decide +kernel
theorem dX8_house_49 : decode cX8_house 49 = .ok (.putfield 94, 3) := by decide +kernel
theorem dX8_house_52 : decode cX8_house 52 = .ok (.iconst 0, 1) := by decide +kernel
theorem dX8_house_53 : decode cX8_house 53 = .ok (.istore_n 3, 1) := by decide +kernel
theorem dX8_house_54 : decode cX8_house 54 = .ok (.iload_n 3, 1) := by decide +kernel
theorem dX8_house_55 : decode cX8_house 55 = .ok (.sipush 400, 3) := by decide +kernel
theorem dX8_house_58 : decode cX8_house 58 = .ok (.if_icmp .ge 16, 3) := by decide +kernel
theorem dX8_house_61 : decode cX8_house 61 = .ok (.aload_n 0, 1) := by decide +kernel
theorem dX8_house_62 : decode cX8_house 62 = .ok (.getfield 20, 3) := by decide +kernel
theorem dX8_house_65 : decode cX8_house 65 = .ok (.iload_n 3, 1) := by decide +kernel
theorem dX8_house_66 : decode cX8_house 66 = .ok (.iconst 0, 1) := by decide +kernel
theorem dX8_house_67 : decode cX8_house 67 = .ok (.iastore, 1) := by decide +kernel
theorem dX8_house_68 : decode cX8_house 68 = .ok (.iinc 3 1, 3) := by decide +kernel
theorem dX8_house_71 : decode cX8_house 71 = .ok (.goto (-17), 3) := by decide +kernel
theorem dX8_house_74 : decode cX8_house 74 = .ok (.iconst 0, 1) := by decide +kernel
theorem dX8_house_75 : decode cX8_house 75 = .ok (.istore_n 3, 1) := by decide +kernel
theorem dX8_house_76 : decode cX8_house 76 = .ok (.iload_n 3, 1) := by decide +kernel
theorem dX8_house_77 : decode cX8_house 77 = .ok (.bipush 6, 2) := by decide +kernel
theorem dX8_house_79 : decode cX8_house 79 = .ok (.if_icmp .ge 16, 3) := by decide +kernel
theorem dX8_house_82 : decode cX8_house 82 = .ok (.aload_n 0, 1) := by decide +kernel
theorem dX8_house_83 : decode cX8_house 83 = .ok (.getfield 35, 3) := by decide +kernel
theorem dX8_house_86 : decode cX8_house 86 = .ok (.iload_n 3, 1) := by decide +kernel
theorem dX8_house_87 : decode cX8_house 87 = .ok (.iconst 0, 1) := by decide +kernel
theorem dX8_house_88 : decode cX8_house 88 = .ok (.iastore, 1) := by decide +kernel
theorem dX8_house_89 : decode cX8_house 89 = .ok (.iinc 3 1, 3) := by decide +kernel
theorem dX8_house_92 : decode cX8_house 92 = .ok (.goto (-16), 3) := by decide +kernel
theorem dX8_house_95 : decode cX8_house 95 = .ok (.iload_n 1, 1) := by decide +kernel
theorem dX8_house_96 : decode cX8_house 96 = .ok (.iload_n 2, 1) := by decide +kernel
theorem dX8_house_97 : decode cX8_house 97 = .ok (.imul, 1) := by decide +kernel
theorem dX8_house_98 : decode cX8_house 98 = .ok (.ireturn, 1) := by decide +kernel
theorem dX8_keep_0 : decode cX8_keep 0 = .ok (.aload_n 0, 1) := by decide +kernel
theorem dX8_keep_1 : decode cX8_keep 1 = .ok (.getfield 94, 3) := by decide +kernel
theorem dX8_keep_4 : decode cX8_keep 4 = .ok (.bipush 20, 2) := by decide +kernel
theorem dX8_keep_6 : decode cX8_keep 6 = .ok (.if_icmp .ne 102, 3) := by decide +kernel
theorem dX8_keep_9 : decode cX8_keep 9 = .ok (.iconst 1, 1) := by decide +kernel
theorem dX8_keep_10 : decode cX8_keep 10 = .ok (.istore_n 1, 1) := by decide +kernel
theorem dX8_keep_11 : decode cX8_keep 11 = .ok (.iload_n 1, 1) := by decide +kernel
theorem dX8_keep_12 : decode cX8_keep 12 = .ok (.bipush 20, 2) := by decide +kernel
theorem dX8_keep_14 : decode cX8_keep 14 = .ok (.if_icmp .ge 51, 3) := by decide +kernel
theorem dX8_keep_17 : decode cX8_keep 17 = .ok (.aload_n 0, 1) := by decide +kernel
theorem dX8_keep_18 : decode cX8_keep 18 = .ok (.getfield 23, 3) := by decide +kernel
theorem dX8_keep_21 : decode cX8_keep 21 = .ok (.iload_n 1, 1) := by decide +kernel
theorem dX8_keep_22 : decode cX8_keep 22 = .ok (.iconst 1, 1) := by decide +kernel
theorem dX8_keep_23 : decode cX8_keep 23 = .ok (.isub, 1) := by decide +kernel
theorem dX8_keep_24 : decode cX8_keep 24 = .ok (.aload_n 0, 1) := by decide +kernel
theorem dX8_keep_25 : decode cX8_keep 25 = .ok (.getfield 23, 3) := by decide +kernel
theorem dX8_keep_28 : decode cX8_keep 28 = .ok (.iload_n 1, 1) := by decide +kernel
theorem dX8_keep_29 : decode cX8_keep 29 = .ok (.iaload, 1) := by decide +kernel
theorem dX8_keep_30 : decode cX8_keep 30 = .ok (.iastore, 1) := by decide +kernel
theorem dX8_keep_31 : decode cX8_keep 31 = .ok (.aload_n 0, 1) := by decide +kernel
theorem dX8_keep_32 : decode cX8_keep 32 = .ok (.getfield 26, 3) := by decide +kernel
theorem dX8_keep_35 : decode cX8_keep 35 = .ok (.iload_n 1, 1) := by decide +kernel
theorem dX8_keep_36 : decode cX8_keep 36 = .ok (.iconst 1, 1) := by decide +kernel
theorem dX8_keep_37 : decode cX8_keep 37 = .ok (.isub, 1) := by decide +kernel
theorem dX8_keep_38 : decode cX8_keep 38 = .ok (.aload_n 0, 1) := by decide +kernel
theorem dX8_keep_39 : decode cX8_keep 39 = .ok (.getfield 26, 3) := by decide +kernel
theorem dX8_keep_42 : decode cX8_keep 42 = .ok (.iload_n 1, 1) := by decide +kernel
theorem dX8_keep_43 : decode cX8_keep 43 = .ok (.iaload, 1) := by decide +kernel
theorem dX8_keep_44 : decode cX8_keep 44 = .ok (.iastore, 1) := by decide +kernel
theorem dX8_keep_45 : decode cX8_keep 45 = .ok (.aload_n 0, 1) := by decide +kernel
theorem dX8_keep_46 : decode cX8_keep 46 = .ok (.getfield 29, 3) := by decide +kernel
theorem dX8_keep_49 : decode cX8_keep 49 = .ok (.iload_n 1, 1) := by decide +kernel
theorem dX8_keep_50 : decode cX8_keep 50 = .ok (.iconst 1, 1) := by decide +kernel
theorem dX8_keep_51 : decode cX8_keep 51 = .ok (.isub, 1) := by decide +kernel
theorem dX8_keep_52 : decode cX8_keep 52 = .ok (.aload_n 0, 1) := by decide +kernel
theorem dX8_keep_53 : decode cX8_keep 53 = .ok (.getfield 29, 3) := by decide +kernel
theorem dX8_keep_56 : decode cX8_keep 56 = .ok (.iload_n 1, 1) := by decide +kernel
theorem dX8_keep_57 : decode cX8_keep 57 = .ok (.iaload, 1) := by decide +kernel
theorem dX8_keep_58 : decode cX8_keep 58 = .ok (.iastore, 1) := by decide +kernel
theorem dX8_keep_59 : decode cX8_keep 59 = .ok (.iinc 1 1, 3) := by decide +kernel
theorem dX8_keep_62 : decode cX8_keep 62 = .ok (.goto (-51), 3) := by decide +kernel
theorem dX8_keep_65 : decode cX8_keep 65 = .ok (.sipush 400, 3) := by decide +kernel
theorem dX8_keep_68 : decode cX8_keep 68 = .ok (.istore_n 1, 1) := by decide +kernel
theorem dX8_keep_69 : decode cX8_keep 69 = .ok (.iload_n 1, 1) := by decide +kernel
theorem dX8_keep_70 : decode cX8_keep 70 = .ok (.sipush 8000, 3) := by decide +kernel
theorem dX8_keep_73 : decode cX8_keep 73 = .ok (.if_icmp .ge 25, 3) := by decide +kernel
theorem dX8_keep_76 : decode cX8_keep 76 = .ok (.aload_n 0, 1) := by decide +kernel
theorem dX8_keep_77 : decode cX8_keep 77 = .ok (.getfield 32, 3) := by decide +kernel
theorem dX8_keep_80 : decode cX8_keep 80 = .ok (.iload_n 1, 1) := by decide +kernel
theorem dX8_keep_81 : decode cX8_keep 81 = .ok (.sipush 400, 3) := by decide +kernel
theorem dX8_keep_84 : decode cX8_keep 84 = .ok (.isub, 1) := by decide +kernel
theorem dX8_keep_85 : decode cX8_keep 85 = .ok (.aload_n 0, 1) := by decide +kernel
theorem dX8_keep_86 : decode cX8_keep 86 = .ok (.getfield 32, 3) := by decide +kernel
theorem dX8_keep_89 : decode cX8_keep 89 = .ok (.iload_n 1, 1) := by decide +kernel
theorem dX8_keep_90 : decode cX8_keep 90 = .ok (.iaload, 1) := by decide +kernel
theorem dX8_keep_91 : decode cX8_keep 91 = .ok (.iastore, 1) := by decide +kernel
theorem dX8_keep_92 : decode cX8_keep 92 = .ok (.iinc 1 1, 3) := by decide +kernel
theorem dX8_keep_95 : decode cX8_keep 95 = .ok (.goto (-26), 3) := by decide +kernel
theorem dX8_keep_98 : decode cX8_keep 98 = .ok (.aload_n 0, 1) := by decide +kernel
theorem dX8_keep_99 : decode cX8_keep 99 = .ok (.dup, 1) := by decide +kernel
theorem dX8_keep_100 : decode cX8_keep 100 = .ok (.getfield 94, 3) := by decide +kernel
theorem dX8_keep_103 : decode cX8_keep 103 = .ok (.iconst 1, 1) := by decide +kernel
theorem dX8_keep_104 : decode cX8_keep 104 = .ok (.isub, 1) := by decide +kernel
theorem dX8_keep_105 : decode cX8_keep 105 = .ok (.putfield 94, 3) := by decide +kernel
theorem dX8_keep_108 : decode cX8_keep 108 = .ok (.aload_n 0, 1) := by decide +kernel
theorem dX8_keep_109 : decode cX8_keep 109 = .ok (.getfield 23, 3) := by decide +kernel
theorem dX8_keep_112 : decode cX8_keep 112 = .ok (.aload_n 0, 1) := by decide +kernel
theorem dX8_keep_113 : decode cX8_keep 113 = .ok (.getfield 94, 3) := by decide +kernel
theorem dX8_keep_116 : decode cX8_keep 116 = .ok (.aload_n 0, 1) := by decide +kernel
theorem dX8_keep_117 : decode cX8_keep 117 = .ok (.getfield 85, 3) := by decide +kernel
theorem dX8_keep_120 : decode cX8_keep 120 = .ok (.iastore, 1) := by decide +kernel
theorem dX8_keep_121 : decode cX8_keep 121 = .ok (.aload_n 0, 1) := by decide +kernel
theorem dX8_keep_122 : decode cX8_keep 122 = .ok (.getfield 26, 3) := by decide +kernel
theorem dX8_keep_125 : decode cX8_keep 125 = .ok (.aload_n 0, 1) := by decide +kernel
theorem dX8_keep_126 : decode cX8_keep 126 = .ok (.getfield 94, 3) := by decide +kernel
theorem dX8_keep_129 : decode cX8_keep 129 = .ok (.aload_n 0, 1) := by decide +kernel
theorem dX8_keep_130 : decode cX8_keep 130 = .ok (.getfield 88, 3) := by decide +kernel
theorem dX8_keep_133 : decode cX8_keep 133 = .ok (.iastore, 1) := by decide +kernel
theorem dX8_keep_134 : decode cX8_keep 134 = .ok (.aload_n 0, 1) := by decide +kernel
theorem dX8_keep_135 : decode cX8_keep 135 = .ok (.getfield 29, 3) := by decide +kernel
theorem dX8_keep_138 : decode cX8_keep 138 = .ok (.aload_n 0, 1) := by decide +kernel
theorem dX8_keep_139 : decode cX8_keep 139 = .ok (.getfield 94, 3) := by decide +kernel
theorem dX8_keep_142 : decode cX8_keep 142 = .ok (.aload_n 0, 1) := by decide +kernel
theorem dX8_keep_143 : decode cX8_keep 143 = .ok (.getfield 91, 3) := by decide +kernel
theorem dX8_keep_146 : decode cX8_keep 146 = .ok (.iastore, 1) := by decide +kernel
theorem dX8_keep_147 : decode cX8_keep 147 = .ok (.iconst 0, 1) := by decide +kernel
theorem dX8_keep_148 : decode cX8_keep 148 = .ok (.istore_n 1, 1) := by decide +kernel
theorem dX8_keep_149 : decode cX8_keep 149 = .ok (.iload_n 1, 1) := by decide +kernel
theorem dX8_keep_150 : decode cX8_keep 150 = .ok (.sipush 400, 3) := by decide +kernel
theorem dX8_keep_153 : decode cX8_keep 153 = .ok (.if_icmp .ge 30, 3) := by decide +kernel
theorem dX8_keep_156 : decode cX8_keep 156 = .ok (.aload_n 0, 1) := by decide +kernel
theorem dX8_keep_157 : decode cX8_keep 157 = .ok (.getfield 32, 3) := by decide +kernel
theorem dX8_keep_160 : decode cX8_keep 160 = .ok (.sipush 400, 3) := by decide +kernel
theorem dX8_keep_163 : decode cX8_keep 163 = .ok (.aload_n 0, 1) := by decide +kernel
theorem dX8_keep_164 : decode cX8_keep 164 = .ok (.getfield 94, 3) := by decide +kernel
theorem dX8_keep_167 : decode cX8_keep 167 = .ok (.imul, 1) := by decide +kernel
theorem dX8_keep_168 : decode cX8_keep 168 = .ok (.iload_n 1, 1) := by decide +kernel
theorem dX8_keep_169 : decode cX8_keep 169 = .ok (.iadd, 1) := by decide +kernel
theorem dX8_keep_170 : decode cX8_keep 170 = .ok (.aload_n 0, 1) := by decide +kernel
theorem dX8_keep_171 : decode cX8_keep 171 = .ok (.getfield 20, 3) := by decide +kernel
theorem dX8_keep_174 : decode cX8_keep 174 = .ok (.iload_n 1, 1) := by decide +kernel
theorem dX8_keep_175 : decode cX8_keep 175 = .ok (.iaload, 1) := by decide +kernel
theorem dX8_keep_176 : decode cX8_keep 176 = .ok (.iastore, 1) := by decide +kernel
theorem dX8_keep_177 : decode cX8_keep 177 = .ok (.iinc 1 1, 3) := by decide +kernel
theorem dX8_keep_180 : decode cX8_keep 180 = .ok (.goto (-31), 3) := by decide +kernel
theorem dX8_keep_183 : decode cX8_keep 183 = .ok (.aload_n 0, 1) := by decide +kernel
theorem dX8_keep_184 : decode cX8_keep 184 = .ok (.dup, 1) := by decide +kernel
theorem dX8_keep_185 : decode cX8_keep 185 = .ok (.getfield 94, 3) := by decide +kernel
theorem dX8_keep_188 : decode cX8_keep 188 = .ok (.iconst 1, 1) := by decide +kernel
theorem dX8_keep_189 : decode cX8_keep 189 = .ok (.iadd, 1) := by decide +kernel
theorem dX8_keep_190 : decode cX8_keep 190 = .ok (.putfield 94, 3) := by decide +kernel
theorem dX8_keep_193 : decode cX8_keep 193 = .ok (.return_, 1) := by decide +kernel
theorem dX8_undo_0 : decode cX8_undo 0 = .ok (.aload_n 0, 1) := by decide +kernel
theorem dX8_undo_1 : decode cX8_undo 1 = .ok (.getfield 94, 3) := by decide +kernel
theorem dX8_undo_4 : decode cX8_undo 4 = .ok (.ifCond .ne 6, 3) := by decide +kernel
theorem dX8_undo_7 : decode cX8_undo 7 = .ok (.bipush (-4), 2) := by decide +kernel
theorem dX8_undo_9 : decode cX8_undo 9 = .ok (.ireturn, 1) := by decide +kernel
theorem dX8_undo_10 : decode cX8_undo 10 = .ok (.aload_n 0, 1) := by decide +kernel
theorem dX8_undo_11 : decode cX8_undo 11 = .ok (.dup, 1) := by decide +kernel
theorem dX8_undo_12 : decode cX8_undo 12 = .ok (.getfield 94, 3) := by decide +kernel
theorem dX8_undo_15 : decode cX8_undo 15 = .ok (.iconst 1, 1) := by decide +kernel
theorem dX8_undo_16 : decode cX8_undo 16 = .ok (.isub, 1) := by decide +kernel
theorem dX8_undo_17 : decode cX8_undo 17 = .ok (.putfield 94, 3) := by decide +kernel
theorem dX8_undo_20 : decode cX8_undo 20 = .ok (.aload_n 0, 1) := by decide +kernel
theorem dX8_undo_21 : decode cX8_undo 21 = .ok (.aload_n 0, 1) := by decide +kernel
theorem dX8_undo_22 : decode cX8_undo 22 = .ok (.getfield 23, 3) := by decide +kernel
theorem dX8_undo_25 : decode cX8_undo 25 = .ok (.aload_n 0, 1) := by decide +kernel
theorem dX8_undo_26 : decode cX8_undo 26 = .ok (.getfield 94, 3) := by decide +kernel
theorem dX8_undo_29 : decode cX8_undo 29 = .ok (.iaload, 1) := by decide +kernel
theorem dX8_undo_30 : decode cX8_undo 30 = .ok (.putfield 85, 3) := by decide +kernel
theorem dX8_undo_33 : decode cX8_undo 33 = .ok (.aload_n 0, 1) := by decide +kernel
theorem dX8_undo_34 : decode cX8_undo 34 = .ok (.aload_n 0, 1) := by decide +kernel
theorem dX8_undo_35 : decode cX8_undo 35 = .ok (.getfield 26, 3) := by decide +kernel
theorem dX8_undo_38 : decode cX8_undo 38 = .ok (.aload_n 0, 1) := by decide +kernel
theorem dX8_undo_39 : decode cX8_undo 39 = .ok (.getfield 94, 3) := by decide +kernel
theorem dX8_undo_42 : decode cX8_undo 42 = .ok (.iaload, 1) := by decide +kernel
theorem dX8_undo_43 : decode cX8_undo 43 = .ok (.putfield 88, 3) := by decide +kernel
theorem dX8_undo_46 : decode cX8_undo 46 = .ok (.aload_n 0, 1) := by decide +kernel
theorem dX8_undo_47 : decode cX8_undo 47 = .ok (.aload_n 0, 1) := by decide +kernel
theorem dX8_undo_48 : decode cX8_undo 48 = .ok (.getfield 29, 3) := by decide +kernel
theorem dX8_undo_51 : decode cX8_undo 51 = .ok (.aload_n 0, 1) := by decide +kernel
theorem dX8_undo_52 : decode cX8_undo 52 = .ok (.getfield 94, 3) := by decide +kernel
theorem dX8_undo_55 : decode cX8_undo 55 = .ok (.iaload, 1) := by decide +kernel
theorem dX8_undo_56 : decode cX8_undo 56 = .ok (.putfield 91, 3) := by decide +kernel
theorem dX8_undo_59 : decode cX8_undo 59 = .ok (.iconst 0, 1) := by decide +kernel
theorem dX8_undo_60 : decode cX8_undo 60 = .ok (.istore_n 1, 1) := by decide +kernel
theorem dX8_undo_61 : decode cX8_undo 61 = .ok (.iload_n 1, 1) := by decide +kernel
theorem dX8_undo_62 : decode cX8_undo 62 = .ok (.sipush 400, 3) := by decide +kernel
theorem dX8_undo_65 : decode cX8_undo 65 = .ok (.if_icmp .ge 30, 3) := by decide +kernel
theorem dX8_undo_68 : decode cX8_undo 68 = .ok (.aload_n 0, 1) := by decide +kernel
theorem dX8_undo_69 : decode cX8_undo 69 = .ok (.getfield 20, 3) := by decide +kernel
theorem dX8_undo_72 : decode cX8_undo 72 = .ok (.iload_n 1, 1) := by decide +kernel
theorem dX8_undo_73 : decode cX8_undo 73 = .ok (.aload_n 0, 1) := by decide +kernel
theorem dX8_undo_74 : decode cX8_undo 74 = .ok (.getfield 32, 3) := by decide +kernel
theorem dX8_undo_77 : decode cX8_undo 77 = .ok (.sipush 400, 3) := by decide +kernel
theorem dX8_undo_80 : decode cX8_undo 80 = .ok (.aload_n 0, 1) := by decide +kernel
theorem dX8_undo_81 : decode cX8_undo 81 = .ok (.getfield 94, 3) := by decide +kernel
theorem dX8_undo_84 : decode cX8_undo 84 = .ok (.imul, 1) := by decide +kernel
theorem dX8_undo_85 : decode cX8_undo 85 = .ok (.iload_n 1, 1) := by decide +kernel
theorem dX8_undo_86 : decode cX8_undo 86 = .ok (.iadd, 1) := by decide +kernel
theorem dX8_undo_87 : decode cX8_undo 87 = .ok (.iaload, 1) := by decide +kernel
theorem dX8_undo_88 : decode cX8_undo 88 = .ok (.iastore, 1) := by decide +kernel
theorem dX8_undo_89 : decode cX8_undo 89 = .ok (.iinc 1 1, 3) := by decide +kernel
theorem dX8_undo_92 : decode cX8_undo 92 = .ok (.goto (-31), 3) := by decide +kernel
theorem dX8_undo_95 : decode cX8_undo 95 = .ok (.aload_n 0, 1) := by decide +kernel
theorem dX8_undo_96 : decode cX8_undo 96 = .ok (.getfield 94, 3) := by decide +kernel
theorem dX8_undo_99 : decode cX8_undo 99 = .ok (.ireturn, 1) := by decide +kernel
set_option maxRecDepth 20000 in
theorem ggX8_isThing_X8_in : GoodIn wsX8_isThing wsX8_in := goodIn_r _ [5] (by decide +kernel) (by decide +kernel)
set_option maxRecDepth 20000 in
theorem gX8_isThing_X8_in : GoodIn wsX8_isThing (va_wsS RX8 81 yX8_in wsX8_in) := goodIn_app (goodIn_of _ (by decide +kernel)) ggX8_isThing_X8_in
theorem dX8_isThing_0 : decode cX8_isThing 0 = .ok (.iload_n 1, 1) := by decide +kernel
theorem dX8_isThing_1 : decode cX8_isThing 1 = .ok (.iconst 0, 1) := by decide +kernel
theorem dX8_isThing_2 : decode cX8_isThing 2 = .ok (.aload_n 0, 1) := by decide +kernel
theorem dX8_isThing_3 : decode cX8_isThing 3 = .ok (.getfield 85, 3) := by decide +kernel
theorem dX8_isThing_6 : decode cX8_isThing 6 = .ok (.iconst 1, 1) := by decide +kernel
theorem dX8_isThing_7 : decode cX8_isThing 7 = .ok (.isub, 1) := by decide +kernel
theorem dX8_isThing_8 : decode cX8_isThing 8 = .ok (.invokestatic 81, 3) := by decide +kernel
theorem dX8_isThing_11 : decode cX8_isThing 11 = .ok (.ireturn, 1) := by decide +kernel
set_option maxRecDepth 20000 in
theorem ggX8_isSquare_X8_in : GoodIn wsX8_isSquare wsX8_in := goodIn_r _ [6] (by decide +kernel) (by decide +kernel)
set_option maxRecDepth 20000 in
theorem gX8_isSquare_X8_in : GoodIn wsX8_isSquare (va_wsS RX8 81 yX8_in wsX8_in) := goodIn_app (goodIn_of _ (by decide +kernel)) ggX8_isSquare_X8_in
theorem dX8_isSquare_0 : decode cX8_isSquare 0 = .ok (.iload_n 1, 1) := by decide +kernel
theorem dX8_isSquare_1 : decode cX8_isSquare 1 = .ok (.iconst 0, 1) := by decide +kernel
theorem dX8_isSquare_2 : decode cX8_isSquare 2 = .ok (.aload_n 0, 1) := by decide +kernel
theorem dX8_isSquare_3 : decode cX8_isSquare 3 = .ok (.getfield 13, 3) := by decide +kernel
theorem dX8_isSquare_6 : decode cX8_isSquare 6 = .ok (.iconst 1, 1) := by decide +kernel
theorem dX8_isSquare_7 : decode cX8_isSquare 7 = .ok (.isub, 1) := by decide +kernel
theorem dX8_isSquare_8 : decode cX8_isSquare 8 = .ok (.invokestatic 81, 3) := by decide +kernel
theorem dX8_isSquare_11 : decode cX8_isSquare 11 = .ok (.ifCond .eq 21, 3) := by decide +kernel
theorem dX8_isSquare_14 : decode cX8_isSquare 14 = .ok (.iload_n 2, 1) := by decide +kernel
theorem dX8_isSquare_15 : decode cX8_isSquare 15 = .ok (.iconst 0, 1) := by decide +kernel
theorem dX8_isSquare_16 : decode cX8_isSquare 16 = .ok (.aload_n 0, 1) := by decide +kernel
theorem dX8_isSquare_17 : decode cX8_isSquare 17 = .ok (.getfield 17, 3) := by decide +kernel
theorem dX8_isSquare_20 : decode cX8_isSquare 20 = .ok (.iconst 1, 1) := by decide +kernel
theorem dX8_isSquare_21 : decode cX8_isSquare 21 = .ok (.isub, 1) := by decide +kernel
theorem dX8_isSquare_22 : decode cX8_isSquare 22 = .ok (.invokestatic 81, 3) := by decide +kernel
theorem dX8_isSquare_25 : decode cX8_isSquare 25 = .ok (.ifCond .eq 7, 3) := by decide +kernel
theorem dX8_isSquare_28 : decode cX8_isSquare 28 = .ok (.iconst 1, 1) := by decide +kernel
theorem dX8_isSquare_29 : decode cX8_isSquare 29 = .ok (.goto 4, 3) := by decide +kernel
theorem dX8_isSquare_32 : decode cX8_isSquare 32 = .ok (.iconst 0, 1) := by decide +kernel
theorem dX8_isSquare_33 : decode cX8_isSquare 33 = .ok (.ireturn, 1) := by decide +kernel
set_option maxRecDepth 20000 in
theorem ggX8_thing_X8_bitsIn : GoodIn wsX8_thing wsX8_bitsIn := goodIn_r _ [6] (by decide +kernel) (by decide +kernel)
set_option maxRecDepth 20000 in
theorem gX8_thing_X8_bitsIn : GoodIn wsX8_thing (va_wsS RX8 97 yX8_bitsIn wsX8_bitsIn) := goodIn_app (goodIn_of _ (by decide +kernel)) ggX8_thing_X8_bitsIn
set_option maxRecDepth 20000 in
theorem ggX8_thing_X8_keep : GoodIn wsX8_thing wsX8_keep := goodIn_r _ [10, 11, 12, 13, 14, 15, 1, 2, 16, 17, 18, 19, 20, 21, 22, 23, 24, 25, 26, 27, 28, 29, 30, 31, 32, 33, 34, 35, 36, 37, 38, 39, 40, 41, 42, 43, 44, 45, 46, 47, 48, 49, 50] (by decide +kernel) (by decide +kernel)
set_option maxRecDepth 20000 in
theorem gX8_thing_X8_keep : GoodIn wsX8_thing (wsV RX8 101 RX8 yX8_keep wsX8_keep) := goodIn_app (goodIn_of _ (by decide +kernel)) ggX8_thing_X8_keep
theorem dX8_thing_0 : decode cX8_thing 0 = .ok (.aload_n 0, 1) := by decide +kernel
theorem dX8_thing_1 : decode cX8_thing 1 = .ok (.getfield 85, 3) := by decide +kernel
theorem dX8_thing_4 : decode cX8_thing 4 = .ok (.bipush 12, 2) := by decide +kernel
theorem dX8_thing_6 : decode cX8_thing 6 = .ok (.if_icmp .eq 19, 3) := by decide +kernel
theorem dX8_thing_9 : decode cX8_thing 9 = .ok (.iload_n 1, 1) := by decide +kernel
theorem dX8_thing_10 : decode cX8_thing 10 = .ok (.ifCond .eq 18, 3) := by decide +kernel
theorem dX8_thing_13 : decode cX8_thing 13 = .ok (.aload_n 0, 1) := by decide +kernel
theorem dX8_thing_14 : decode cX8_thing 14 = .ok (.getfield 88, 3) := by decide +kernel
theorem dX8_thing_17 : decode cX8_thing 17 = .ok (.invokestatic 97, 3) := by decide +kernel
theorem dX8_thing_20 : decode cX8_thing 20 = .ok (.bipush 6, 2) := by decide +kernel
theorem dX8_thing_22 : decode cX8_thing 22 = .ok (.if_icmp .ne 6, 3) := by decide +kernel
theorem dX8_thing_25 : decode cX8_thing 25 = .ok (.bipush (-2), 2) := by decide +kernel
theorem dX8_thing_27 : decode cX8_thing 27 = .ok (.ireturn, 1) := by decide +kernel
theorem dX8_thing_28 : decode cX8_thing 28 = .ok (.aload_n 0, 1) := by decide +kernel
theorem dX8_thing_29 : decode cX8_thing 29 = .ok (.invokevirtual 101, 3) := by decide +kernel
theorem dX8_thing_32 : decode cX8_thing 32 = .ok (.aload_n 0, 1) := by decide +kernel
theorem dX8_thing_33 : decode cX8_thing 33 = .ok (.dup, 1) := by decide +kernel
theorem dX8_thing_34 : decode cX8_thing 34 = .ok (.getfield 88, 3) := by decide +kernel
theorem dX8_thing_37 : decode cX8_thing 37 = .ok (.iload_n 1, 1) := by decide +kernel
theorem dX8_thing_38 : decode cX8_thing 38 = .ok (.ifCond .eq 12, 3) := by decide +kernel
theorem dX8_thing_41 : decode cX8_thing 41 = .ok (.iconst 1, 1) := by decide +kernel
theorem dX8_thing_42 : decode cX8_thing 42 = .ok (.aload_n 0, 1) := by decide +kernel
theorem dX8_thing_43 : decode cX8_thing 43 = .ok (.getfield 85, 3) := by decide +kernel
theorem dX8_thing_46 : decode cX8_thing 46 = .ok (.ishl, 1) := by decide +kernel
theorem dX8_thing_47 : decode cX8_thing 47 = .ok (.goto 4, 3) := by decide +kernel
theorem dX8_thing_50 : decode cX8_thing 50 = .ok (.iconst 0, 1) := by decide +kernel
theorem dX8_thing_51 : decode cX8_thing 51 = .ok (.ior, 1) := by decide +kernel
theorem dX8_thing_52 : decode cX8_thing 52 = .ok (.putfield 88, 3) := by decide +kernel
theorem dX8_thing_55 : decode cX8_thing 55 = .ok (.aload_n 0, 1) := by decide +kernel
theorem dX8_thing_56 : decode cX8_thing 56 = .ok (.dup, 1) := by decide +kernel
theorem dX8_thing_57 : decode cX8_thing 57 = .ok (.getfield 85, 3) := by decide +kernel
theorem dX8_thing_60 : decode cX8_thing 60 = .ok (.iconst 1, 1) := by decide +kernel
theorem dX8_thing_61 : decode cX8_thing 61 = .ok (.iadd, 1) := by decide +kernel
theorem dX8_thing_62 : decode cX8_thing 62 = .ok (.putfield 85, 3) := by decide +kernel
theorem dX8_thing_65 : decode cX8_thing 65 = .ok (.aload_n 0, 1) := by decide +kernel
theorem dX8_thing_66 : decode cX8_thing 66 = .ok (.getfield 85, 3) := by decide +kernel
theorem dX8_thing_69 : decode cX8_thing 69 = .ok (.iconst 1, 1) := by decide +kernel
theorem dX8_thing_70 : decode cX8_thing 70 = .ok (.isub, 1) := by decide +kernel
theorem dX8_thing_71 : decode cX8_thing 71 = .ok (.ireturn, 1) := by decide +kernel
set_option maxRecDepth 20000 in
theorem ggX8_fill_X8_isThing : GoodIn wsX8_fill wsX8_isThing := goodIn_r _ [8, 9, 10, 11, 7, 12, 28, 29, 30, 31, 32, 33, 34, 35, 36, 37, 38, 39, 40, 41, 42, 43, 44, 45, 46, 47, 48, 49, 50, 51, 52, 53, 54, 55, 56, 57, 58, 59, 60] (by decide +kernel) (by decide +kernel)
set_option maxRecDepth 20000 in
theorem gX8_fill_X8_isThing : GoodIn wsX8_fill (wsV RX8 104 RX8 yX8_isThing wsX8_isThing) := goodIn_app (goodIn_of _ (by decide +kernel)) ggX8_fill_X8_isThing
set_option maxRecDepth 20000 in
theorem ggX8_fill_X8_isSquare : GoodIn wsX8_fill wsX8_isSquare := goodIn_r _ [16, 2, 1, 10, 11, 7, 12, 28, 29, 30, 31, 32, 33, 34, 35, 36, 37, 38, 39, 40, 41, 42, 43, 44, 45, 46, 47, 48, 49, 50, 51, 52, 53, 54, 55, 56, 57, 58, 59, 60] (by decide +kernel) (by decide +kernel)
set_option maxRecDepth 20000 in
theorem gX8_fill_X8_isSquare : GoodIn wsX8_fill (wsV RX8 108 RX8 yX8_isSquare wsX8_isSquare) := goodIn_app (goodIn_of _ (by decide +kernel)) ggX8_fill_X8_isSquare
set_option maxRecDepth 20000 in
theorem ggX8_fill_X8_in : GoodIn wsX8_fill wsX8_in := goodIn_r _ [12] (by decide +kernel) (by decide +kernel)
set_option maxRecDepth 20000 in
theorem gX8_fill_X8_in : GoodIn wsX8_fill (va_wsS RX8 81 yX8_in wsX8_in) := goodIn_app (goodIn_of _ (by decide +kernel)) ggX8_fill_X8_in
set_option maxRecDepth 20000 in
theorem ggX8_fill_X8_keep : GoodIn wsX8_fill wsX8_keep := goodIn_r _ [20, 21, 22, 23, 24, 25, 9, 26, 27, 3, 28, 29, 30, 31, 32, 33, 34, 35, 36, 37, 38, 39, 40, 41, 42, 43, 44, 45, 46, 47, 48, 49, 50, 51, 52, 53, 54, 55, 56, 57, 58, 59, 60] (by decide +kernel) (by decide +kernel)
set_option maxRecDepth 20000 in
theorem gX8_fill_X8_keep : GoodIn wsX8_fill (wsV RX8 101 RX8 yX8_keep wsX8_keep) := goodIn_app (goodIn_of _ (by decide +kernel)) ggX8_fill_X8_keep
theorem dX8_fill_0 : decode cX8_fill 0 = .ok (.aload_n 0, 1) := by decide +kernel
theorem dX8_fill_1 : decode cX8_fill 1 = .ok (.iload_n 1, 1) := by decide +kernel
theorem dX8_fill_2 : decode cX8_fill 2 = .ok (.invokevirtual 104, 3) := by decide +kernel
theorem dX8_fill_5 : decode cX8_fill 5 = .ok (.ifCond .eq 34, 3) := by decide +kernel
theorem dX8_fill_8 : decode cX8_fill 8 = .ok (.aload_n 0, 1) := by decide +kernel
theorem dX8_fill_9 : decode cX8_fill 9 = .ok (.iload_n 2, 1) := by decide +kernel
theorem dX8_fill_10 : decode cX8_fill 10 = .ok (.iload_n 3, 1) := by decide +kernel
theorem dX8_fill_11 : decode cX8_fill 11 = .ok (.invokevirtual 108, 3) := by decide +kernel
theorem dX8_fill_14 : decode cX8_fill 14 = .ok (.ifCond .eq 25, 3) := by decide +kernel
theorem dX8_fill_17 : decode cX8_fill 17 = .ok (.iload 4, 2) := by decide +kernel
theorem dX8_fill_19 : decode cX8_fill 19 = .ok (.iconst 1, 1) := by decide +kernel
theorem dX8_fill_20 : decode cX8_fill 20 = .ok (.bipush 20, 2) := by decide +kernel
theorem dX8_fill_22 : decode cX8_fill 22 = .ok (.invokestatic 81, 3) := by decide +kernel
theorem dX8_fill_25 : decode cX8_fill 25 = .ok (.ifCond .eq 14, 3) := by decide +kernel
theorem dX8_fill_28 : decode cX8_fill 28 = .ok (.iload 5, 2) := by decide +kernel
theorem dX8_fill_30 : decode cX8_fill 30 = .ok (.iconst 1, 1) := by decide +kernel
theorem dX8_fill_31 : decode cX8_fill 31 = .ok (.bipush 20, 2) := by decide +kernel
theorem dX8_fill_33 : decode cX8_fill 33 = .ok (.invokestatic 81, 3) := by decide +kernel
theorem dX8_fill_36 : decode cX8_fill 36 = .ok (.ifCond .ne 5, 3) := by decide +kernel
theorem dX8_fill_39 : decode cX8_fill 39 = .ok (.iconst (-1), 1) := by decide +kernel
theorem dX8_fill_40 : decode cX8_fill 40 = .ok (.ireturn, 1) := by decide +kernel
theorem dX8_fill_41 : decode cX8_fill 41 = .ok (.aload_n 0, 1) := by decide +kernel
theorem dX8_fill_42 : decode cX8_fill 42 = .ok (.invokevirtual 101, 3) := by decide +kernel
theorem dX8_fill_45 : decode cX8_fill 45 = .ok (.iconst 0, 1) := by decide +kernel
theorem dX8_fill_46 : decode cX8_fill 46 = .ok (.istore 6, 2) := by decide +kernel
theorem dX8_fill_48 : decode cX8_fill 48 = .ok (.iconst 0, 1) := by decide +kernel
theorem dX8_fill_49 : decode cX8_fill 49 = .ok (.istore 7, 2) := by decide +kernel
theorem dX8_fill_51 : decode cX8_fill 51 = .ok (.iload 7, 2) := by decide +kernel
theorem dX8_fill_53 : decode cX8_fill 53 = .ok (.aload_n 0, 1) := by decide +kernel
theorem dX8_fill_54 : decode cX8_fill 54 = .ok (.getfield 17, 3) := by decide +kernel
theorem dX8_fill_57 : decode cX8_fill 57 = .ok (.if_icmp .ge 114, 3) := by decide +kernel
theorem dX8_fill_60 : decode cX8_fill 60 = .ok (.iconst 0, 1) := by decide +kernel
theorem dX8_fill_61 : decode cX8_fill 61 = .ok (.istore 8, 2) := by decide +kernel
theorem dX8_fill_63 : decode cX8_fill 63 = .ok (.iload 8, 2) := by decide +kernel
theorem dX8_fill_65 : decode cX8_fill 65 = .ok (.aload_n 0, 1) := by decide +kernel
theorem dX8_fill_66 : decode cX8_fill 66 = .ok (.getfield 13, 3) := by decide +kernel
theorem dX8_fill_69 : decode cX8_fill 69 = .ok (.if_icmp .ge 96, 3) := by decide +kernel
theorem dX8_fill_72 : decode cX8_fill 72 = .ok (.iload 8, 2) := by decide +kernel
theorem dX8_fill_74 : decode cX8_fill 74 = .ok (.iload_n 2, 1) := by decide +kernel
theorem dX8_fill_75 : decode cX8_fill 75 = .ok (.if_icmp .lt 31, 3) := by decide +kernel
theorem dX8_fill_78 : decode cX8_fill 78 = .ok (.iload 8, 2) := by decide +kernel
theorem dX8_fill_80 : decode cX8_fill 80 = .ok (.iload_n 2, 1) := by decide +kernel
theorem dX8_fill_81 : decode cX8_fill 81 = .ok (.iload 4, 2) := by decide +kernel
theorem dX8_fill_83 : decode cX8_fill 83 = .ok (.iadd, 1) := by decide +kernel
theorem dX8_fill_84 : decode cX8_fill 84 = .ok (.if_icmp .ge 22, 3) := by decide +kernel
theorem dX8_fill_87 : decode cX8_fill 87 = .ok (.iload 7, 2) := by decide +kernel
theorem dX8_fill_89 : decode cX8_fill 89 = .ok (.iload_n 3, 1) := by decide +kernel
theorem dX8_fill_90 : decode cX8_fill 90 = .ok (.if_icmp .lt 16, 3) := by decide +kernel
theorem dX8_fill_93 : decode cX8_fill 93 = .ok (.iload 7, 2) := by decide +kernel
theorem dX8_fill_95 : decode cX8_fill 95 = .ok (.iload_n 3, 1) := by decide +kernel
theorem dX8_fill_96 : decode cX8_fill 96 = .ok (.iload 5, 2) := by decide +kernel
theorem dX8_fill_98 : decode cX8_fill 98 = .ok (.iadd, 1) := by decide +kernel
theorem dX8_fill_99 : decode cX8_fill 99 = .ok (.if_icmp .ge 7, 3) := by decide +kernel
theorem dX8_fill_102 : decode cX8_fill 102 = .ok (.iconst 1, 1) := by decide +kernel
theorem dX8_fill_103 : decode cX8_fill 103 = .ok (.goto 4, 3) := by decide +kernel
theorem dX8_fill_106 : decode cX8_fill 106 = .ok (.iconst 0, 1) := by decide +kernel
theorem dX8_fill_107 : decode cX8_fill 107 = .ok (.istore 9, 2) := by decide +kernel
theorem dX8_fill_109 : decode cX8_fill 109 = .ok (.aload_n 0, 1) := by decide +kernel
theorem dX8_fill_110 : decode cX8_fill 110 = .ok (.getfield 20, 3) := by decide +kernel
theorem dX8_fill_113 : decode cX8_fill 113 = .ok (.bipush 20, 2) := by decide +kernel
theorem dX8_fill_115 : decode cX8_fill 115 = .ok (.iload 7, 2) := by decide +kernel
theorem dX8_fill_117 : decode cX8_fill 117 = .ok (.imul, 1) := by decide +kernel
theorem dX8_fill_118 : decode cX8_fill 118 = .ok (.iload 8, 2) := by decide +kernel
theorem dX8_fill_120 : decode cX8_fill 120 = .ok (.iadd, 1) := by decide +kernel
theorem dX8_fill_121 : decode cX8_fill 121 = .ok (.dup2, 1) := by decide +kernel
theorem dX8_fill_122 : decode cX8_fill 122 = .ok (.iaload, 1) := by decide +kernel
theorem dX8_fill_123 : decode cX8_fill 123 = .ok (.iload 9, 2) := by decide +kernel
theorem dX8_fill_125 : decode cX8_fill 125 = .ok (.ifCond .eq 9, 3) := by decide +kernel
theorem dX8_fill_128 : decode cX8_fill 128 = .ok (.iconst 1, 1) := by decide +kernel
theorem dX8_fill_129 : decode cX8_fill 129 = .ok (.iload_n 1, 1) := by decide +kernel
theorem dX8_fill_130 : decode cX8_fill 130 = .ok (.ishl, 1) := by decide +kernel
theorem dX8_fill_131 : decode cX8_fill 131 = .ok (.goto 4, 3) := by decide +kernel
theorem dX8_fill_134 : decode cX8_fill 134 = .ok (.iconst 0, 1) := by decide +kernel
theorem dX8_fill_135 : decode cX8_fill 135 = .ok (.ior, 1) := by decide +kernel
theorem dX8_fill_136 : decode cX8_fill 136 = .ok (.iastore, 1) := by decide +kernel
theorem dX8_fill_137 : decode cX8_fill 137 = .ok (.iload 6, 2) := by decide +kernel
theorem dX8_fill_139 : decode cX8_fill 139 = .ok (.aload_n 0, 1) := by decide +kernel
theorem dX8_fill_140 : decode cX8_fill 140 = .ok (.getfield 20, 3) := by decide +kernel
theorem dX8_fill_143 : decode cX8_fill 143 = .ok (.bipush 20, 2) := by decide +kernel
theorem dX8_fill_145 : decode cX8_fill 145 = .ok (.iload 7, 2) := by decide +kernel
theorem dX8_fill_147 : decode cX8_fill 147 = .ok (.imul, 1) := by decide +kernel
theorem dX8_fill_148 : decode cX8_fill 148 = .ok (.iload 8, 2) := by decide +kernel
theorem dX8_fill_150 : decode cX8_fill 150 = .ok (.iadd, 1) := by decide +kernel
theorem dX8_fill_151 : decode cX8_fill 151 = .ok (.iaload, 1) := by decide +kernel
theorem dX8_fill_152 : decode cX8_fill 152 = .ok (.iload_n 1, 1) := by decide +kernel
theorem dX8_fill_153 : decode cX8_fill 153 = .ok (.ishr, 1) := by decide +kernel
theorem dX8_fill_154 : decode cX8_fill 154 = .ok (.iconst 1, 1) := by decide +kernel
theorem dX8_fill_155 : decode cX8_fill 155 = .ok (.iand, 1) := by decide +kernel
theorem dX8_fill_156 : decode cX8_fill 156 = .ok (.iadd, 1) := by decide +kernel
theorem dX8_fill_157 : decode cX8_fill 157 = .ok (.istore 6, 2) := by decide +kernel
theorem dX8_fill_159 : decode cX8_fill 159 = .ok (.iinc 8 1, 3) := by decide +kernel
theorem dX8_fill_162 : decode cX8_fill 162 = .ok (.goto (-99), 3) := by decide +kernel
theorem dX8_fill_165 : decode cX8_fill 165 = .ok (.iinc 7 1, 3) := by decide +kernel
theorem dX8_fill_168 : decode cX8_fill 168 = .ok (.goto (-117), 3) := by decide +kernel
theorem dX8_fill_171 : decode cX8_fill 171 = .ok (.iload 6, 2) := by decide +kernel
theorem dX8_fill_173 : decode cX8_fill 173 = .ok (.ireturn, 1) := by decide +kernel
set_option maxRecDepth 20000 in
theorem ggX8_clear_X8_isThing : GoodIn wsX8_clear wsX8_isThing := goodIn_r _ [6, 7, 8, 9, 5, 10, 28, 29, 30, 31, 32, 33, 34, 35, 36, 37, 38, 39, 40, 41, 42, 43, 44, 45, 46, 47, 48, 49, 50, 51, 52, 53, 54, 55, 56, 57, 58, 59, 60] (by decide +kernel) (by decide +kernel)
set_option maxRecDepth 20000 in
theorem gX8_clear_X8_isThing : GoodIn wsX8_clear (wsV RX8 104 RX8 yX8_isThing wsX8_isThing) := goodIn_app (goodIn_of _ (by decide +kernel)) ggX8_clear_X8_isThing
set_option maxRecDepth 20000 in
theorem ggX8_clear_X8_isSquare : GoodIn wsX8_clear wsX8_isSquare := goodIn_r _ [14, 15, 16, 8, 9, 5, 10, 28, 29, 30, 31, 32, 33, 34, 35, 36, 37, 38, 39, 40, 41, 42, 43, 44, 45, 46, 47, 48, 49, 50, 51, 52, 53, 54, 55, 56, 57, 58, 59, 60] (by decide +kernel) (by decide +kernel)
set_option maxRecDepth 20000 in
theorem gX8_clear_X8_isSquare : GoodIn wsX8_clear (wsV RX8 108 RX8 yX8_isSquare wsX8_isSquare) := goodIn_app (goodIn_of _ (by decide +kernel)) ggX8_clear_X8_isSquare
set_option maxRecDepth 20000 in
theorem ggX8_clear_X8_keep : GoodIn wsX8_clear wsX8_keep := goodIn_r _ [20, 21, 22, 23, 24, 25, 7, 26, 27, 1, 28, 29, 30, 31, 32, 33, 34, 35, 36, 37, 38, 39, 40, 41, 42, 43, 44, 45, 46, 47, 48, 49, 50, 51, 52, 53, 54, 55, 56, 57, 58, 59, 60] (by decide +kernel) (by decide +kernel)
set_option maxRecDepth 20000 in
theorem gX8_clear_X8_keep : GoodIn wsX8_clear (wsV RX8 101 RX8 yX8_keep wsX8_keep) := goodIn_app (goodIn_of _ (by decide +kernel)) ggX8_clear_X8_keep
theorem dX8_clear_0 : decode cX8_clear 0 = .ok (.aload_n 0, 1) := by decide +kernel
theorem dX8_clear_1 : decode cX8_clear 1 = .ok (.iload_n 1, 1) := by decide +kernel
theorem dX8_clear_2 : decode cX8_clear 2 = .ok (.invokevirtual 104, 3) := by decide +kernel
theorem dX8_clear_5 : decode cX8_clear 5 = .ok (.ifCond .eq 12, 3) := by decide +kernel
theorem dX8_clear_8 : decode cX8_clear 8 = .ok (.aload_n 0, 1) := by decide +kernel
theorem dX8_clear_9 : decode cX8_clear 9 = .ok (.iload_n 2, 1) := by decide +kernel
theorem dX8_clear_10 : decode cX8_clear 10 = .ok (.iload_n 3, 1) := by decide +kernel
theorem dX8_clear_11 : decode cX8_clear 11 = .ok (.invokevirtual 108, 3) := by decide +kernel
theorem dX8_clear_14 : decode cX8_clear 14 = .ok (.ifCond .ne 5, 3) := by decide +kernel
theorem dX8_clear_17 : decode cX8_clear 17 = .ok (.iconst (-1), 1) := by decide +kernel
theorem dX8_clear_18 : decode cX8_clear 18 = .ok (.ireturn, 1) := by decide +kernel
theorem dX8_clear_19 : decode cX8_clear 19 = .ok (.aload_n 0, 1) := by decide +kernel
theorem dX8_clear_20 : decode cX8_clear 20 = .ok (.invokevirtual 101, 3) := by decide +kernel
theorem dX8_clear_23 : decode cX8_clear 23 = .ok (.aload_n 0, 1) := by decide +kernel
theorem dX8_clear_24 : decode cX8_clear 24 = .ok (.getfield 20, 3) := by decide +kernel
theorem dX8_clear_27 : decode cX8_clear 27 = .ok (.bipush 20, 2) := by decide +kernel
theorem dX8_clear_29 : decode cX8_clear 29 = .ok (.iload_n 3, 1) := by decide +kernel
theorem dX8_clear_30 : decode cX8_clear 30 = .ok (.imul, 1) := by decide +kernel
theorem dX8_clear_31 : decode cX8_clear 31 = .ok (.iload_n 2, 1) := by decide +kernel
theorem dX8_clear_32 : decode cX8_clear 32 = .ok (.iadd, 1) := by decide +kernel
theorem dX8_clear_33 : decode cX8_clear 33 = .ok (.iaload, 1) := by decide +kernel
theorem dX8_clear_34 : decode cX8_clear 34 = .ok (.iload_n 1, 1) := by decide +kernel
theorem dX8_clear_35 : decode cX8_clear 35 = .ok (.ishr, 1) := by decide +kernel
theorem dX8_clear_36 : decode cX8_clear 36 = .ok (.iconst 1, 1) := by decide +kernel
theorem dX8_clear_37 : decode cX8_clear 37 = .ok (.iand, 1) := by decide +kernel
theorem dX8_clear_38 : decode cX8_clear 38 = .ok (.istore 4, 2) := by decide +kernel
theorem dX8_clear_40 : decode cX8_clear 40 = .ok (.aload_n 0, 1) := by decide +kernel
theorem dX8_clear_41 : decode cX8_clear 41 = .ok (.getfield 20, 3) := by decide +kernel
theorem dX8_clear_44 : decode cX8_clear 44 = .ok (.bipush 20, 2) := by decide +kernel
theorem dX8_clear_46 : decode cX8_clear 46 = .ok (.iload_n 3, 1) := by decide +kernel
theorem dX8_clear_47 : decode cX8_clear 47 = .ok (.imul, 1) := by decide +kernel
theorem dX8_clear_48 : decode cX8_clear 48 = .ok (.iload_n 2, 1) := by decide +kernel
theorem dX8_clear_49 : decode cX8_clear 49 = .ok (.iadd, 1) := by decide +kernel
theorem dX8_clear_50 : decode cX8_clear 50 = .ok (.dup2, 1) := by decide +kernel
theorem dX8_clear_51 : decode cX8_clear 51 = .ok (.iaload, 1) := by decide +kernel
theorem dX8_clear_52 : decode cX8_clear 52 = .ok (.iconst 1, 1) := by decide +kernel
theorem dX8_clear_53 : decode cX8_clear 53 = .ok (.iload_n 1, 1) := by decide +kernel
theorem dX8_clear_54 : decode cX8_clear 54 = .ok (.ishl, 1) := by decide +kernel
theorem dX8_clear_55 : decode cX8_clear 55 = .ok (.iconst (-1), 1) := by decide +kernel
theorem dX8_clear_56 : decode cX8_clear 56 = .ok (.ixor, 1) := by decide +kernel
theorem dX8_clear_57 : decode cX8_clear 57 = .ok (.iand, 1) := by decide +kernel
theorem dX8_clear_58 : decode cX8_clear 58 = .ok (.iastore, 1) := by decide +kernel
theorem dX8_clear_59 : decode cX8_clear 59 = .ok (.iload 4, 2) := by decide +kernel
theorem dX8_clear_61 : decode cX8_clear 61 = .ok (.ireturn, 1) := by decide +kernel
set_option maxRecDepth 20000 in
theorem ggX8_out_X8_isThing : GoodIn wsX8_out wsX8_isThing := goodIn_r _ [7, 8, 9, 10, 6, 11, 22, 23, 24, 25, 26, 27, 28, 29, 30, 31, 32, 33, 34, 35, 36, 37, 38, 39, 40, 41, 42, 43, 44, 45, 46, 47, 48, 49, 50, 51, 52, 53, 54] (by decide +kernel) (by decide +kernel)
set_option maxRecDepth 20000 in
theorem gX8_out_X8_isThing : GoodIn wsX8_out (wsV RX8 104 RX8 yX8_isThing wsX8_isThing) := goodIn_app (goodIn_of _ (by decide +kernel)) ggX8_out_X8_isThing
set_option maxRecDepth 20000 in
theorem ggX8_out_X8_keep : GoodIn wsX8_out wsX8_keep := goodIn_r _ [15, 16, 17, 18, 19, 20, 8, 1, 2, 21, 22, 23, 24, 25, 26, 27, 28, 29, 30, 31, 32, 33, 34, 35, 36, 37, 38, 39, 40, 41, 42, 43, 44, 45, 46, 47, 48, 49, 50, 51, 52, 53, 54] (by decide +kernel) (by decide +kernel)
set_option maxRecDepth 20000 in
theorem gX8_out_X8_keep : GoodIn wsX8_out (wsV RX8 101 RX8 yX8_keep wsX8_keep) := goodIn_app (goodIn_of _ (by decide +kernel)) ggX8_out_X8_keep
theorem dX8_out_0 : decode cX8_out 0 = .ok (.aload_n 0, 1) := by decide +kernel
theorem dX8_out_1 : decode cX8_out 1 = .ok (.iload_n 1, 1) := by decide +kernel
theorem dX8_out_2 : decode cX8_out 2 = .ok (.invokevirtual 104, 3) := by decide +kernel
theorem dX8_out_5 : decode cX8_out 5 = .ok (.ifCond .ne 5, 3) := by decide +kernel
theorem dX8_out_8 : decode cX8_out 8 = .ok (.iconst (-1), 1) := by decide +kernel
theorem dX8_out_9 : decode cX8_out 9 = .ok (.ireturn, 1) := by decide +kernel
theorem dX8_out_10 : decode cX8_out 10 = .ok (.aload_n 0, 1) := by decide +kernel
theorem dX8_out_11 : decode cX8_out 11 = .ok (.getfield 88, 3) := by decide +kernel
theorem dX8_out_14 : decode cX8_out 14 = .ok (.iload_n 1, 1) := by decide +kernel
theorem dX8_out_15 : decode cX8_out 15 = .ok (.ishr, 1) := by decide +kernel
theorem dX8_out_16 : decode cX8_out 16 = .ok (.iconst 1, 1) := by decide +kernel
theorem dX8_out_17 : decode cX8_out 17 = .ok (.iand, 1) := by decide +kernel
theorem dX8_out_18 : decode cX8_out 18 = .ok (.ifCond .ne 6, 3) := by decide +kernel
theorem dX8_out_21 : decode cX8_out 21 = .ok (.bipush (-4), 2) := by decide +kernel
theorem dX8_out_23 : decode cX8_out 23 = .ok (.ireturn, 1) := by decide +kernel
theorem dX8_out_24 : decode cX8_out 24 = .ok (.aload_n 0, 1) := by decide +kernel
theorem dX8_out_25 : decode cX8_out 25 = .ok (.invokevirtual 101, 3) := by decide +kernel
theorem dX8_out_28 : decode cX8_out 28 = .ok (.aload_n 0, 1) := by decide +kernel
theorem dX8_out_29 : decode cX8_out 29 = .ok (.getfield 91, 3) := by decide +kernel
theorem dX8_out_32 : decode cX8_out 32 = .ok (.iload_n 1, 1) := by decide +kernel
theorem dX8_out_33 : decode cX8_out 33 = .ok (.ishr, 1) := by decide +kernel
theorem dX8_out_34 : decode cX8_out 34 = .ok (.iconst 1, 1) := by decide +kernel
theorem dX8_out_35 : decode cX8_out 35 = .ok (.iand, 1) := by decide +kernel
theorem dX8_out_36 : decode cX8_out 36 = .ok (.istore_n 3, 1) := by decide +kernel
theorem dX8_out_37 : decode cX8_out 37 = .ok (.aload_n 0, 1) := by decide +kernel
theorem dX8_out_38 : decode cX8_out 38 = .ok (.iload_n 2, 1) := by decide +kernel
theorem dX8_out_39 : decode cX8_out 39 = .ok (.ifCond .eq 14, 3) := by decide +kernel
theorem dX8_out_42 : decode cX8_out 42 = .ok (.aload_n 0, 1) := by decide +kernel
theorem dX8_out_43 : decode cX8_out 43 = .ok (.getfield 91, 3) := by decide +kernel
theorem dX8_out_46 : decode cX8_out 46 = .ok (.iconst 1, 1) := by decide +kernel
theorem dX8_out_47 : decode cX8_out 47 = .ok (.iload_n 1, 1) := by decide +kernel
theorem dX8_out_48 : decode cX8_out 48 = .ok (.ishl, 1) := by decide +kernel
theorem dX8_out_49 : decode cX8_out 49 = .ok (.ior, 1) := by decide +kernel
theorem dX8_out_50 : decode cX8_out 50 = .ok (.goto 13, 3) := by decide +kernel
theorem dX8_out_53 : decode cX8_out 53 = .ok (.aload_n 0, 1) := by decide +kernel
theorem dX8_out_54 : decode cX8_out 54 = .ok (.getfield 91, 3) := by decide +kernel
theorem dX8_out_57 : decode cX8_out 57 = .ok (.iconst 1, 1) := by decide +kernel
theorem dX8_out_58 : decode cX8_out 58 = .ok (.iload_n 1, 1) := by decide +kernel
theorem dX8_out_59 : decode cX8_out 59 = .ok (.ishl, 1) := by decide +kernel
theorem dX8_out_60 : decode cX8_out 60 = .ok (.iconst (-1), 1) := by decide +kernel
theorem dX8_out_61 : decode cX8_out 61 = .ok (.ixor, 1) := by decide +kernel
theorem dX8_out_62 : decode cX8_out 62 = .ok (.iand, 1) := by decide +kernel
theorem dX8_out_63 : decode cX8_out 63 = .ok (.putfield 91, 3) := by decide +kernel
theorem dX8_out_66 : decode cX8_out 66 = .ok (.iload_n 3, 1) := by decide +kernel
theorem dX8_out_67 : decode cX8_out 67 = .ok (.ireturn, 1) := by decide +kernel
set_option maxRecDepth 20000 in
theorem ggX8_open_X8_isSquare : GoodIn wsX8_open wsX8_isSquare := goodIn_r _ [7, 8, 9, 10, 11, 6, 12, 13, 14, 15, 16, 17, 18, 19, 20, 21, 22, 23, 24, 25, 26, 27, 28, 29, 30, 31, 32, 33, 34, 35, 36, 37, 38, 39, 40, 41, 42, 43, 44, 45] (by decide +kernel) (by decide +kernel)
set_option maxRecDepth 20000 in
theorem gX8_open_X8_isSquare : GoodIn wsX8_open (wsV RX8 108 RX8 yX8_isSquare wsX8_isSquare) := goodIn_app (goodIn_of _ (by decide +kernel)) ggX8_open_X8_isSquare
theorem dX8_open_0 : decode cX8_open 0 = .ok (.aload_n 0, 1) := by decide +kernel
theorem dX8_open_1 : decode cX8_open 1 = .ok (.iload_n 1, 1) := by decide +kernel
theorem dX8_open_2 : decode cX8_open 2 = .ok (.iload_n 2, 1) := by decide +kernel
theorem dX8_open_3 : decode cX8_open 3 = .ok (.invokevirtual 108, 3) := by decide +kernel
theorem dX8_open_6 : decode cX8_open 6 = .ok (.ifCond .ne 7, 3) := by decide +kernel
theorem dX8_open_9 : decode cX8_open 9 = .ok (.iconst (-1), 1) := by decide +kernel
theorem dX8_open_10 : decode cX8_open 10 = .ok (.goto 29, 3) := by decide +kernel
theorem dX8_open_13 : decode cX8_open 13 = .ok (.aload_n 0, 1) := by decide +kernel
theorem dX8_open_14 : decode cX8_open 14 = .ok (.getfield 20, 3) := by decide +kernel
theorem dX8_open_17 : decode cX8_open 17 = .ok (.bipush 20, 2) := by decide +kernel
theorem dX8_open_19 : decode cX8_open 19 = .ok (.iload_n 2, 1) := by decide +kernel
theorem dX8_open_20 : decode cX8_open 20 = .ok (.imul, 1) := by decide +kernel
theorem dX8_open_21 : decode cX8_open 21 = .ok (.iload_n 1, 1) := by decide +kernel
theorem dX8_open_22 : decode cX8_open 22 = .ok (.iadd, 1) := by decide +kernel
theorem dX8_open_23 : decode cX8_open 23 = .ok (.iaload, 1) := by decide +kernel
theorem dX8_open_24 : decode cX8_open 24 = .ok (.aload_n 0, 1) := by decide +kernel
theorem dX8_open_25 : decode cX8_open 25 = .ok (.getfield 91, 3) := by decide +kernel
theorem dX8_open_28 : decode cX8_open 28 = .ok (.iconst (-1), 1) := by decide +kernel
theorem dX8_open_29 : decode cX8_open 29 = .ok (.ixor, 1) := by decide +kernel
theorem dX8_open_30 : decode cX8_open 30 = .ok (.iand, 1) := by decide +kernel
theorem dX8_open_31 : decode cX8_open 31 = .ok (.ifCond .ne 7, 3) := by decide +kernel
theorem dX8_open_34 : decode cX8_open 34 = .ok (.iconst 1, 1) := by decide +kernel
theorem dX8_open_35 : decode cX8_open 35 = .ok (.goto 4, 3) := by decide +kernel
theorem dX8_open_38 : decode cX8_open 38 = .ok (.iconst 0, 1) := by decide +kernel
theorem dX8_open_39 : decode cX8_open 39 = .ok (.ireturn, 1) := by decide +kernel
theorem dX8_leastOn_0 : decode cX8_leastOn 0 = .ok (.iconst 0, 1) := by decide +kernel
theorem dX8_leastOn_1 : decode cX8_leastOn 1 = .ok (.istore_n 3, 1) := by decide +kernel
theorem dX8_leastOn_2 : decode cX8_leastOn 2 = .ok (.iload_n 3, 1) := by decide +kernel
theorem dX8_leastOn_3 : decode cX8_leastOn 3 = .ok (.aload_n 0, 1) := by decide +kernel
theorem dX8_leastOn_4 : decode cX8_leastOn 4 = .ok (.getfield 85, 3) := by decide +kernel
theorem dX8_leastOn_7 : decode cX8_leastOn 7 = .ok (.if_icmp .ge 37, 3) := by decide +kernel
theorem dX8_leastOn_10 : decode cX8_leastOn 10 = .ok (.aload_n 0, 1) := by decide +kernel
theorem dX8_leastOn_11 : decode cX8_leastOn 11 = .ok (.getfield 20, 3) := by decide +kernel
theorem dX8_leastOn_14 : decode cX8_leastOn 14 = .ok (.bipush 20, 2) := by decide +kernel
theorem dX8_leastOn_16 : decode cX8_leastOn 16 = .ok (.iload_n 2, 1) := by decide +kernel
theorem dX8_leastOn_17 : decode cX8_leastOn 17 = .ok (.imul, 1) := by decide +kernel
theorem dX8_leastOn_18 : decode cX8_leastOn 18 = .ok (.iload_n 1, 1) := by decide +kernel
theorem dX8_leastOn_19 : decode cX8_leastOn 19 = .ok (.iadd, 1) := by decide +kernel
theorem dX8_leastOn_20 : decode cX8_leastOn 20 = .ok (.iaload, 1) := by decide +kernel
theorem dX8_leastOn_21 : decode cX8_leastOn 21 = .ok (.aload_n 0, 1) := by decide +kernel
theorem dX8_leastOn_22 : decode cX8_leastOn 22 = .ok (.getfield 91, 3) := by decide +kernel
theorem dX8_leastOn_25 : decode cX8_leastOn 25 = .ok (.iconst (-1), 1) := by decide +kernel
theorem dX8_leastOn_26 : decode cX8_leastOn 26 = .ok (.ixor, 1) := by decide +kernel
theorem dX8_leastOn_27 : decode cX8_leastOn 27 = .ok (.iand, 1) := by decide +kernel
theorem dX8_leastOn_28 : decode cX8_leastOn 28 = .ok (.iload_n 3, 1) := by decide +kernel
theorem dX8_leastOn_29 : decode cX8_leastOn 29 = .ok (.ishr, 1) := by decide +kernel
theorem dX8_leastOn_30 : decode cX8_leastOn 30 = .ok (.iconst 1, 1) := by decide +kernel
theorem dX8_leastOn_31 : decode cX8_leastOn 31 = .ok (.iand, 1) := by decide +kernel
theorem dX8_leastOn_32 : decode cX8_leastOn 32 = .ok (.iconst 1, 1) := by decide +kernel
theorem dX8_leastOn_33 : decode cX8_leastOn 33 = .ok (.if_icmp .ne 5, 3) := by decide +kernel
theorem dX8_leastOn_36 : decode cX8_leastOn 36 = .ok (.iload_n 3, 1) := by decide +kernel
theorem dX8_leastOn_37 : decode cX8_leastOn 37 = .ok (.ireturn, 1) := by decide +kernel
theorem dX8_leastOn_38 : decode cX8_leastOn 38 = .ok (.iinc 3 1, 3) := by decide +kernel
theorem dX8_leastOn_41 : decode cX8_leastOn 41 = .ok (.goto (-39), 3) := by decide +kernel
theorem dX8_leastOn_44 : decode cX8_leastOn 44 = .ok (.bipush (-9), 2) := by decide +kernel
theorem dX8_leastOn_46 : decode cX8_leastOn 46 = .ok (.ireturn, 1) := by decide +kernel
set_option maxRecDepth 20000 in
theorem ggX8_on_X8_isSquare : GoodIn wsX8_on wsX8_isSquare := goodIn_r _ [5, 6, 7, 8, 9, 4, 10, 18, 19, 20, 21, 22, 23, 24, 25, 26, 27, 28, 29, 30, 31, 32, 33, 34, 35, 36, 37, 38, 39, 40, 41, 42, 43, 44, 45, 46, 47, 48, 49, 50] (by decide +kernel) (by decide +kernel)
set_option maxRecDepth 20000 in
theorem gX8_on_X8_isSquare : GoodIn wsX8_on (wsV RX8 108 RX8 yX8_isSquare wsX8_isSquare) := goodIn_app (goodIn_of _ (by decide +kernel)) ggX8_on_X8_isSquare
set_option maxRecDepth 20000 in
theorem ggX8_on_X8_leastOn : GoodIn wsX8_on wsX8_leastOn := goodIn_r _ [14, 15, 16, 17, 18, 19, 20, 21, 22, 23, 24, 25, 26, 27, 28, 29, 30, 31, 32, 33, 34, 35, 36, 37, 38, 39, 40, 41, 42, 43, 44, 45, 46, 47, 48, 49, 50] (by decide +kernel) (by decide +kernel)
set_option maxRecDepth 20000 in
theorem gX8_on_X8_leastOn : GoodIn wsX8_on (wsV RX8 112 RX8 yX8_leastOn wsX8_leastOn) := goodIn_app (goodIn_of _ (by decide +kernel)) ggX8_on_X8_leastOn
theorem dX8_on_0 : decode cX8_on 0 = .ok (.aload_n 0, 1) := by decide +kernel
theorem dX8_on_1 : decode cX8_on 1 = .ok (.iload_n 1, 1) := by decide +kernel
theorem dX8_on_2 : decode cX8_on 2 = .ok (.iload_n 2, 1) := by decide +kernel
theorem dX8_on_3 : decode cX8_on 3 = .ok (.invokevirtual 108, 3) := by decide +kernel
theorem dX8_on_6 : decode cX8_on 6 = .ok (.ifCond .eq 12, 3) := by decide +kernel
theorem dX8_on_9 : decode cX8_on 9 = .ok (.aload_n 0, 1) := by decide +kernel
theorem dX8_on_10 : decode cX8_on 10 = .ok (.iload_n 1, 1) := by decide +kernel
theorem dX8_on_11 : decode cX8_on 11 = .ok (.iload_n 2, 1) := by decide +kernel
theorem dX8_on_12 : decode cX8_on 12 = .ok (.invokevirtual 112, 3) := by decide +kernel
theorem dX8_on_15 : decode cX8_on 15 = .ok (.goto 4, 3) := by decide +kernel
theorem dX8_on_18 : decode cX8_on 18 = .ok (.iconst (-1), 1) := by decide +kernel
theorem dX8_on_19 : decode cX8_on 19 = .ok (.ireturn, 1) := by decide +kernel
set_option maxRecDepth 20000 in
theorem ggX8_rows_X8_meets : GoodIn wsX8_rows wsX8_meets := goodIn_r _ [7, 8, 9, 10, 11, 12, 13, 14, 15, 16, 17, 18, 19, 20, 21, 22, 23, 24, 25, 26, 27, 28, 29, 30, 31, 32, 33, 34, 35, 36, 37, 38, 39, 40, 41, 42] (by decide +kernel) (by decide +kernel)
set_option maxRecDepth 20000 in
theorem gX8_rows_X8_meets : GoodIn wsX8_rows (wsV RX8 116 RX8 yX8_meets wsX8_meets) := goodIn_app (goodIn_of _ (by decide +kernel)) ggX8_rows_X8_meets
theorem dX8_rows_0 : decode cX8_rows 0 = .ok (.iload_n 1, 1) := by decide +kernel
theorem dX8_rows_1 : decode cX8_rows 1 = .ok (.bipush 6, 2) := by decide +kernel
theorem dX8_rows_3 : decode cX8_rows 3 = .ok (.if_icmp .le 5, 3) := by decide +kernel
theorem dX8_rows_6 : decode cX8_rows 6 = .ok (.iconst (-1), 1) := by decide +kernel
theorem dX8_rows_7 : decode cX8_rows 7 = .ok (.ireturn, 1) := by decide +kernel
theorem dX8_rows_8 : decode cX8_rows 8 = .ok (.iload_n 1, 1) := by decide +kernel
theorem dX8_rows_9 : decode cX8_rows 9 = .ok (.ifCond .ge 9, 3) := by decide +kernel
theorem dX8_rows_12 : decode cX8_rows 12 = .ok (.aload_n 0, 1) := by decide +kernel
theorem dX8_rows_13 : decode cX8_rows 13 = .ok (.iconst 4, 1) := by decide +kernel
theorem dX8_rows_14 : decode cX8_rows 14 = .ok (.invokevirtual 116, 3) := by decide +kernel
theorem dX8_rows_17 : decode cX8_rows 17 = .ok (.ireturn, 1) := by decide +kernel
theorem dX8_rows_18 : decode cX8_rows 18 = .ok (.aload_n 0, 1) := by decide +kernel
theorem dX8_rows_19 : decode cX8_rows 19 = .ok (.iload_n 1, 1) := by decide +kernel
theorem dX8_rows_20 : decode cX8_rows 20 = .ok (.putfield 119, 3) := by decide +kernel
theorem dX8_rows_23 : decode cX8_rows 23 = .ok (.iconst 0, 1) := by decide +kernel
theorem dX8_rows_24 : decode cX8_rows 24 = .ok (.istore_n 2, 1) := by decide +kernel
theorem dX8_rows_25 : decode cX8_rows 25 = .ok (.iload_n 2, 1) := by decide +kernel
theorem dX8_rows_26 : decode cX8_rows 26 = .ok (.bipush 6, 2) := by decide +kernel
theorem dX8_rows_28 : decode cX8_rows 28 = .ok (.if_icmp .ge 17, 3) := by decide +kernel
theorem dX8_rows_31 : decode cX8_rows 31 = .ok (.aload_n 0, 1) := by decide +kernel
theorem dX8_rows_32 : decode cX8_rows 32 = .ok (.getfield 38, 3) := by decide +kernel
theorem dX8_rows_35 : decode cX8_rows 35 = .ok (.iload_n 2, 1) := by decide +kernel
theorem dX8_rows_36 : decode cX8_rows 36 = .ok (.bipush (-9), 2) := by decide +kernel
theorem dX8_rows_38 : decode cX8_rows 38 = .ok (.iastore, 1) := by decide +kernel
theorem dX8_rows_39 : decode cX8_rows 39 = .ok (.iinc 2 1, 3) := by decide +kernel
theorem dX8_rows_42 : decode cX8_rows 42 = .ok (.goto (-17), 3) := by decide +kernel
theorem dX8_rows_45 : decode cX8_rows 45 = .ok (.iload_n 1, 1) := by decide +kernel
theorem dX8_rows_46 : decode cX8_rows 46 = .ok (.ireturn, 1) := by decide +kernel
set_option maxRecDepth 20000 in
theorem ggX8_isRow_X8_in : GoodIn wsX8_isRow wsX8_in := goodIn_r _ [5] (by decide +kernel) (by decide +kernel)
set_option maxRecDepth 20000 in
theorem gX8_isRow_X8_in : GoodIn wsX8_isRow (va_wsS RX8 81 yX8_in wsX8_in) := goodIn_app (goodIn_of _ (by decide +kernel)) ggX8_isRow_X8_in
theorem dX8_isRow_0 : decode cX8_isRow 0 = .ok (.iload_n 1, 1) := by decide +kernel
theorem dX8_isRow_1 : decode cX8_isRow 1 = .ok (.iconst 0, 1) := by decide +kernel
theorem dX8_isRow_2 : decode cX8_isRow 2 = .ok (.aload_n 0, 1) := by decide +kernel
theorem dX8_isRow_3 : decode cX8_isRow 3 = .ok (.getfield 119, 3) := by decide +kernel
theorem dX8_isRow_6 : decode cX8_isRow 6 = .ok (.iconst 1, 1) := by decide +kernel
theorem dX8_isRow_7 : decode cX8_isRow 7 = .ok (.isub, 1) := by decide +kernel
theorem dX8_isRow_8 : decode cX8_isRow 8 = .ok (.invokestatic 81, 3) := by decide +kernel
theorem dX8_isRow_11 : decode cX8_isRow 11 = .ok (.ireturn, 1) := by decide +kernel
set_option maxRecDepth 20000 in
theorem ggX8_row_X8_in : GoodIn wsX8_row wsX8_in := goodIn_r _ [5] (by decide +kernel) (by decide +kernel)
set_option maxRecDepth 20000 in
theorem gX8_row_X8_in : GoodIn wsX8_row (va_wsS RX8 81 yX8_in wsX8_in) := goodIn_app (goodIn_of _ (by decide +kernel)) ggX8_row_X8_in
set_option maxRecDepth 20000 in
theorem ggX8_row_X8_isRow : GoodIn wsX8_row wsX8_isRow := goodIn_r _ [9, 10, 2, 3, 4, 5, 17, 18, 19, 20, 21, 22, 23, 24, 25, 26, 27, 28, 29, 30, 31, 32, 33, 34, 35, 36, 37, 38, 39, 40, 41, 42, 43, 44, 45, 46, 47, 48, 49] (by decide +kernel) (by decide +kernel)
set_option maxRecDepth 20000 in
theorem gX8_row_X8_isRow : GoodIn wsX8_row (wsV RX8 122 RX8 yX8_isRow wsX8_isRow) := goodIn_app (goodIn_of _ (by decide +kernel)) ggX8_row_X8_isRow
set_option maxRecDepth 20000 in
theorem ggX8_row_X8_meets : GoodIn wsX8_row wsX8_meets := goodIn_r _ [14, 15, 16, 17, 18, 19, 20, 21, 22, 23, 24, 25, 26, 27, 28, 29, 30, 31, 32, 33, 34, 35, 36, 37, 38, 39, 40, 41, 42, 43, 44, 45, 46, 47, 48, 49] (by decide +kernel) (by decide +kernel)
set_option maxRecDepth 20000 in
theorem gX8_row_X8_meets : GoodIn wsX8_row (wsV RX8 116 RX8 yX8_meets wsX8_meets) := goodIn_app (goodIn_of _ (by decide +kernel)) ggX8_row_X8_meets
theorem dX8_row_0 : decode cX8_row 0 = .ok (.iload_n 2, 1) := by decide +kernel
theorem dX8_row_1 : decode cX8_row 1 = .ok (.iconst 0, 1) := by decide +kernel
theorem dX8_row_2 : decode cX8_row 2 = .ok (.bipush 63, 2) := by decide +kernel
theorem dX8_row_4 : decode cX8_row 4 = .ok (.invokestatic 81, 3) := by decide +kernel
theorem dX8_row_7 : decode cX8_row 7 = .ok (.ifCond .ne 5, 3) := by decide +kernel
theorem dX8_row_10 : decode cX8_row 10 = .ok (.iconst (-1), 1) := by decide +kernel
theorem dX8_row_11 : decode cX8_row 11 = .ok (.ireturn, 1) := by decide +kernel
theorem dX8_row_12 : decode cX8_row 12 = .ok (.aload_n 0, 1) := by decide +kernel
theorem dX8_row_13 : decode cX8_row 13 = .ok (.iload_n 1, 1) := by decide +kernel
theorem dX8_row_14 : decode cX8_row 14 = .ok (.invokevirtual 122, 3) := by decide +kernel
theorem dX8_row_17 : decode cX8_row 17 = .ok (.ifCond .ne 9, 3) := by decide +kernel
theorem dX8_row_20 : decode cX8_row 20 = .ok (.aload_n 0, 1) := by decide +kernel
theorem dX8_row_21 : decode cX8_row 21 = .ok (.iconst 2, 1) := by decide +kernel
theorem dX8_row_22 : decode cX8_row 22 = .ok (.invokevirtual 116, 3) := by decide +kernel
theorem dX8_row_25 : decode cX8_row 25 = .ok (.ireturn, 1) := by decide +kernel
theorem dX8_row_26 : decode cX8_row 26 = .ok (.aload_n 0, 1) := by decide +kernel
theorem dX8_row_27 : decode cX8_row 27 = .ok (.getfield 38, 3) := by decide +kernel
theorem dX8_row_30 : decode cX8_row 30 = .ok (.iload_n 1, 1) := by decide +kernel
theorem dX8_row_31 : decode cX8_row 31 = .ok (.iload_n 2, 1) := by decide +kernel
theorem dX8_row_32 : decode cX8_row 32 = .ok (.iastore, 1) := by decide +kernel
theorem dX8_row_33 : decode cX8_row 33 = .ok (.iconst 1, 1) := by decide +kernel
theorem dX8_row_34 : decode cX8_row 34 = .ok (.ireturn, 1) := by decide +kernel
set_option maxRecDepth 20000 in
theorem ggX8_tear_X8_isRow : GoodIn wsX8_tear wsX8_isRow := goodIn_r _ [6, 7, 8, 9, 5, 10, 17, 18, 19, 20, 21, 22, 23, 24, 25, 26, 27, 28, 29, 30, 31, 32, 33, 34, 35, 36, 37, 38, 39, 40, 41, 42, 43, 44, 45, 46, 47, 48, 49] (by decide +kernel) (by decide +kernel)
set_option maxRecDepth 20000 in
theorem gX8_tear_X8_isRow : GoodIn wsX8_tear (wsV RX8 122 RX8 yX8_isRow wsX8_isRow) := goodIn_app (goodIn_of _ (by decide +kernel)) ggX8_tear_X8_isRow
set_option maxRecDepth 20000 in
theorem ggX8_tear_X8_meets : GoodIn wsX8_tear wsX8_meets := goodIn_r _ [14, 15, 16, 17, 18, 19, 20, 21, 22, 23, 24, 25, 26, 27, 28, 29, 30, 31, 32, 33, 34, 35, 36, 37, 38, 39, 40, 41, 42, 43, 44, 45, 46, 47, 48, 49] (by decide +kernel) (by decide +kernel)
set_option maxRecDepth 20000 in
theorem gX8_tear_X8_meets : GoodIn wsX8_tear (wsV RX8 116 RX8 yX8_meets wsX8_meets) := goodIn_app (goodIn_of _ (by decide +kernel)) ggX8_tear_X8_meets
theorem dX8_tear_0 : decode cX8_tear 0 = .ok (.aload_n 0, 1) := by decide +kernel
theorem dX8_tear_1 : decode cX8_tear 1 = .ok (.iload_n 1, 1) := by decide +kernel
theorem dX8_tear_2 : decode cX8_tear 2 = .ok (.invokevirtual 122, 3) := by decide +kernel
theorem dX8_tear_5 : decode cX8_tear 5 = .ok (.ifCond .ne 9, 3) := by decide +kernel
theorem dX8_tear_8 : decode cX8_tear 8 = .ok (.aload_n 0, 1) := by decide +kernel
theorem dX8_tear_9 : decode cX8_tear 9 = .ok (.iconst 2, 1) := by decide +kernel
theorem dX8_tear_10 : decode cX8_tear 10 = .ok (.invokevirtual 116, 3) := by decide +kernel
theorem dX8_tear_13 : decode cX8_tear 13 = .ok (.ireturn, 1) := by decide +kernel
theorem dX8_tear_14 : decode cX8_tear 14 = .ok (.aload_n 0, 1) := by decide +kernel
theorem dX8_tear_15 : decode cX8_tear 15 = .ok (.getfield 38, 3) := by decide +kernel
theorem dX8_tear_18 : decode cX8_tear 18 = .ok (.iload_n 1, 1) := by decide +kernel
theorem dX8_tear_19 : decode cX8_tear 19 = .ok (.iaload, 1) := by decide +kernel
theorem dX8_tear_20 : decode cX8_tear 20 = .ok (.ifCond .ge 9, 3) := by decide +kernel
theorem dX8_tear_23 : decode cX8_tear 23 = .ok (.aload_n 0, 1) := by decide +kernel
theorem dX8_tear_24 : decode cX8_tear 24 = .ok (.iconst 1, 1) := by decide +kernel
theorem dX8_tear_25 : decode cX8_tear 25 = .ok (.invokevirtual 116, 3) := by decide +kernel
theorem dX8_tear_28 : decode cX8_tear 28 = .ok (.ireturn, 1) := by decide +kernel
theorem dX8_tear_29 : decode cX8_tear 29 = .ok (.aload_n 0, 1) := by decide +kernel
theorem dX8_tear_30 : decode cX8_tear 30 = .ok (.getfield 38, 3) := by decide +kernel
theorem dX8_tear_33 : decode cX8_tear 33 = .ok (.iload_n 1, 1) := by decide +kernel
theorem dX8_tear_34 : decode cX8_tear 34 = .ok (.bipush (-9), 2) := by decide +kernel
theorem dX8_tear_36 : decode cX8_tear 36 = .ok (.iastore, 1) := by decide +kernel
theorem dX8_tear_37 : decode cX8_tear 37 = .ok (.iconst 1, 1) := by decide +kernel
theorem dX8_tear_38 : decode cX8_tear 38 = .ok (.ireturn, 1) := by decide +kernel
set_option maxRecDepth 20000 in
theorem ggX8_copy_X8_meets : GoodIn wsX8_copy wsX8_meets := goodIn_r _ [8, 9, 10, 11, 12, 13, 14, 15, 16, 17, 18, 19, 20, 21, 22, 23, 24, 25, 26, 27, 28, 29, 30, 31, 32, 33, 34, 35, 36, 37, 38, 39, 40, 41, 42, 43] (by decide +kernel) (by decide +kernel)
set_option maxRecDepth 20000 in
theorem gX8_copy_X8_meets : GoodIn wsX8_copy (wsV RX8 116 RX8 yX8_meets wsX8_meets) := goodIn_app (goodIn_of _ (by decide +kernel)) ggX8_copy_X8_meets
theorem dX8_copy_0 : decode cX8_copy 0 = .ok (.iload_n 1, 1) := by decide +kernel
theorem dX8_copy_1 : decode cX8_copy 1 = .ok (.ifCond .lt 39, 3) := by decide +kernel
theorem dX8_copy_4 : decode cX8_copy 4 = .ok (.iload_n 2, 1) := by decide +kernel
theorem dX8_copy_5 : decode cX8_copy 5 = .ok (.ifCond .lt 35, 3) := by decide +kernel
theorem dX8_copy_8 : decode cX8_copy 8 = .ok (.iload_n 3, 1) := by decide +kernel
theorem dX8_copy_9 : decode cX8_copy 9 = .ok (.ifCond .lt 31, 3) := by decide +kernel
theorem dX8_copy_12 : decode cX8_copy 12 = .ok (.iload_n 1, 1) := by decide +kernel
theorem dX8_copy_13 : decode cX8_copy 13 = .ok (.i2l, 1) := by decide +kernel
theorem dX8_copy_14 : decode cX8_copy 14 = .ok (.iload_n 3, 1) := by decide +kernel
theorem dX8_copy_15 : decode cX8_copy 15 = .ok (.i2l, 1) := by decide +kernel
theorem dX8_copy_16 : decode cX8_copy 16 = .ok (.ladd, 1) := by decide +kernel
theorem dX8_copy_17 : decode cX8_copy 17 = .ok (.aload_n 0, 1) := by decide +kernel
theorem dX8_copy_18 : decode cX8_copy 18 = .ok (.getfield 119, 3) := by decide +kernel
theorem dX8_copy_21 : decode cX8_copy 21 = .ok (.i2l, 1) := by decide +kernel
theorem dX8_copy_22 : decode cX8_copy 22 = .ok (.lcmp, 1) := by decide +kernel
theorem dX8_copy_23 : decode cX8_copy 23 = .ok (.ifCond .gt 17, 3) := by decide +kernel
theorem dX8_copy_26 : decode cX8_copy 26 = .ok (.iload_n 2, 1) := by decide +kernel
theorem dX8_copy_27 : decode cX8_copy 27 = .ok (.i2l, 1) := by decide +kernel
theorem dX8_copy_28 : decode cX8_copy 28 = .ok (.iload_n 3, 1) := by decide +kernel
theorem dX8_copy_29 : decode cX8_copy 29 = .ok (.i2l, 1) := by decide +kernel
theorem dX8_copy_30 : decode cX8_copy 30 = .ok (.ladd, 1) := by decide +kernel
theorem dX8_copy_31 : decode cX8_copy 31 = .ok (.aload_n 0, 1) := by decide +kernel
theorem dX8_copy_32 : decode cX8_copy 32 = .ok (.getfield 119, 3) := by decide +kernel
theorem dX8_copy_35 : decode cX8_copy 35 = .ok (.i2l, 1) := by decide +kernel
theorem dX8_copy_36 : decode cX8_copy 36 = .ok (.lcmp, 1) := by decide +kernel
theorem dX8_copy_37 : decode cX8_copy 37 = .ok (.ifCond .le 9, 3) := by decide +kernel
theorem dX8_copy_40 : decode cX8_copy 40 = .ok (.aload_n 0, 1) := by decide +kernel
theorem dX8_copy_41 : decode cX8_copy 41 = .ok (.iconst 2, 1) := by decide +kernel
theorem dX8_copy_42 : decode cX8_copy 42 = .ok (.invokevirtual 116, 3) := by decide +kernel
theorem dX8_copy_45 : decode cX8_copy 45 = .ok (.ireturn, 1) := by decide +kernel
theorem dX8_copy_46 : decode cX8_copy 46 = .ok (.iconst 0, 1) := by decide +kernel
theorem dX8_copy_47 : decode cX8_copy 47 = .ok (.istore 4, 2) := by decide +kernel
theorem dX8_copy_49 : decode cX8_copy 49 = .ok (.iload 4, 2) := by decide +kernel
theorem dX8_copy_51 : decode cX8_copy 51 = .ok (.iload_n 3, 1) := by decide +kernel
theorem dX8_copy_52 : decode cX8_copy 52 = .ok (.if_icmp .ge 25, 3) := by decide +kernel
theorem dX8_copy_55 : decode cX8_copy 55 = .ok (.aload_n 0, 1) := by decide +kernel
theorem dX8_copy_56 : decode cX8_copy 56 = .ok (.getfield 41, 3) := by decide +kernel
theorem dX8_copy_59 : decode cX8_copy 59 = .ok (.iload 4, 2) := by decide +kernel
theorem dX8_copy_61 : decode cX8_copy 61 = .ok (.aload_n 0, 1) := by decide +kernel
theorem dX8_copy_62 : decode cX8_copy 62 = .ok (.getfield 38, 3) := by decide +kernel
theorem dX8_copy_65 : decode cX8_copy 65 = .ok (.iload_n 1, 1) := by decide +kernel
theorem dX8_copy_66 : decode cX8_copy 66 = .ok (.iload 4, 2) := by decide +kernel
theorem dX8_copy_68 : decode cX8_copy 68 = .ok (.iadd, 1) := by decide +kernel
theorem dX8_copy_69 : decode cX8_copy 69 = .ok (.iaload, 1) := by decide +kernel
theorem dX8_copy_70 : decode cX8_copy 70 = .ok (.iastore, 1) := by decide +kernel
theorem dX8_copy_71 : decode cX8_copy 71 = .ok (.iinc 4 1, 3) := by decide +kernel
theorem dX8_copy_74 : decode cX8_copy 74 = .ok (.goto (-25), 3) := by decide +kernel
theorem dX8_copy_77 : decode cX8_copy 77 = .ok (.iconst 0, 1) := by decide +kernel
theorem dX8_copy_78 : decode cX8_copy 78 = .ok (.istore 4, 2) := by decide +kernel
theorem dX8_copy_80 : decode cX8_copy 80 = .ok (.iload 4, 2) := by decide +kernel
theorem dX8_copy_82 : decode cX8_copy 82 = .ok (.iload_n 3, 1) := by decide +kernel
theorem dX8_copy_83 : decode cX8_copy 83 = .ok (.if_icmp .ge 25, 3) := by decide +kernel
theorem dX8_copy_86 : decode cX8_copy 86 = .ok (.aload_n 0, 1) := by decide +kernel
theorem dX8_copy_87 : decode cX8_copy 87 = .ok (.getfield 38, 3) := by decide +kernel
theorem dX8_copy_90 : decode cX8_copy 90 = .ok (.iload_n 2, 1) := by decide +kernel
theorem dX8_copy_91 : decode cX8_copy 91 = .ok (.iload 4, 2) := by decide +kernel
theorem dX8_copy_93 : decode cX8_copy 93 = .ok (.iadd, 1) := by decide +kernel
theorem dX8_copy_94 : decode cX8_copy 94 = .ok (.aload_n 0, 1) := by decide +kernel
theorem dX8_copy_95 : decode cX8_copy 95 = .ok (.getfield 41, 3) := by decide +kernel
theorem dX8_copy_98 : decode cX8_copy 98 = .ok (.iload 4, 2) := by decide +kernel
theorem dX8_copy_100 : decode cX8_copy 100 = .ok (.iaload, 1) := by decide +kernel
theorem dX8_copy_101 : decode cX8_copy 101 = .ok (.iastore, 1) := by decide +kernel
theorem dX8_copy_102 : decode cX8_copy 102 = .ok (.iinc 4 1, 3) := by decide +kernel
theorem dX8_copy_105 : decode cX8_copy 105 = .ok (.goto (-25), 3) := by decide +kernel
theorem dX8_copy_108 : decode cX8_copy 108 = .ok (.iconst 1, 1) := by decide +kernel
theorem dX8_copy_109 : decode cX8_copy 109 = .ok (.ireturn, 1) := by decide +kernel
set_option maxRecDepth 20000 in
theorem ggX8_told_X8_isRow : GoodIn wsX8_told wsX8_isRow := goodIn_r _ [6, 7, 8, 9, 5, 10, 17, 18, 19, 20, 21, 22, 23, 24, 25, 26, 27, 28, 29, 30, 31, 32, 33, 34, 35, 36, 37, 38, 39, 40, 41, 42, 43, 44, 45, 46, 47, 48, 49] (by decide +kernel) (by decide +kernel)
set_option maxRecDepth 20000 in
theorem gX8_told_X8_isRow : GoodIn wsX8_told (wsV RX8 122 RX8 yX8_isRow wsX8_isRow) := goodIn_app (goodIn_of _ (by decide +kernel)) ggX8_told_X8_isRow
set_option maxRecDepth 20000 in
theorem ggX8_told_X8_meets : GoodIn wsX8_told wsX8_meets := goodIn_r _ [14, 15, 16, 17, 18, 19, 20, 21, 22, 23, 24, 25, 26, 27, 28, 29, 30, 31, 32, 33, 34, 35, 36, 37, 38, 39, 40, 41, 42, 43, 44, 45, 46, 47, 48, 49] (by decide +kernel) (by decide +kernel)
set_option maxRecDepth 20000 in
theorem gX8_told_X8_meets : GoodIn wsX8_told (wsV RX8 116 RX8 yX8_meets wsX8_meets) := goodIn_app (goodIn_of _ (by decide +kernel)) ggX8_told_X8_meets
theorem dX8_told_0 : decode cX8_told 0 = .ok (.aload_n 0, 1) := by decide +kernel
theorem dX8_told_1 : decode cX8_told 1 = .ok (.iload_n 1, 1) := by decide +kernel
theorem dX8_told_2 : decode cX8_told 2 = .ok (.invokevirtual 122, 3) := by decide +kernel
theorem dX8_told_5 : decode cX8_told 5 = .ok (.ifCond .ne 11, 3) := by decide +kernel
theorem dX8_told_8 : decode cX8_told 8 = .ok (.aload_n 0, 1) := by decide +kernel
theorem dX8_told_9 : decode cX8_told 9 = .ok (.iconst 2, 1) := by decide +kernel
theorem dX8_told_10 : decode cX8_told 10 = .ok (.invokevirtual 116, 3) := by decide +kernel
theorem dX8_told_13 : decode cX8_told 13 = .ok (.goto 26, 3) := by decide +kernel
theorem dX8_told_16 : decode cX8_told 16 = .ok (.aload_n 0, 1) := by decide +kernel
theorem dX8_told_17 : decode cX8_told 17 = .ok (.getfield 38, 3) := by decide +kernel
theorem dX8_told_20 : decode cX8_told 20 = .ok (.iload_n 1, 1) := by decide +kernel
theorem dX8_told_21 : decode cX8_told 21 = .ok (.iaload, 1) := by decide +kernel
theorem dX8_told_22 : decode cX8_told 22 = .ok (.ifCond .ge 11, 3) := by decide +kernel
theorem dX8_told_25 : decode cX8_told 25 = .ok (.aload_n 0, 1) := by decide +kernel
theorem dX8_told_26 : decode cX8_told 26 = .ok (.iconst 1, 1) := by decide +kernel
theorem dX8_told_27 : decode cX8_told 27 = .ok (.invokevirtual 116, 3) := by decide +kernel
theorem dX8_told_30 : decode cX8_told 30 = .ok (.goto 9, 3) := by decide +kernel
theorem dX8_told_33 : decode cX8_told 33 = .ok (.aload_n 0, 1) := by decide +kernel
theorem dX8_told_34 : decode cX8_told 34 = .ok (.getfield 38, 3) := by decide +kernel
theorem dX8_told_37 : decode cX8_told 37 = .ok (.iload_n 1, 1) := by decide +kernel
theorem dX8_told_38 : decode cX8_told 38 = .ok (.iaload, 1) := by decide +kernel
theorem dX8_told_39 : decode cX8_told 39 = .ok (.ireturn, 1) := by decide +kernel
set_option maxRecDepth 20000 in
theorem ggX8_hold_X8_in : GoodIn wsX8_hold wsX8_in := goodIn_r _ [6] (by decide +kernel) (by decide +kernel)
set_option maxRecDepth 20000 in
theorem gX8_hold_X8_in : GoodIn wsX8_hold (va_wsS RX8 81 yX8_in wsX8_in) := goodIn_app (goodIn_of _ (by decide +kernel)) ggX8_hold_X8_in
theorem dX8_hold_0 : decode cX8_hold 0 = .ok (.iload_n 1, 1) := by decide +kernel
theorem dX8_hold_1 : decode cX8_hold 1 = .ok (.iconst 0, 1) := by decide +kernel
theorem dX8_hold_2 : decode cX8_hold 2 = .ok (.bipush 6, 2) := by decide +kernel
theorem dX8_hold_4 : decode cX8_hold 4 = .ok (.invokestatic 81, 3) := by decide +kernel
theorem dX8_hold_7 : decode cX8_hold 7 = .ok (.ifCond .eq 13, 3) := by decide +kernel
theorem dX8_hold_10 : decode cX8_hold 10 = .ok (.iload_n 2, 1) := by decide +kernel
theorem dX8_hold_11 : decode cX8_hold 11 = .ok (.iconst 0, 1) := by decide +kernel
theorem dX8_hold_12 : decode cX8_hold 12 = .ok (.bipush 6, 2) := by decide +kernel
theorem dX8_hold_14 : decode cX8_hold 14 = .ok (.invokestatic 81, 3) := by decide +kernel
theorem dX8_hold_17 : decode cX8_hold 17 = .ok (.ifCond .ne 5, 3) := by decide +kernel
theorem dX8_hold_20 : decode cX8_hold 20 = .ok (.iconst (-1), 1) := by decide +kernel
theorem dX8_hold_21 : decode cX8_hold 21 = .ok (.ireturn, 1) := by decide +kernel
theorem dX8_hold_22 : decode cX8_hold 22 = .ok (.aload_n 0, 1) := by decide +kernel
theorem dX8_hold_23 : decode cX8_hold 23 = .ok (.iload_n 1, 1) := by decide +kernel
theorem dX8_hold_24 : decode cX8_hold 24 = .ok (.putfield 125, 3) := by decide +kernel
theorem dX8_hold_27 : decode cX8_hold 27 = .ok (.aload_n 0, 1) := by decide +kernel
theorem dX8_hold_28 : decode cX8_hold 28 = .ok (.iload_n 2, 1) := by decide +kernel
theorem dX8_hold_29 : decode cX8_hold 29 = .ok (.putfield 128, 3) := by decide +kernel
theorem dX8_hold_32 : decode cX8_hold 32 = .ok (.iconst 1, 1) := by decide +kernel
theorem dX8_hold_33 : decode cX8_hold 33 = .ok (.ireturn, 1) := by decide +kernel
theorem dX8_hasSquare_0 : decode cX8_hasSquare 0 = .ok (.aload_n 0, 1) := by decide +kernel
theorem dX8_hasSquare_1 : decode cX8_hasSquare 1 = .ok (.getfield 38, 3) := by decide +kernel
theorem dX8_hasSquare_4 : decode cX8_hasSquare 4 = .ok (.iload_n 2, 1) := by decide +kernel
theorem dX8_hasSquare_5 : decode cX8_hasSquare 5 = .ok (.iaload, 1) := by decide +kernel
theorem dX8_hasSquare_6 : decode cX8_hasSquare 6 = .ok (.ifCond .lt 21, 3) := by decide +kernel
theorem dX8_hasSquare_9 : decode cX8_hasSquare 9 = .ok (.aload_n 0, 1) := by decide +kernel
theorem dX8_hasSquare_10 : decode cX8_hasSquare 10 = .ok (.getfield 38, 3) := by decide +kernel
theorem dX8_hasSquare_13 : decode cX8_hasSquare 13 = .ok (.iload_n 2, 1) := by decide +kernel
theorem dX8_hasSquare_14 : decode cX8_hasSquare 14 = .ok (.iaload, 1) := by decide +kernel
theorem dX8_hasSquare_15 : decode cX8_hasSquare 15 = .ok (.iload_n 1, 1) := by decide +kernel
theorem dX8_hasSquare_16 : decode cX8_hasSquare 16 = .ok (.ishr, 1) := by decide +kernel
theorem dX8_hasSquare_17 : decode cX8_hasSquare 17 = .ok (.iconst 1, 1) := by decide +kernel
theorem dX8_hasSquare_18 : decode cX8_hasSquare 18 = .ok (.iand, 1) := by decide +kernel
theorem dX8_hasSquare_19 : decode cX8_hasSquare 19 = .ok (.iconst 1, 1) := by decide +kernel
theorem dX8_hasSquare_20 : decode cX8_hasSquare 20 = .ok (.if_icmp .ne 7, 3) := by decide +kernel
theorem dX8_hasSquare_23 : decode cX8_hasSquare 23 = .ok (.iconst 1, 1) := by decide +kernel
theorem dX8_hasSquare_24 : decode cX8_hasSquare 24 = .ok (.goto 4, 3) := by decide +kernel
theorem dX8_hasSquare_27 : decode cX8_hasSquare 27 = .ok (.iconst 0, 1) := by decide +kernel
theorem dX8_hasSquare_28 : decode cX8_hasSquare 28 = .ok (.ireturn, 1) := by decide +kernel
set_option maxRecDepth 20000 in
theorem ggX8_squareMany_X8_hasSquare : GoodIn wsX8_squareMany wsX8_hasSquare := goodIn_r _ [6, 7, 8, 9, 10, 11, 12, 13, 14, 15, 16, 17, 18, 19, 20, 21, 22, 23, 24, 25, 26, 27, 28, 29, 30, 31, 32, 33, 34, 35, 36, 37, 38, 39, 40] (by decide +kernel) (by decide +kernel)
set_option maxRecDepth 20000 in
theorem gX8_squareMany_X8_hasSquare : GoodIn wsX8_squareMany (wsV RX8 131 RX8 yX8_hasSquare wsX8_hasSquare) := goodIn_app (goodIn_of _ (by decide +kernel)) ggX8_squareMany_X8_hasSquare
theorem dX8_squareMany_0 : decode cX8_squareMany 0 = .ok (.iconst 0, 1) := by decide +kernel
theorem dX8_squareMany_1 : decode cX8_squareMany 1 = .ok (.istore_n 1, 1) := by decide +kernel
theorem dX8_squareMany_2 : decode cX8_squareMany 2 = .ok (.iconst 0, 1) := by decide +kernel
theorem dX8_squareMany_3 : decode cX8_squareMany 3 = .ok (.istore_n 2, 1) := by decide +kernel
theorem dX8_squareMany_4 : decode cX8_squareMany 4 = .ok (.iload_n 2, 1) := by decide +kernel
theorem dX8_squareMany_5 : decode cX8_squareMany 5 = .ok (.aload_n 0, 1) := by decide +kernel
theorem dX8_squareMany_6 : decode cX8_squareMany 6 = .ok (.getfield 119, 3) := by decide +kernel
theorem dX8_squareMany_9 : decode cX8_squareMany 9 = .ok (.if_icmp .ge 40, 3) := by decide +kernel
theorem dX8_squareMany_12 : decode cX8_squareMany 12 = .ok (.iconst 0, 1) := by decide +kernel
theorem dX8_squareMany_13 : decode cX8_squareMany 13 = .ok (.istore_n 3, 1) := by decide +kernel
theorem dX8_squareMany_14 : decode cX8_squareMany 14 = .ok (.iload_n 3, 1) := by decide +kernel
theorem dX8_squareMany_15 : decode cX8_squareMany 15 = .ok (.bipush 6, 2) := by decide +kernel
theorem dX8_squareMany_17 : decode cX8_squareMany 17 = .ok (.if_icmp .ge 26, 3) := by decide +kernel
theorem dX8_squareMany_20 : decode cX8_squareMany 20 = .ok (.iload_n 1, 1) := by decide +kernel
theorem dX8_squareMany_21 : decode cX8_squareMany 21 = .ok (.aload_n 0, 1) := by decide +kernel
theorem dX8_squareMany_22 : decode cX8_squareMany 22 = .ok (.iload_n 3, 1) := by decide +kernel
theorem dX8_squareMany_23 : decode cX8_squareMany 23 = .ok (.iload_n 2, 1) := by decide +kernel
theorem dX8_squareMany_24 : decode cX8_squareMany 24 = .ok (.invokevirtual 131, 3) := by decide +kernel
theorem dX8_squareMany_27 : decode cX8_squareMany 27 = .ok (.ifCond .eq 7, 3) := by decide +kernel
theorem dX8_squareMany_30 : decode cX8_squareMany 30 = .ok (.iconst 1, 1) := by decide +kernel
theorem dX8_squareMany_31 : decode cX8_squareMany 31 = .ok (.goto 4, 3) := by decide +kernel
theorem dX8_squareMany_34 : decode cX8_squareMany 34 = .ok (.iconst 0, 1) := by decide +kernel
theorem dX8_squareMany_35 : decode cX8_squareMany 35 = .ok (.iadd, 1) := by decide +kernel
theorem dX8_squareMany_36 : decode cX8_squareMany 36 = .ok (.istore_n 1, 1) := by decide +kernel
theorem dX8_squareMany_37 : decode cX8_squareMany 37 = .ok (.iinc 3 1, 3) := by decide +kernel
theorem dX8_squareMany_40 : decode cX8_squareMany 40 = .ok (.goto (-26), 3) := by decide +kernel
theorem dX8_squareMany_43 : decode cX8_squareMany 43 = .ok (.iinc 2 1, 3) := by decide +kernel
theorem dX8_squareMany_46 : decode cX8_squareMany 46 = .ok (.goto (-42), 3) := by decide +kernel
theorem dX8_squareMany_49 : decode cX8_squareMany 49 = .ok (.iload_n 1, 1) := by decide +kernel
theorem dX8_squareMany_50 : decode cX8_squareMany 50 = .ok (.ireturn, 1) := by decide +kernel
set_option maxRecDepth 20000 in
theorem ggX8_isWhole_X8_squareMany : GoodIn wsX8_isWhole wsX8_squareMany := goodIn_r _ [7, 1, 8, 9, 10, 6, 11, 2, 12, 13, 14, 15, 16, 17, 18, 19, 20, 21, 22, 23, 24, 25, 26, 27, 28, 29, 30, 31, 32, 33, 34, 35, 36, 37, 38, 39, 40, 41, 42, 43, 44] (by decide +kernel) (by decide +kernel)
set_option maxRecDepth 20000 in
theorem gX8_isWhole_X8_squareMany : GoodIn wsX8_isWhole (wsV RX8 134 RX8 yX8_squareMany wsX8_squareMany) := goodIn_app (goodIn_of _ (by decide +kernel)) ggX8_isWhole_X8_squareMany
theorem dX8_isWhole_0 : decode cX8_isWhole 0 = .ok (.bipush (-9), 2) := by decide +kernel
theorem dX8_isWhole_2 : decode cX8_isWhole 2 = .ok (.istore_n 1, 1) := by decide +kernel
theorem dX8_isWhole_3 : decode cX8_isWhole 3 = .ok (.iconst 0, 1) := by decide +kernel
theorem dX8_isWhole_4 : decode cX8_isWhole 4 = .ok (.istore_n 2, 1) := by decide +kernel
theorem dX8_isWhole_5 : decode cX8_isWhole 5 = .ok (.iconst 0, 1) := by decide +kernel
theorem dX8_isWhole_6 : decode cX8_isWhole 6 = .ok (.istore_n 3, 1) := by decide +kernel
theorem dX8_isWhole_7 : decode cX8_isWhole 7 = .ok (.iload_n 3, 1) := by decide +kernel
theorem dX8_isWhole_8 : decode cX8_isWhole 8 = .ok (.aload_n 0, 1) := by decide +kernel
theorem dX8_isWhole_9 : decode cX8_isWhole 9 = .ok (.getfield 119, 3) := by decide +kernel
theorem dX8_isWhole_12 : decode cX8_isWhole 12 = .ok (.if_icmp .ge 24, 3) := by decide +kernel
theorem dX8_isWhole_15 : decode cX8_isWhole 15 = .ok (.aload_n 0, 1) := by decide +kernel
theorem dX8_isWhole_16 : decode cX8_isWhole 16 = .ok (.getfield 38, 3) := by decide +kernel
theorem dX8_isWhole_19 : decode cX8_isWhole 19 = .ok (.iload_n 3, 1) := by decide +kernel
theorem dX8_isWhole_20 : decode cX8_isWhole 20 = .ok (.iaload, 1) := by decide +kernel
theorem dX8_isWhole_21 : decode cX8_isWhole 21 = .ok (.ifCond .lt 7, 3) := by decide +kernel
theorem dX8_isWhole_24 : decode cX8_isWhole 24 = .ok (.iload_n 3, 1) := by decide +kernel
theorem dX8_isWhole_25 : decode cX8_isWhole 25 = .ok (.goto 4, 3) := by decide +kernel
theorem dX8_isWhole_28 : decode cX8_isWhole 28 = .ok (.iload_n 1, 1) := by decide +kernel
theorem dX8_isWhole_29 : decode cX8_isWhole 29 = .ok (.istore_n 1, 1) := by decide +kernel
theorem dX8_isWhole_30 : decode cX8_isWhole 30 = .ok (.iinc 3 1, 3) := by decide +kernel
theorem dX8_isWhole_33 : decode cX8_isWhole 33 = .ok (.goto (-26), 3) := by decide +kernel
theorem dX8_isWhole_36 : decode cX8_isWhole 36 = .ok (.iconst 0, 1) := by decide +kernel
theorem dX8_isWhole_37 : decode cX8_isWhole 37 = .ok (.istore_n 3, 1) := by decide +kernel
theorem dX8_isWhole_38 : decode cX8_isWhole 38 = .ok (.iload_n 3, 1) := by decide +kernel
theorem dX8_isWhole_39 : decode cX8_isWhole 39 = .ok (.iload_n 1, 1) := by decide +kernel
theorem dX8_isWhole_40 : decode cX8_isWhole 40 = .ok (.if_icmp .gt 28, 3) := by decide +kernel
theorem dX8_isWhole_43 : decode cX8_isWhole 43 = .ok (.iload_n 2, 1) := by decide +kernel
theorem dX8_isWhole_44 : decode cX8_isWhole 44 = .ok (.ifCond .ne 12, 3) := by decide +kernel
theorem dX8_isWhole_47 : decode cX8_isWhole 47 = .ok (.aload_n 0, 1) := by decide +kernel
theorem dX8_isWhole_48 : decode cX8_isWhole 48 = .ok (.getfield 38, 3) := by decide +kernel
theorem dX8_isWhole_51 : decode cX8_isWhole 51 = .ok (.iload_n 3, 1) := by decide +kernel
theorem dX8_isWhole_52 : decode cX8_isWhole 52 = .ok (.iaload, 1) := by decide +kernel
theorem dX8_isWhole_53 : decode cX8_isWhole 53 = .ok (.ifCond .ge 7, 3) := by decide +kernel
theorem dX8_isWhole_56 : decode cX8_isWhole 56 = .ok (.iconst 1, 1) := by decide +kernel
theorem dX8_isWhole_57 : decode cX8_isWhole 57 = .ok (.goto 4, 3) := by decide +kernel
theorem dX8_isWhole_60 : decode cX8_isWhole 60 = .ok (.iconst 0, 1) := by decide +kernel
theorem dX8_isWhole_61 : decode cX8_isWhole 61 = .ok (.istore_n 2, 1) := by decide +kernel
theorem dX8_isWhole_62 : decode cX8_isWhole 62 = .ok (.iinc 3 1, 3) := by decide +kernel
theorem dX8_isWhole_65 : decode cX8_isWhole 65 = .ok (.goto (-27), 3) := by decide +kernel
theorem dX8_isWhole_68 : decode cX8_isWhole 68 = .ok (.iload_n 2, 1) := by decide +kernel
theorem dX8_isWhole_69 : decode cX8_isWhole 69 = .ok (.ifCond .ne 14, 3) := by decide +kernel
theorem dX8_isWhole_72 : decode cX8_isWhole 72 = .ok (.aload_n 0, 1) := by decide +kernel
theorem dX8_isWhole_73 : decode cX8_isWhole 73 = .ok (.invokevirtual 134, 3) := by decide +kernel
theorem dX8_isWhole_76 : decode cX8_isWhole 76 = .ok (.ifCond .le 7, 3) := by decide +kernel
theorem dX8_isWhole_79 : decode cX8_isWhole 79 = .ok (.iconst 1, 1) := by decide +kernel
theorem dX8_isWhole_80 : decode cX8_isWhole 80 = .ok (.goto 4, 3) := by decide +kernel
theorem dX8_isWhole_83 : decode cX8_isWhole 83 = .ok (.iconst 0, 1) := by decide +kernel
theorem dX8_isWhole_84 : decode cX8_isWhole 84 = .ok (.ireturn, 1) := by decide +kernel
set_option maxRecDepth 20000 in
theorem ggX8_farthest_X8_hasSquare : GoodIn wsX8_farthest wsX8_hasSquare := goodIn_r _ [8, 9, 10, 11, 12, 13, 14, 15, 16, 17, 18, 19, 20, 21, 22, 23, 24, 25, 26, 27, 28, 29, 30, 31, 32, 33, 34, 35, 36, 37, 38, 39, 40, 41, 42] (by decide +kernel) (by decide +kernel)
set_option maxRecDepth 20000 in
theorem gX8_farthest_X8_hasSquare : GoodIn wsX8_farthest (wsV RX8 131 RX8 yX8_hasSquare wsX8_hasSquare) := goodIn_app (goodIn_of _ (by decide +kernel)) ggX8_farthest_X8_hasSquare
theorem dX8_farthest_0 : decode cX8_farthest 0 = .ok (.iconst 0, 1) := by decide +kernel
theorem dX8_farthest_1 : decode cX8_farthest 1 = .ok (.istore_n 1, 1) := by decide +kernel
theorem dX8_farthest_2 : decode cX8_farthest 2 = .ok (.iconst 0, 1) := by decide +kernel
theorem dX8_farthest_3 : decode cX8_farthest 3 = .ok (.istore_n 2, 1) := by decide +kernel
theorem dX8_farthest_4 : decode cX8_farthest 4 = .ok (.iload_n 2, 1) := by decide +kernel
theorem dX8_farthest_5 : decode cX8_farthest 5 = .ok (.aload_n 0, 1) := by decide +kernel
theorem dX8_farthest_6 : decode cX8_farthest 6 = .ok (.getfield 119, 3) := by decide +kernel
theorem dX8_farthest_9 : decode cX8_farthest 9 = .ok (.if_icmp .ge 104, 3) := by decide +kernel
theorem dX8_farthest_12 : decode cX8_farthest 12 = .ok (.iconst 0, 1) := by decide +kernel
theorem dX8_farthest_13 : decode cX8_farthest 13 = .ok (.istore_n 3, 1) := by decide +kernel
theorem dX8_farthest_14 : decode cX8_farthest 14 = .ok (.iload_n 3, 1) := by decide +kernel
theorem dX8_farthest_15 : decode cX8_farthest 15 = .ok (.bipush 6, 2) := by decide +kernel
theorem dX8_farthest_17 : decode cX8_farthest 17 = .ok (.if_icmp .ge 90, 3) := by decide +kernel
theorem dX8_farthest_20 : decode cX8_farthest 20 = .ok (.iconst 0, 1) := by decide +kernel
theorem dX8_farthest_21 : decode cX8_farthest 21 = .ok (.istore 4, 2) := by decide +kernel
theorem dX8_farthest_23 : decode cX8_farthest 23 = .ok (.iload 4, 2) := by decide +kernel
theorem dX8_farthest_25 : decode cX8_farthest 25 = .ok (.iconst 4, 1) := by decide +kernel
theorem dX8_farthest_26 : decode cX8_farthest 26 = .ok (.if_icmp .ge 75, 3) := by decide +kernel
theorem dX8_farthest_29 : decode cX8_farthest 29 = .ok (.aload_n 0, 1) := by decide +kernel
theorem dX8_farthest_30 : decode cX8_farthest 30 = .ok (.iload_n 3, 1) := by decide +kernel
theorem dX8_farthest_31 : decode cX8_farthest 31 = .ok (.iload_n 2, 1) := by decide +kernel
theorem dX8_farthest_32 : decode cX8_farthest 32 = .ok (.invokevirtual 131, 3) := by decide +kernel
theorem dX8_farthest_35 : decode cX8_farthest 35 = .ok (.ifCond .eq 66, 3) := by decide +kernel
theorem dX8_farthest_38 : decode cX8_farthest 38 = .ok (.iload_n 3, 1) := by decide +kernel
theorem dX8_farthest_39 : decode cX8_farthest 39 = .ok (.iload 4, 2) := by decide +kernel
theorem dX8_farthest_41 : decode cX8_farthest 41 = .ok (.iconst 2, 1) := by decide +kernel
theorem dX8_farthest_42 : decode cX8_farthest 42 = .ok (.irem, 1) := by decide +kernel
theorem dX8_farthest_43 : decode cX8_farthest 43 = .ok (.iadd, 1) := by decide +kernel
theorem dX8_farthest_44 : decode cX8_farthest 44 = .ok (.aload_n 0, 1) := by decide +kernel
theorem dX8_farthest_45 : decode cX8_farthest 45 = .ok (.getfield 125, 3) := by decide +kernel
theorem dX8_farthest_48 : decode cX8_farthest 48 = .ok (.isub, 1) := by decide +kernel
theorem dX8_farthest_49 : decode cX8_farthest 49 = .ok (.istore 5, 2) := by decide +kernel
theorem dX8_farthest_51 : decode cX8_farthest 51 = .ok (.iload_n 2, 1) := by decide +kernel
theorem dX8_farthest_52 : decode cX8_farthest 52 = .ok (.iload 4, 2) := by decide +kernel
theorem dX8_farthest_54 : decode cX8_farthest 54 = .ok (.iconst 2, 1) := by decide +kernel
theorem dX8_farthest_55 : decode cX8_farthest 55 = .ok (.idiv, 1) := by decide +kernel
theorem dX8_farthest_56 : decode cX8_farthest 56 = .ok (.iadd, 1) := by decide +kernel
theorem dX8_farthest_57 : decode cX8_farthest 57 = .ok (.aload_n 0, 1) := by decide +kernel
theorem dX8_farthest_58 : decode cX8_farthest 58 = .ok (.getfield 128, 3) := by decide +kernel
theorem dX8_farthest_61 : decode cX8_farthest 61 = .ok (.isub, 1) := by decide +kernel
theorem dX8_farthest_62 : decode cX8_farthest 62 = .ok (.istore 6, 2) := by decide +kernel
theorem dX8_farthest_64 : decode cX8_farthest 64 = .ok (.iload 5, 2) := by decide +kernel
theorem dX8_farthest_66 : decode cX8_farthest 66 = .ok (.iload 5, 2) := by decide +kernel
theorem dX8_farthest_68 : decode cX8_farthest 68 = .ok (.imul, 1) := by decide +kernel
theorem dX8_farthest_69 : decode cX8_farthest 69 = .ok (.iload 6, 2) := by decide +kernel
theorem dX8_farthest_71 : decode cX8_farthest 71 = .ok (.iload 6, 2) := by decide +kernel
theorem dX8_farthest_73 : decode cX8_farthest 73 = .ok (.imul, 1) := by decide +kernel
theorem dX8_farthest_74 : decode cX8_farthest 74 = .ok (.iadd, 1) := by decide +kernel
theorem dX8_farthest_75 : decode cX8_farthest 75 = .ok (.iload_n 1, 1) := by decide +kernel
theorem dX8_farthest_76 : decode cX8_farthest 76 = .ok (.if_icmp .le 17, 3) := by decide +kernel
theorem dX8_farthest_79 : decode cX8_farthest 79 = .ok (.iload 5, 2) := by decide +kernel
theorem dX8_farthest_81 : decode cX8_farthest 81 = .ok (.iload 5, 2) := by decide +kernel
theorem dX8_farthest_83 : decode cX8_farthest 83 = .ok (.imul, 1) := by decide +kernel
theorem dX8_farthest_84 : decode cX8_farthest 84 = .ok (.iload 6, 2) := by decide +kernel
theorem dX8_farthest_86 : decode cX8_farthest 86 = .ok (.iload 6, 2) := by decide +kernel
theorem dX8_farthest_88 : decode cX8_farthest 88 = .ok (.imul, 1) := by decide +kernel
theorem dX8_farthest_89 : decode cX8_farthest 89 = .ok (.iadd, 1) := by decide +kernel
theorem dX8_farthest_90 : decode cX8_farthest 90 = .ok (.goto 4, 3) := by decide +kernel
theorem dX8_farthest_93 : decode cX8_farthest 93 = .ok (.iload_n 1, 1) := by decide +kernel
theorem dX8_farthest_94 : decode cX8_farthest 94 = .ok (.istore_n 1, 1) := by decide +kernel
theorem dX8_farthest_95 : decode cX8_farthest 95 = .ok (.iinc 4 1, 3) := by decide +kernel
theorem dX8_farthest_98 : decode cX8_farthest 98 = .ok (.goto (-75), 3) := by decide +kernel
theorem dX8_farthest_101 : decode cX8_farthest 101 = .ok (.iinc 3 1, 3) := by decide +kernel
theorem dX8_farthest_104 : decode cX8_farthest 104 = .ok (.goto (-90), 3) := by decide +kernel
theorem dX8_farthest_107 : decode cX8_farthest 107 = .ok (.iinc 2 1, 3) := by decide +kernel
theorem dX8_farthest_110 : decode cX8_farthest 110 = .ok (.goto (-106), 3) := by decide +kernel
theorem dX8_farthest_113 : decode cX8_farthest 113 = .ok (.iload_n 1, 1) := by decide +kernel
theorem dX8_farthest_114 : decode cX8_farthest 114 = .ok (.ireturn, 1) := by decide +kernel
set_option maxRecDepth 20000 in
theorem ggX8_load_X8_squareMany : GoodIn wsX8_load wsX8_squareMany := goodIn_r _ [6, 1, 7, 8, 9, 5, 10, 11, 22, 23, 24, 25, 26, 27, 28, 29, 30, 31, 32, 33, 34, 35, 36, 37, 38, 39, 40, 41, 42, 43, 44, 45, 46, 47, 48, 49, 50, 51, 52, 53, 54] (by decide +kernel) (by decide +kernel)
set_option maxRecDepth 20000 in
theorem gX8_load_X8_squareMany : GoodIn wsX8_load (wsV RX8 134 RX8 yX8_squareMany wsX8_squareMany) := goodIn_app (goodIn_of _ (by decide +kernel)) ggX8_load_X8_squareMany
set_option maxRecDepth 20000 in
theorem ggX8_load_X8_isWhole : GoodIn wsX8_load wsX8_isWhole := goodIn_r _ [15, 1, 11, 2, 3, 4, 5, 6, 7, 8, 9, 10, 22, 23, 24, 25, 26, 27, 28, 29, 30, 31, 32, 33, 34, 35, 36, 37, 38, 39, 40, 41, 42, 43, 44, 45, 46, 47, 48, 49, 50, 51, 52, 53, 54] (by decide +kernel) (by decide +kernel)
set_option maxRecDepth 20000 in
theorem gX8_load_X8_isWhole : GoodIn wsX8_load (wsV RX8 138 RX8 yX8_isWhole wsX8_isWhole) := goodIn_app (goodIn_of _ (by decide +kernel)) ggX8_load_X8_isWhole
set_option maxRecDepth 20000 in
theorem ggX8_load_X8_farthest : GoodIn wsX8_load wsX8_farthest := goodIn_r _ [19, 1, 20, 21, 7, 8, 9, 5, 10, 11, 22, 23, 24, 25, 26, 27, 28, 29, 30, 31, 32, 33, 34, 35, 36, 37, 38, 39, 40, 41, 42, 43, 44, 45, 46, 47, 48, 49, 50, 51, 52, 53, 54] (by decide +kernel) (by decide +kernel)
set_option maxRecDepth 20000 in
theorem gX8_load_X8_farthest : GoodIn wsX8_load (wsV RX8 142 RX8 yX8_farthest wsX8_farthest) := goodIn_app (goodIn_of _ (by decide +kernel)) ggX8_load_X8_farthest
theorem dX8_load_0 : decode cX8_load 0 = .ok (.iload_n 1, 1) := by decide +kernel
theorem dX8_load_1 : decode cX8_load 1 = .ok (.tableswitch 59 0 3 #[31, 36, 49, 54], 31) := by decide +kernel
theorem dX8_load_32 : decode cX8_load 32 = .ok (.aload_n 0, 1) := by decide +kernel
theorem dX8_load_33 : decode cX8_load 33 = .ok (.invokevirtual 134, 3) := by decide +kernel
theorem dX8_load_36 : decode cX8_load 36 = .ok (.ireturn, 1) := by decide +kernel
theorem dX8_load_37 : decode cX8_load 37 = .ok (.aload_n 0, 1) := by decide +kernel
theorem dX8_load_38 : decode cX8_load 38 = .ok (.invokevirtual 138, 3) := by decide +kernel
theorem dX8_load_41 : decode cX8_load 41 = .ok (.ifCond .eq 7, 3) := by decide +kernel
theorem dX8_load_44 : decode cX8_load 44 = .ok (.iconst 1, 1) := by decide +kernel
theorem dX8_load_45 : decode cX8_load 45 = .ok (.goto 4, 3) := by decide +kernel
theorem dX8_load_48 : decode cX8_load 48 = .ok (.iconst 0, 1) := by decide +kernel
theorem dX8_load_49 : decode cX8_load 49 = .ok (.ireturn, 1) := by decide +kernel
theorem dX8_load_50 : decode cX8_load 50 = .ok (.aload_n 0, 1) := by decide +kernel
theorem dX8_load_51 : decode cX8_load 51 = .ok (.invokevirtual 142, 3) := by decide +kernel
theorem dX8_load_54 : decode cX8_load 54 = .ok (.ireturn, 1) := by decide +kernel
theorem dX8_load_55 : decode cX8_load 55 = .ok (.aload_n 0, 1) := by decide +kernel
theorem dX8_load_56 : decode cX8_load 56 = .ok (.getfield 119, 3) := by decide +kernel
theorem dX8_load_59 : decode cX8_load 59 = .ok (.ireturn, 1) := by decide +kernel
theorem dX8_load_60 : decode cX8_load 60 = .ok (.iconst (-1), 1) := by decide +kernel
theorem dX8_load_61 : decode cX8_load 61 = .ok (.ireturn, 1) := by decide +kernel
set_option maxRecDepth 20000 in
theorem ggX8_barOf_X8_isSquare : GoodIn wsX8_barOf wsX8_isSquare := goodIn_r _ [7, 8, 9, 10, 11, 6, 12, 13, 14, 15, 16, 17, 18, 19, 20, 21, 22, 23, 24, 25, 26, 27, 28, 29, 30, 31, 32, 33, 34, 35, 36, 37, 38, 39, 40, 41, 42, 43, 44, 45] (by decide +kernel) (by decide +kernel)
set_option maxRecDepth 20000 in
theorem gX8_barOf_X8_isSquare : GoodIn wsX8_barOf (wsV RX8 108 RX8 yX8_isSquare wsX8_isSquare) := goodIn_app (goodIn_of _ (by decide +kernel)) ggX8_barOf_X8_isSquare
theorem dX8_barOf_0 : decode cX8_barOf 0 = .ok (.aload_n 0, 1) := by decide +kernel
theorem dX8_barOf_1 : decode cX8_barOf 1 = .ok (.iload_n 1, 1) := by decide +kernel
theorem dX8_barOf_2 : decode cX8_barOf 2 = .ok (.iload_n 2, 1) := by decide +kernel
theorem dX8_barOf_3 : decode cX8_barOf 3 = .ok (.invokevirtual 108, 3) := by decide +kernel
theorem dX8_barOf_6 : decode cX8_barOf 6 = .ok (.ifCond .eq 17, 3) := by decide +kernel
theorem dX8_barOf_9 : decode cX8_barOf 9 = .ok (.aload_n 0, 1) := by decide +kernel
theorem dX8_barOf_10 : decode cX8_barOf 10 = .ok (.getfield 44, 3) := by decide +kernel
theorem dX8_barOf_13 : decode cX8_barOf 13 = .ok (.bipush 20, 2) := by decide +kernel
theorem dX8_barOf_15 : decode cX8_barOf 15 = .ok (.iload_n 2, 1) := by decide +kernel
theorem dX8_barOf_16 : decode cX8_barOf 16 = .ok (.imul, 1) := by decide +kernel
theorem dX8_barOf_17 : decode cX8_barOf 17 = .ok (.iload_n 1, 1) := by decide +kernel
theorem dX8_barOf_18 : decode cX8_barOf 18 = .ok (.iadd, 1) := by decide +kernel
theorem dX8_barOf_19 : decode cX8_barOf 19 = .ok (.iaload, 1) := by decide +kernel
theorem dX8_barOf_20 : decode cX8_barOf 20 = .ok (.goto 5, 3) := by decide +kernel
theorem dX8_barOf_23 : decode cX8_barOf 23 = .ok (.ldc 145, 2) := by decide +kernel
theorem dX8_barOf_25 : decode cX8_barOf 25 = .ok (.ireturn, 1) := by decide +kernel
set_option maxRecDepth 20000 in
theorem ggX8_setSquares_X8_nearBars : GoodIn wsX8_setSquares wsX8_nearBars := goodIn_r _ [8, 9, 10, 11, 12, 13, 14, 15, 7, 16, 2, 1, 17, 18, 19, 20, 21, 22, 23, 24, 25, 26, 27, 28, 29, 30, 31, 32, 33, 34, 35, 36, 37, 38, 39, 40, 41, 42, 43, 44, 45, 46, 47, 48, 49, 50, 51, 52] (by decide +kernel) (by decide +kernel)
set_option maxRecDepth 20000 in
theorem gX8_setSquares_X8_nearBars : GoodIn wsX8_setSquares (wsV RX8 146 RX8 yX8_nearBars wsX8_nearBars) := goodIn_app (goodIn_of _ (by decide +kernel)) ggX8_setSquares_X8_nearBars
theorem dX8_setSquares_0 : decode cX8_setSquares 0 = .ok (.iconst 0, 1) := by decide +kernel
theorem dX8_setSquares_1 : decode cX8_setSquares 1 = .ok (.istore_n 1, 1) := by decide +kernel
theorem dX8_setSquares_2 : decode cX8_setSquares 2 = .ok (.iload_n 1, 1) := by decide +kernel
theorem dX8_setSquares_3 : decode cX8_setSquares 3 = .ok (.aload_n 0, 1) := by decide +kernel
theorem dX8_setSquares_4 : decode cX8_setSquares 4 = .ok (.getfield 17, 3) := by decide +kernel
theorem dX8_setSquares_7 : decode cX8_setSquares 7 = .ok (.if_icmp .ge 42, 3) := by decide +kernel
theorem dX8_setSquares_10 : decode cX8_setSquares 10 = .ok (.iconst 0, 1) := by decide +kernel
theorem dX8_setSquares_11 : decode cX8_setSquares 11 = .ok (.istore_n 2, 1) := by decide +kernel
theorem dX8_setSquares_12 : decode cX8_setSquares 12 = .ok (.iload_n 2, 1) := by decide +kernel
theorem dX8_setSquares_13 : decode cX8_setSquares 13 = .ok (.aload_n 0, 1) := by decide +kernel
theorem dX8_setSquares_14 : decode cX8_setSquares 14 = .ok (.getfield 13, 3) := by decide +kernel
theorem dX8_setSquares_17 : decode cX8_setSquares 17 = .ok (.if_icmp .ge 26, 3) := by decide +kernel
theorem dX8_setSquares_20 : decode cX8_setSquares 20 = .ok (.aload_n 0, 1) := by decide +kernel
theorem dX8_setSquares_21 : decode cX8_setSquares 21 = .ok (.getfield 44, 3) := by decide +kernel
theorem dX8_setSquares_24 : decode cX8_setSquares 24 = .ok (.bipush 20, 2) := by decide +kernel
theorem dX8_setSquares_26 : decode cX8_setSquares 26 = .ok (.iload_n 1, 1) := by decide +kernel
theorem dX8_setSquares_27 : decode cX8_setSquares 27 = .ok (.imul, 1) := by decide +kernel
theorem dX8_setSquares_28 : decode cX8_setSquares 28 = .ok (.iload_n 2, 1) := by decide +kernel
theorem dX8_setSquares_29 : decode cX8_setSquares 29 = .ok (.iadd, 1) := by decide +kernel
theorem dX8_setSquares_30 : decode cX8_setSquares 30 = .ok (.aload_n 0, 1) := by decide +kernel
theorem dX8_setSquares_31 : decode cX8_setSquares 31 = .ok (.iload_n 2, 1) := by decide +kernel
theorem dX8_setSquares_32 : decode cX8_setSquares 32 = .ok (.iload_n 1, 1) := by decide +kernel
theorem dX8_setSquares_33 : decode cX8_setSquares 33 = .ok (.invokevirtual 146, 3) := by decide +kernel
theorem dX8_setSquares_36 : decode cX8_setSquares 36 = .ok (.iastore, 1) := by decide +kernel
theorem dX8_setSquares_37 : decode cX8_setSquares 37 = .ok (.iinc 2 1, 3) := by decide +kernel
theorem dX8_setSquares_40 : decode cX8_setSquares 40 = .ok (.goto (-28), 3) := by decide +kernel
theorem dX8_setSquares_43 : decode cX8_setSquares 43 = .ok (.iinc 1 1, 3) := by decide +kernel
theorem dX8_setSquares_46 : decode cX8_setSquares 46 = .ok (.goto (-44), 3) := by decide +kernel
theorem dX8_setSquares_49 : decode cX8_setSquares 49 = .ok (.return_, 1) := by decide +kernel
set_option maxRecDepth 20000 in
theorem ggX8_nearBars_X8_isSquare : GoodIn wsX8_nearBars wsX8_isSquare := goodIn_r _ [9, 10, 11, 12, 13, 8, 14, 15, 16, 17, 18, 19, 20, 21, 22, 23, 24, 25, 26, 27, 28, 29, 30, 31, 32, 33, 34, 35, 36, 37, 38, 39, 40, 41, 42, 43, 44, 45, 46, 47] (by decide +kernel) (by decide +kernel)
set_option maxRecDepth 20000 in
theorem gX8_nearBars_X8_isSquare : GoodIn wsX8_nearBars (wsV RX8 108 RX8 yX8_isSquare wsX8_isSquare) := goodIn_app (goodIn_of _ (by decide +kernel)) ggX8_nearBars_X8_isSquare
theorem dX8_nearBars_0 : decode cX8_nearBars 0 = .ok (.iconst 0, 1) := by decide +kernel
theorem dX8_nearBars_1 : decode cX8_nearBars 1 = .ok (.istore_n 3, 1) := by decide +kernel
theorem dX8_nearBars_2 : decode cX8_nearBars 2 = .ok (.iload_n 2, 1) := by decide +kernel
theorem dX8_nearBars_3 : decode cX8_nearBars 3 = .ok (.aload_n 0, 1) := by decide +kernel
theorem dX8_nearBars_4 : decode cX8_nearBars 4 = .ok (.getfield 149, 3) := by decide +kernel
theorem dX8_nearBars_7 : decode cX8_nearBars 7 = .ok (.isub, 1) := by decide +kernel
theorem dX8_nearBars_8 : decode cX8_nearBars 8 = .ok (.istore 4, 2) := by decide +kernel
theorem dX8_nearBars_10 : decode cX8_nearBars 10 = .ok (.iload 4, 2) := by decide +kernel
theorem dX8_nearBars_12 : decode cX8_nearBars 12 = .ok (.iload_n 2, 1) := by decide +kernel
theorem dX8_nearBars_13 : decode cX8_nearBars 13 = .ok (.aload_n 0, 1) := by decide +kernel
theorem dX8_nearBars_14 : decode cX8_nearBars 14 = .ok (.getfield 149, 3) := by decide +kernel
theorem dX8_nearBars_17 : decode cX8_nearBars 17 = .ok (.iadd, 1) := by decide +kernel
theorem dX8_nearBars_18 : decode cX8_nearBars 18 = .ok (.if_icmp .gt 73, 3) := by decide +kernel
theorem dX8_nearBars_21 : decode cX8_nearBars 21 = .ok (.iload_n 1, 1) := by decide +kernel
theorem dX8_nearBars_22 : decode cX8_nearBars 22 = .ok (.aload_n 0, 1) := by decide +kernel
theorem dX8_nearBars_23 : decode cX8_nearBars 23 = .ok (.getfield 149, 3) := by decide +kernel
theorem dX8_nearBars_26 : decode cX8_nearBars 26 = .ok (.isub, 1) := by decide +kernel
theorem dX8_nearBars_27 : decode cX8_nearBars 27 = .ok (.istore 5, 2) := by decide +kernel
theorem dX8_nearBars_29 : decode cX8_nearBars 29 = .ok (.iload 5, 2) := by decide +kernel
theorem dX8_nearBars_31 : decode cX8_nearBars 31 = .ok (.iload_n 1, 1) := by decide +kernel
theorem dX8_nearBars_32 : decode cX8_nearBars 32 = .ok (.aload_n 0, 1) := by decide +kernel
theorem dX8_nearBars_33 : decode cX8_nearBars 33 = .ok (.getfield 149, 3) := by decide +kernel
theorem dX8_nearBars_36 : decode cX8_nearBars 36 = .ok (.iadd, 1) := by decide +kernel
theorem dX8_nearBars_37 : decode cX8_nearBars 37 = .ok (.if_icmp .gt 48, 3) := by decide +kernel
theorem dX8_nearBars_40 : decode cX8_nearBars 40 = .ok (.iload_n 3, 1) := by decide +kernel
theorem dX8_nearBars_41 : decode cX8_nearBars 41 = .ok (.aload_n 0, 1) := by decide +kernel
theorem dX8_nearBars_42 : decode cX8_nearBars 42 = .ok (.iload 5, 2) := by decide +kernel
theorem dX8_nearBars_44 : decode cX8_nearBars 44 = .ok (.iload 4, 2) := by decide +kernel
theorem dX8_nearBars_46 : decode cX8_nearBars 46 = .ok (.invokevirtual 108, 3) := by decide +kernel
theorem dX8_nearBars_49 : decode cX8_nearBars 49 = .ok (.ifCond .eq 26, 3) := by decide +kernel
theorem dX8_nearBars_52 : decode cX8_nearBars 52 = .ok (.aload_n 0, 1) := by decide +kernel
theorem dX8_nearBars_53 : decode cX8_nearBars 53 = .ok (.getfield 20, 3) := by decide +kernel
theorem dX8_nearBars_56 : decode cX8_nearBars 56 = .ok (.bipush 20, 2) := by decide +kernel
theorem dX8_nearBars_58 : decode cX8_nearBars 58 = .ok (.iload 4, 2) := by decide +kernel
theorem dX8_nearBars_60 : decode cX8_nearBars 60 = .ok (.imul, 1) := by decide +kernel
theorem dX8_nearBars_61 : decode cX8_nearBars 61 = .ok (.iload 5, 2) := by decide +kernel
theorem dX8_nearBars_63 : decode cX8_nearBars 63 = .ok (.iadd, 1) := by decide +kernel
theorem dX8_nearBars_64 : decode cX8_nearBars 64 = .ok (.iaload, 1) := by decide +kernel
theorem dX8_nearBars_65 : decode cX8_nearBars 65 = .ok (.aload_n 0, 1) := by decide +kernel
theorem dX8_nearBars_66 : decode cX8_nearBars 66 = .ok (.getfield 91, 3) := by decide +kernel
theorem dX8_nearBars_69 : decode cX8_nearBars 69 = .ok (.iconst (-1), 1) := by decide +kernel
theorem dX8_nearBars_70 : decode cX8_nearBars 70 = .ok (.ixor, 1) := by decide +kernel
theorem dX8_nearBars_71 : decode cX8_nearBars 71 = .ok (.iand, 1) := by decide +kernel
theorem dX8_nearBars_72 : decode cX8_nearBars 72 = .ok (.goto 5, 3) := by decide +kernel
theorem dX8_nearBars_75 : decode cX8_nearBars 75 = .ok (.ldc 145, 2) := by decide +kernel
theorem dX8_nearBars_77 : decode cX8_nearBars 77 = .ok (.ior, 1) := by decide +kernel
theorem dX8_nearBars_78 : decode cX8_nearBars 78 = .ok (.istore_n 3, 1) := by decide +kernel
theorem dX8_nearBars_79 : decode cX8_nearBars 79 = .ok (.iinc 5 1, 3) := by decide +kernel
theorem dX8_nearBars_82 : decode cX8_nearBars 82 = .ok (.goto (-53), 3) := by decide +kernel
theorem dX8_nearBars_85 : decode cX8_nearBars 85 = .ok (.iinc 4 1, 3) := by decide +kernel
theorem dX8_nearBars_88 : decode cX8_nearBars 88 = .ok (.goto (-78), 3) := by decide +kernel
theorem dX8_nearBars_91 : decode cX8_nearBars 91 = .ok (.iload_n 3, 1) := by decide +kernel
theorem dX8_nearBars_92 : decode cX8_nearBars 92 = .ok (.ireturn, 1) := by decide +kernel
theorem dX8_cellX_0 : decode cX8_cellX 0 = .ok (.iload_n 2, 1) := by decide +kernel
theorem dX8_cellX_1 : decode cX8_cellX 1 = .ok (.ifCond .ne 7, 3) := by decide +kernel
theorem dX8_cellX_4 : decode cX8_cellX 4 = .ok (.iload_n 0, 1) := by decide +kernel
theorem dX8_cellX_5 : decode cX8_cellX 5 = .ok (.goto 28, 3) := by decide +kernel
theorem dX8_cellX_8 : decode cX8_cellX 8 = .ok (.iload_n 2, 1) := by decide +kernel
theorem dX8_cellX_9 : decode cX8_cellX 9 = .ok (.iconst 1, 1) := by decide +kernel
theorem dX8_cellX_10 : decode cX8_cellX 10 = .ok (.if_icmp .ne 10, 3) := by decide +kernel
theorem dX8_cellX_13 : decode cX8_cellX 13 = .ok (.iload_n 1, 1) := by decide +kernel
theorem dX8_cellX_14 : decode cX8_cellX 14 = .ok (.ineg, 1) := by decide +kernel
theorem dX8_cellX_15 : decode cX8_cellX 15 = .ok (.iconst 1, 1) := by decide +kernel
theorem dX8_cellX_16 : decode cX8_cellX 16 = .ok (.isub, 1) := by decide +kernel
theorem dX8_cellX_17 : decode cX8_cellX 17 = .ok (.goto 16, 3) := by decide +kernel
theorem dX8_cellX_20 : decode cX8_cellX 20 = .ok (.iload_n 2, 1) := by decide +kernel
theorem dX8_cellX_21 : decode cX8_cellX 21 = .ok (.iconst 2, 1) := by decide +kernel
theorem dX8_cellX_22 : decode cX8_cellX 22 = .ok (.if_icmp .ne 10, 3) := by decide +kernel
theorem dX8_cellX_25 : decode cX8_cellX 25 = .ok (.iload_n 0, 1) := by decide +kernel
theorem dX8_cellX_26 : decode cX8_cellX 26 = .ok (.ineg, 1) := by decide +kernel
theorem dX8_cellX_27 : decode cX8_cellX 27 = .ok (.iconst 1, 1) := by decide +kernel
theorem dX8_cellX_28 : decode cX8_cellX 28 = .ok (.isub, 1) := by decide +kernel
theorem dX8_cellX_29 : decode cX8_cellX 29 = .ok (.goto 4, 3) := by decide +kernel
theorem dX8_cellX_32 : decode cX8_cellX 32 = .ok (.iload_n 1, 1) := by decide +kernel
theorem dX8_cellX_33 : decode cX8_cellX 33 = .ok (.ireturn, 1) := by decide +kernel
theorem dX8_cellY_0 : decode cX8_cellY 0 = .ok (.iload_n 2, 1) := by decide +kernel
theorem dX8_cellY_1 : decode cX8_cellY 1 = .ok (.ifCond .ne 7, 3) := by decide +kernel
theorem dX8_cellY_4 : decode cX8_cellY 4 = .ok (.iload_n 1, 1) := by decide +kernel
theorem dX8_cellY_5 : decode cX8_cellY 5 = .ok (.goto 28, 3) := by decide +kernel
theorem dX8_cellY_8 : decode cX8_cellY 8 = .ok (.iload_n 2, 1) := by decide +kernel
theorem dX8_cellY_9 : decode cX8_cellY 9 = .ok (.iconst 1, 1) := by decide +kernel
theorem dX8_cellY_10 : decode cX8_cellY 10 = .ok (.if_icmp .ne 7, 3) := by decide +kernel
theorem dX8_cellY_13 : decode cX8_cellY 13 = .ok (.iload_n 0, 1) := by decide +kernel
theorem dX8_cellY_14 : decode cX8_cellY 14 = .ok (.goto 19, 3) := by decide +kernel
theorem dX8_cellY_17 : decode cX8_cellY 17 = .ok (.iload_n 2, 1) := by decide +kernel
theorem dX8_cellY_18 : decode cX8_cellY 18 = .ok (.iconst 2, 1) := by decide +kernel
theorem dX8_cellY_19 : decode cX8_cellY 19 = .ok (.if_icmp .ne 10, 3) := by decide +kernel
theorem dX8_cellY_22 : decode cX8_cellY 22 = .ok (.iload_n 1, 1) := by decide +kernel
theorem dX8_cellY_23 : decode cX8_cellY 23 = .ok (.ineg, 1) := by decide +kernel
theorem dX8_cellY_24 : decode cX8_cellY 24 = .ok (.iconst 1, 1) := by decide +kernel
theorem dX8_cellY_25 : decode cX8_cellY 25 = .ok (.isub, 1) := by decide +kernel
theorem dX8_cellY_26 : decode cX8_cellY 26 = .ok (.goto 7, 3) := by decide +kernel
theorem dX8_cellY_29 : decode cX8_cellY 29 = .ok (.iload_n 0, 1) := by decide +kernel
theorem dX8_cellY_30 : decode cX8_cellY 30 = .ok (.ineg, 1) := by decide +kernel
theorem dX8_cellY_31 : decode cX8_cellY 31 = .ok (.iconst 1, 1) := by decide +kernel
theorem dX8_cellY_32 : decode cX8_cellY 32 = .ok (.isub, 1) := by decide +kernel
theorem dX8_cellY_33 : decode cX8_cellY 33 = .ok (.ireturn, 1) := by decide +kernel
set_option maxRecDepth 20000 in
theorem ggX8_barAt_X8_hasSquare : GoodIn wsX8_barAt wsX8_hasSquare := goodIn_r _ [8, 9, 31, 32, 33, 34, 35, 36, 37, 38, 39, 40, 41, 42, 43, 44, 45, 46, 47, 48, 49, 50, 51, 52, 53, 54, 55, 56, 57, 58, 59, 60, 61, 62, 63] (by decide +kernel) (by decide +kernel)
set_option maxRecDepth 20000 in
theorem gX8_barAt_X8_hasSquare : GoodIn wsX8_barAt (wsV RX8 131 RX8 yX8_hasSquare wsX8_hasSquare) := goodIn_app (goodIn_of _ (by decide +kernel)) ggX8_barAt_X8_hasSquare
set_option maxRecDepth 20000 in
theorem ggX8_barAt_X8_cellX : GoodIn wsX8_barAt wsX8_cellX := goodIn_r _ [12] (by decide +kernel) (by decide +kernel)
set_option maxRecDepth 20000 in
theorem gX8_barAt_X8_cellX : GoodIn wsX8_barAt (va_wsS RX8 152 yX8_cellX wsX8_cellX) := goodIn_app (goodIn_of _ (by decide +kernel)) ggX8_barAt_X8_cellX
set_option maxRecDepth 20000 in
theorem ggX8_barAt_X8_cellY : GoodIn wsX8_barAt wsX8_cellY := goodIn_r _ [15] (by decide +kernel) (by decide +kernel)
set_option maxRecDepth 20000 in
theorem gX8_barAt_X8_cellY : GoodIn wsX8_barAt (va_wsS RX8 156 yX8_cellY wsX8_cellY) := goodIn_app (goodIn_of _ (by decide +kernel)) ggX8_barAt_X8_cellY
set_option maxRecDepth 20000 in
theorem ggX8_barAt_X8_barOf : GoodIn wsX8_barAt wsX8_barOf := goodIn_r _ [19, 20, 21, 22, 23, 24, 7, 25, 26, 27, 28, 29, 30, 31, 32, 33, 34, 35, 36, 37, 38, 39, 40, 41, 42, 43, 44, 45, 46, 47, 48, 49, 50, 51, 52, 53, 54, 55, 56, 57, 58, 59, 60, 61, 62, 63] (by decide +kernel) (by decide +kernel)
set_option maxRecDepth 20000 in
theorem gX8_barAt_X8_barOf : GoodIn wsX8_barAt (wsV RX8 159 RX8 yX8_barOf wsX8_barOf) := goodIn_app (goodIn_of _ (by decide +kernel)) ggX8_barAt_X8_barOf
theorem dX8_barAt_0 : decode cX8_barAt 0 = .ok (.iconst 0, 1) := by decide +kernel
theorem dX8_barAt_1 : decode cX8_barAt 1 = .ok (.istore 4, 2) := by decide +kernel
theorem dX8_barAt_3 : decode cX8_barAt 3 = .ok (.iconst 0, 1) := by decide +kernel
theorem dX8_barAt_4 : decode cX8_barAt 4 = .ok (.istore 5, 2) := by decide +kernel
theorem dX8_barAt_6 : decode cX8_barAt 6 = .ok (.iload 5, 2) := by decide +kernel
theorem dX8_barAt_8 : decode cX8_barAt 8 = .ok (.aload_n 0, 1) := by decide +kernel
theorem dX8_barAt_9 : decode cX8_barAt 9 = .ok (.getfield 119, 3) := by decide +kernel
theorem dX8_barAt_12 : decode cX8_barAt 12 = .ok (.if_icmp .ge 85, 3) := by decide +kernel
theorem dX8_barAt_15 : decode cX8_barAt 15 = .ok (.iconst 0, 1) := by decide +kernel
theorem dX8_barAt_16 : decode cX8_barAt 16 = .ok (.istore 6, 2) := by decide +kernel
theorem dX8_barAt_18 : decode cX8_barAt 18 = .ok (.iload 6, 2) := by decide +kernel
theorem dX8_barAt_20 : decode cX8_barAt 20 = .ok (.bipush 6, 2) := by decide +kernel
theorem dX8_barAt_22 : decode cX8_barAt 22 = .ok (.if_icmp .ge 69, 3) := by decide +kernel
theorem dX8_barAt_25 : decode cX8_barAt 25 = .ok (.aload_n 0, 1) := by decide +kernel
theorem dX8_barAt_26 : decode cX8_barAt 26 = .ok (.iload 6, 2) := by decide +kernel
theorem dX8_barAt_28 : decode cX8_barAt 28 = .ok (.iload 5, 2) := by decide +kernel
theorem dX8_barAt_30 : decode cX8_barAt 30 = .ok (.invokevirtual 131, 3) := by decide +kernel
theorem dX8_barAt_33 : decode cX8_barAt 33 = .ok (.ifCond .eq 52, 3) := by decide +kernel
theorem dX8_barAt_36 : decode cX8_barAt 36 = .ok (.iload 4, 2) := by decide +kernel
theorem dX8_barAt_38 : decode cX8_barAt 38 = .ok (.aload_n 0, 1) := by decide +kernel
theorem dX8_barAt_39 : decode cX8_barAt 39 = .ok (.iload_n 1, 1) := by decide +kernel
theorem dX8_barAt_40 : decode cX8_barAt 40 = .ok (.iload 6, 2) := by decide +kernel
theorem dX8_barAt_42 : decode cX8_barAt 42 = .ok (.aload_n 0, 1) := by decide +kernel
theorem dX8_barAt_43 : decode cX8_barAt 43 = .ok (.getfield 125, 3) := by decide +kernel
theorem dX8_barAt_46 : decode cX8_barAt 46 = .ok (.isub, 1) := by decide +kernel
theorem dX8_barAt_47 : decode cX8_barAt 47 = .ok (.iload 5, 2) := by decide +kernel
theorem dX8_barAt_49 : decode cX8_barAt 49 = .ok (.aload_n 0, 1) := by decide +kernel
theorem dX8_barAt_50 : decode cX8_barAt 50 = .ok (.getfield 128, 3) := by decide +kernel
theorem dX8_barAt_53 : decode cX8_barAt 53 = .ok (.isub, 1) := by decide +kernel
theorem dX8_barAt_54 : decode cX8_barAt 54 = .ok (.iload_n 3, 1) := by decide +kernel
theorem dX8_barAt_55 : decode cX8_barAt 55 = .ok (.invokestatic 152, 3) := by decide +kernel
theorem dX8_barAt_58 : decode cX8_barAt 58 = .ok (.iadd, 1) := by decide +kernel
theorem dX8_barAt_59 : decode cX8_barAt 59 = .ok (.iload_n 2, 1) := by decide +kernel
theorem dX8_barAt_60 : decode cX8_barAt 60 = .ok (.iload 6, 2) := by decide +kernel
theorem dX8_barAt_62 : decode cX8_barAt 62 = .ok (.aload_n 0, 1) := by decide +kernel
theorem dX8_barAt_63 : decode cX8_barAt 63 = .ok (.getfield 125, 3) := by decide +kernel
theorem dX8_barAt_66 : decode cX8_barAt 66 = .ok (.isub, 1) := by decide +kernel
theorem dX8_barAt_67 : decode cX8_barAt 67 = .ok (.iload 5, 2) := by decide +kernel
theorem dX8_barAt_69 : decode cX8_barAt 69 = .ok (.aload_n 0, 1) := by decide +kernel
theorem dX8_barAt_70 : decode cX8_barAt 70 = .ok (.getfield 128, 3) := by decide +kernel
theorem dX8_barAt_73 : decode cX8_barAt 73 = .ok (.isub, 1) := by decide +kernel
theorem dX8_barAt_74 : decode cX8_barAt 74 = .ok (.iload_n 3, 1) := by decide +kernel
theorem dX8_barAt_75 : decode cX8_barAt 75 = .ok (.invokestatic 156, 3) := by decide +kernel
theorem dX8_barAt_78 : decode cX8_barAt 78 = .ok (.iadd, 1) := by decide +kernel
theorem dX8_barAt_79 : decode cX8_barAt 79 = .ok (.invokevirtual 159, 3) := by decide +kernel
theorem dX8_barAt_82 : decode cX8_barAt 82 = .ok (.ior, 1) := by decide +kernel
theorem dX8_barAt_83 : decode cX8_barAt 83 = .ok (.istore 4, 2) := by decide +kernel
theorem dX8_barAt_85 : decode cX8_barAt 85 = .ok (.iinc 6 1, 3) := by decide +kernel
theorem dX8_barAt_88 : decode cX8_barAt 88 = .ok (.goto (-70), 3) := by decide +kernel
theorem dX8_barAt_91 : decode cX8_barAt 91 = .ok (.iinc 5 1, 3) := by decide +kernel
theorem dX8_barAt_94 : decode cX8_barAt 94 = .ok (.goto (-88), 3) := by decide +kernel
theorem dX8_barAt_97 : decode cX8_barAt 97 = .ok (.iload 4, 2) := by decide +kernel
theorem dX8_barAt_99 : decode cX8_barAt 99 = .ok (.ireturn, 1) := by decide +kernel
theorem dX8_near_0 : decode cX8_near 0 = .ok (.iload_n 1, 1) := by decide +kernel
theorem dX8_near_1 : decode cX8_near 1 = .ok (.iload_n 0, 1) := by decide +kernel
theorem dX8_near_2 : decode cX8_near 2 = .ok (.if_icmp .lt 9, 3) := by decide +kernel
theorem dX8_near_5 : decode cX8_near 5 = .ok (.iload_n 1, 1) := by decide +kernel
theorem dX8_near_6 : decode cX8_near 6 = .ok (.iload_n 0, 1) := by decide +kernel
theorem dX8_near_7 : decode cX8_near 7 = .ok (.isub, 1) := by decide +kernel
theorem dX8_near_8 : decode cX8_near 8 = .ok (.goto 8, 3) := by decide +kernel
theorem dX8_near_11 : decode cX8_near 11 = .ok (.iload_n 0, 1) := by decide +kernel
theorem dX8_near_12 : decode cX8_near 12 = .ok (.iload_n 1, 1) := by decide +kernel
theorem dX8_near_13 : decode cX8_near 13 = .ok (.isub, 1) := by decide +kernel
theorem dX8_near_14 : decode cX8_near 14 = .ok (.iconst 1, 1) := by decide +kernel
theorem dX8_near_15 : decode cX8_near 15 = .ok (.isub, 1) := by decide +kernel
theorem dX8_near_16 : decode cX8_near 16 = .ok (.ireturn, 1) := by decide +kernel
set_option maxRecDepth 20000 in
theorem ggX8_turnBarAt_X8_near : GoodIn wsX8_turnBarAt wsX8_near := goodIn_r _ [4] (by decide +kernel) (by decide +kernel)
set_option maxRecDepth 20000 in
theorem gX8_turnBarAt_X8_near : GoodIn wsX8_turnBarAt (va_wsS RX8 162 yX8_near wsX8_near) := goodIn_app (goodIn_of _ (by decide +kernel)) ggX8_turnBarAt_X8_near
set_option maxRecDepth 20000 in
theorem ggX8_turnBarAt_X8_barOf : GoodIn wsX8_turnBarAt wsX8_barOf := goodIn_r _ [8, 9, 10, 11, 12, 13, 3, 14, 15, 16, 17, 18, 19, 20, 21, 22, 23, 24, 25, 26, 27, 28, 29, 30, 31, 32, 33, 34, 35, 36, 37, 38, 39, 40, 41, 42, 43, 44, 45, 46, 47, 48, 49, 50, 51, 52] (by decide +kernel) (by decide +kernel)
set_option maxRecDepth 20000 in
theorem gX8_turnBarAt_X8_barOf : GoodIn wsX8_turnBarAt (wsV RX8 159 RX8 yX8_barOf wsX8_barOf) := goodIn_app (goodIn_of _ (by decide +kernel)) ggX8_turnBarAt_X8_barOf
theorem dX8_turnBarAt_0 : decode cX8_turnBarAt 0 = .ok (.iconst 0, 1) := by decide +kernel
theorem dX8_turnBarAt_1 : decode cX8_turnBarAt 1 = .ok (.istore 4, 2) := by decide +kernel
theorem dX8_turnBarAt_3 : decode cX8_turnBarAt 3 = .ok (.iload_n 2, 1) := by decide +kernel
theorem dX8_turnBarAt_4 : decode cX8_turnBarAt 4 = .ok (.bipush 13, 2) := by decide +kernel
theorem dX8_turnBarAt_6 : decode cX8_turnBarAt 6 = .ok (.isub, 1) := by decide +kernel
theorem dX8_turnBarAt_7 : decode cX8_turnBarAt 7 = .ok (.istore 5, 2) := by decide +kernel
theorem dX8_turnBarAt_9 : decode cX8_turnBarAt 9 = .ok (.iload 5, 2) := by decide +kernel
theorem dX8_turnBarAt_11 : decode cX8_turnBarAt 11 = .ok (.iload_n 2, 1) := by decide +kernel
theorem dX8_turnBarAt_12 : decode cX8_turnBarAt 12 = .ok (.bipush 13, 2) := by decide +kernel
theorem dX8_turnBarAt_14 : decode cX8_turnBarAt 14 = .ok (.iadd, 1) := by decide +kernel
theorem dX8_turnBarAt_15 : decode cX8_turnBarAt 15 = .ok (.if_icmp .gt 78, 3) := by decide +kernel
theorem dX8_turnBarAt_18 : decode cX8_turnBarAt 18 = .ok (.iload_n 1, 1) := by decide +kernel
theorem dX8_turnBarAt_19 : decode cX8_turnBarAt 19 = .ok (.bipush 13, 2) := by decide +kernel
theorem dX8_turnBarAt_21 : decode cX8_turnBarAt 21 = .ok (.isub, 1) := by decide +kernel
theorem dX8_turnBarAt_22 : decode cX8_turnBarAt 22 = .ok (.istore 6, 2) := by decide +kernel
theorem dX8_turnBarAt_24 : decode cX8_turnBarAt 24 = .ok (.iload 6, 2) := by decide +kernel
theorem dX8_turnBarAt_26 : decode cX8_turnBarAt 26 = .ok (.iload_n 1, 1) := by decide +kernel
theorem dX8_turnBarAt_27 : decode cX8_turnBarAt 27 = .ok (.bipush 13, 2) := by decide +kernel
theorem dX8_turnBarAt_29 : decode cX8_turnBarAt 29 = .ok (.iadd, 1) := by decide +kernel
theorem dX8_turnBarAt_30 : decode cX8_turnBarAt 30 = .ok (.if_icmp .gt 57, 3) := by decide +kernel
theorem dX8_turnBarAt_33 : decode cX8_turnBarAt 33 = .ok (.iload_n 1, 1) := by decide +kernel
theorem dX8_turnBarAt_34 : decode cX8_turnBarAt 34 = .ok (.iload 6, 2) := by decide +kernel
theorem dX8_turnBarAt_36 : decode cX8_turnBarAt 36 = .ok (.invokestatic 162, 3) := by decide +kernel
theorem dX8_turnBarAt_39 : decode cX8_turnBarAt 39 = .ok (.istore 7, 2) := by decide +kernel
theorem dX8_turnBarAt_41 : decode cX8_turnBarAt 41 = .ok (.iload_n 2, 1) := by decide +kernel
theorem dX8_turnBarAt_42 : decode cX8_turnBarAt 42 = .ok (.iload 5, 2) := by decide +kernel
theorem dX8_turnBarAt_44 : decode cX8_turnBarAt 44 = .ok (.invokestatic 162, 3) := by decide +kernel
theorem dX8_turnBarAt_47 : decode cX8_turnBarAt 47 = .ok (.istore 8, 2) := by decide +kernel
theorem dX8_turnBarAt_49 : decode cX8_turnBarAt 49 = .ok (.iload 4, 2) := by decide +kernel
theorem dX8_turnBarAt_51 : decode cX8_turnBarAt 51 = .ok (.iload 7, 2) := by decide +kernel
theorem dX8_turnBarAt_53 : decode cX8_turnBarAt 53 = .ok (.iload 7, 2) := by decide +kernel
theorem dX8_turnBarAt_55 : decode cX8_turnBarAt 55 = .ok (.imul, 1) := by decide +kernel
theorem dX8_turnBarAt_56 : decode cX8_turnBarAt 56 = .ok (.iload 8, 2) := by decide +kernel
theorem dX8_turnBarAt_58 : decode cX8_turnBarAt 58 = .ok (.iload 8, 2) := by decide +kernel
theorem dX8_turnBarAt_60 : decode cX8_turnBarAt 60 = .ok (.imul, 1) := by decide +kernel
theorem dX8_turnBarAt_61 : decode cX8_turnBarAt 61 = .ok (.iadd, 1) := by decide +kernel
theorem dX8_turnBarAt_62 : decode cX8_turnBarAt 62 = .ok (.iload_n 3, 1) := by decide +kernel
theorem dX8_turnBarAt_63 : decode cX8_turnBarAt 63 = .ok (.if_icmp .ge 14, 3) := by decide +kernel
theorem dX8_turnBarAt_66 : decode cX8_turnBarAt 66 = .ok (.aload_n 0, 1) := by decide +kernel
theorem dX8_turnBarAt_67 : decode cX8_turnBarAt 67 = .ok (.iload 6, 2) := by decide +kernel
theorem dX8_turnBarAt_69 : decode cX8_turnBarAt 69 = .ok (.iload 5, 2) := by decide +kernel
theorem dX8_turnBarAt_71 : decode cX8_turnBarAt 71 = .ok (.invokevirtual 159, 3) := by decide +kernel
theorem dX8_turnBarAt_74 : decode cX8_turnBarAt 74 = .ok (.goto 4, 3) := by decide +kernel
theorem dX8_turnBarAt_77 : decode cX8_turnBarAt 77 = .ok (.iconst 0, 1) := by decide +kernel
theorem dX8_turnBarAt_78 : decode cX8_turnBarAt 78 = .ok (.ior, 1) := by decide +kernel
theorem dX8_turnBarAt_79 : decode cX8_turnBarAt 79 = .ok (.istore 4, 2) := by decide +kernel
theorem dX8_turnBarAt_81 : decode cX8_turnBarAt 81 = .ok (.iinc 6 1, 3) := by decide +kernel
theorem dX8_turnBarAt_84 : decode cX8_turnBarAt 84 = .ok (.goto (-60), 3) := by decide +kernel
theorem dX8_turnBarAt_87 : decode cX8_turnBarAt 87 = .ok (.iinc 5 1, 3) := by decide +kernel
theorem dX8_turnBarAt_90 : decode cX8_turnBarAt 90 = .ok (.goto (-81), 3) := by decide +kernel
theorem dX8_turnBarAt_93 : decode cX8_turnBarAt 93 = .ok (.iload 4, 2) := by decide +kernel
theorem dX8_turnBarAt_95 : decode cX8_turnBarAt 95 = .ok (.ireturn, 1) := by decide +kernel
set_option maxRecDepth 20000 in
theorem ggX8_setBars_X8_setSquares : GoodIn wsX8_setBars wsX8_setSquares := goodIn_r _ [10, 2, 3, 11, 12, 13, 14, 9, 15, 1, 16, 17, 18, 19, 20, 21, 22, 23, 24, 25, 59, 60, 61, 62, 63, 64, 65, 66, 67, 68, 69, 70, 71, 72, 73, 74, 75, 76, 77, 78, 79, 80, 81, 82, 83, 84, 85, 86, 87, 88, 89, 90, 91] (by decide +kernel) (by decide +kernel)
set_option maxRecDepth 20000 in
theorem gX8_setBars_X8_setSquares : GoodIn wsX8_setBars (wsV RX8 165 RX8 yX8_setSquares wsX8_setSquares) := goodIn_app (goodIn_of _ (by decide +kernel)) ggX8_setBars_X8_setSquares
set_option maxRecDepth 20000 in
theorem ggX8_setBars_X8_farthest : GoodIn wsX8_setBars wsX8_farthest := goodIn_r _ [29, 30, 31, 32, 33, 34, 35, 9, 36, 37, 59, 60, 61, 62, 63, 64, 65, 66, 67, 68, 69, 70, 71, 72, 73, 74, 75, 76, 77, 78, 79, 80, 81, 82, 83, 84, 85, 86, 87, 88, 89, 90, 91] (by decide +kernel) (by decide +kernel)
set_option maxRecDepth 20000 in
theorem gX8_setBars_X8_farthest : GoodIn wsX8_setBars (wsV RX8 142 RX8 yX8_farthest wsX8_farthest) := goodIn_app (goodIn_of _ (by decide +kernel)) ggX8_setBars_X8_farthest
set_option maxRecDepth 20000 in
theorem ggX8_setBars_X8_turnBarAt : GoodIn wsX8_setBars wsX8_turnBarAt := goodIn_r _ [41, 42, 43, 9, 44, 45, 46, 47, 48, 11, 18, 19, 20, 21, 22, 3, 2, 23, 24, 25, 59, 60, 61, 62, 63, 64, 65, 66, 67, 68, 69, 70, 71, 72, 73, 74, 75, 76, 77, 78, 79, 80, 81, 82, 83, 84, 85, 86, 87, 88, 89, 90, 91] (by decide +kernel) (by decide +kernel)
set_option maxRecDepth 20000 in
theorem gX8_setBars_X8_turnBarAt : GoodIn wsX8_setBars (wsV RX8 168 RX8 yX8_turnBarAt wsX8_turnBarAt) := goodIn_app (goodIn_of _ (by decide +kernel)) ggX8_setBars_X8_turnBarAt
set_option maxRecDepth 20000 in
theorem ggX8_setBars_X8_barAt : GoodIn wsX8_setBars wsX8_barAt := goodIn_r _ [52, 30, 31, 32, 33, 34, 35, 9, 36, 37, 53, 54, 55, 56, 57, 58, 45, 46, 47, 48, 11, 18, 19, 20, 21, 22, 3, 2, 23, 24, 25, 59, 60, 61, 62, 63, 64, 65, 66, 67, 68, 69, 70, 71, 72, 73, 74, 75, 76, 77, 78, 79, 80, 81, 82, 83, 84, 85, 86, 87, 88, 89, 90, 91] (by decide +kernel) (by decide +kernel)
set_option maxRecDepth 20000 in
theorem gX8_setBars_X8_barAt : GoodIn wsX8_setBars (wsV RX8 171 RX8 yX8_barAt wsX8_barAt) := goodIn_app (goodIn_of _ (by decide +kernel)) ggX8_setBars_X8_barAt
theorem dX8_setBars_0 : decode cX8_setBars 0 = .ok (.aload_n 0, 1) := by decide +kernel
theorem dX8_setBars_1 : decode cX8_setBars 1 = .ok (.iload_n 1, 1) := by decide +kernel
theorem dX8_setBars_2 : decode cX8_setBars 2 = .ok (.putfield 149, 3) := by decide +kernel
theorem dX8_setBars_5 : decode cX8_setBars 5 = .ok (.aload_n 0, 1) := by decide +kernel
theorem dX8_setBars_6 : decode cX8_setBars 6 = .ok (.invokevirtual 165, 3) := by decide +kernel
theorem dX8_setBars_9 : decode cX8_setBars 9 = .ok (.aload_n 0, 1) := by decide +kernel
theorem dX8_setBars_10 : decode cX8_setBars 10 = .ok (.invokevirtual 142, 3) := by decide +kernel
theorem dX8_setBars_13 : decode cX8_setBars 13 = .ok (.istore_n 2, 1) := by decide +kernel
theorem dX8_setBars_14 : decode cX8_setBars 14 = .ok (.iconst 0, 1) := by decide +kernel
theorem dX8_setBars_15 : decode cX8_setBars 15 = .ok (.istore_n 3, 1) := by decide +kernel
theorem dX8_setBars_16 : decode cX8_setBars 16 = .ok (.iload_n 3, 1) := by decide +kernel
theorem dX8_setBars_17 : decode cX8_setBars 17 = .ok (.aload_n 0, 1) := by decide +kernel
theorem dX8_setBars_18 : decode cX8_setBars 18 = .ok (.getfield 17, 3) := by decide +kernel
theorem dX8_setBars_21 : decode cX8_setBars 21 = .ok (.if_icmp .gt 90, 3) := by decide +kernel
theorem dX8_setBars_24 : decode cX8_setBars 24 = .ok (.iconst 0, 1) := by decide +kernel
theorem dX8_setBars_25 : decode cX8_setBars 25 = .ok (.istore 4, 2) := by decide +kernel
theorem dX8_setBars_27 : decode cX8_setBars 27 = .ok (.iload 4, 2) := by decide +kernel
theorem dX8_setBars_29 : decode cX8_setBars 29 = .ok (.aload_n 0, 1) := by decide +kernel
theorem dX8_setBars_30 : decode cX8_setBars 30 = .ok (.getfield 13, 3) := by decide +kernel
theorem dX8_setBars_33 : decode cX8_setBars 33 = .ok (.if_icmp .gt 72, 3) := by decide +kernel
theorem dX8_setBars_36 : decode cX8_setBars 36 = .ok (.aload_n 0, 1) := by decide +kernel
theorem dX8_setBars_37 : decode cX8_setBars 37 = .ok (.getfield 50, 3) := by decide +kernel
theorem dX8_setBars_40 : decode cX8_setBars 40 = .ok (.bipush 21, 2) := by decide +kernel
theorem dX8_setBars_42 : decode cX8_setBars 42 = .ok (.iload_n 3, 1) := by decide +kernel
theorem dX8_setBars_43 : decode cX8_setBars 43 = .ok (.imul, 1) := by decide +kernel
theorem dX8_setBars_44 : decode cX8_setBars 44 = .ok (.iload 4, 2) := by decide +kernel
theorem dX8_setBars_46 : decode cX8_setBars 46 = .ok (.iadd, 1) := by decide +kernel
theorem dX8_setBars_47 : decode cX8_setBars 47 = .ok (.aload_n 0, 1) := by decide +kernel
theorem dX8_setBars_48 : decode cX8_setBars 48 = .ok (.iload 4, 2) := by decide +kernel
theorem dX8_setBars_50 : decode cX8_setBars 50 = .ok (.iload_n 3, 1) := by decide +kernel
theorem dX8_setBars_51 : decode cX8_setBars 51 = .ok (.iload_n 2, 1) := by decide +kernel
theorem dX8_setBars_52 : decode cX8_setBars 52 = .ok (.invokevirtual 168, 3) := by decide +kernel
theorem dX8_setBars_55 : decode cX8_setBars 55 = .ok (.iastore, 1) := by decide +kernel
theorem dX8_setBars_56 : decode cX8_setBars 56 = .ok (.iconst 0, 1) := by decide +kernel
theorem dX8_setBars_57 : decode cX8_setBars 57 = .ok (.istore 5, 2) := by decide +kernel
theorem dX8_setBars_59 : decode cX8_setBars 59 = .ok (.iload 5, 2) := by decide +kernel
theorem dX8_setBars_61 : decode cX8_setBars 61 = .ok (.iconst 4, 1) := by decide +kernel
theorem dX8_setBars_62 : decode cX8_setBars 62 = .ok (.if_icmp .ge 37, 3) := by decide +kernel
theorem dX8_setBars_65 : decode cX8_setBars 65 = .ok (.aload_n 0, 1) := by decide +kernel
theorem dX8_setBars_66 : decode cX8_setBars 66 = .ok (.getfield 47, 3) := by decide +kernel
theorem dX8_setBars_69 : decode cX8_setBars 69 = .ok (.sipush 441, 3) := by decide +kernel
theorem dX8_setBars_72 : decode cX8_setBars 72 = .ok (.iload 5, 2) := by decide +kernel
theorem dX8_setBars_74 : decode cX8_setBars 74 = .ok (.imul, 1) := by decide +kernel
theorem dX8_setBars_75 : decode cX8_setBars 75 = .ok (.bipush 21, 2) := by decide +kernel
theorem dX8_setBars_77 : decode cX8_setBars 77 = .ok (.iload_n 3, 1) := by decide +kernel
theorem dX8_setBars_78 : decode cX8_setBars 78 = .ok (.imul, 1) := by decide +kernel
theorem dX8_setBars_79 : decode cX8_setBars 79 = .ok (.iadd, 1) := by decide +kernel
theorem dX8_setBars_80 : decode cX8_setBars 80 = .ok (.iload 4, 2) := by decide +kernel
theorem dX8_setBars_82 : decode cX8_setBars 82 = .ok (.iadd, 1) := by decide +kernel
theorem dX8_setBars_83 : decode cX8_setBars 83 = .ok (.aload_n 0, 1) := by decide +kernel
theorem dX8_setBars_84 : decode cX8_setBars 84 = .ok (.iload 4, 2) := by decide +kernel
theorem dX8_setBars_86 : decode cX8_setBars 86 = .ok (.iload_n 3, 1) := by decide +kernel
theorem dX8_setBars_87 : decode cX8_setBars 87 = .ok (.iload 5, 2) := by decide +kernel
theorem dX8_setBars_89 : decode cX8_setBars 89 = .ok (.invokevirtual 171, 3) := by decide +kernel
theorem dX8_setBars_92 : decode cX8_setBars 92 = .ok (.iastore, 1) := by decide +kernel
theorem dX8_setBars_93 : decode cX8_setBars 93 = .ok (.iinc 5 1, 3) := by decide +kernel
theorem dX8_setBars_96 : decode cX8_setBars 96 = .ok (.goto (-37), 3) := by decide +kernel
theorem dX8_setBars_99 : decode cX8_setBars 99 = .ok (.iinc 4 1, 3) := by decide +kernel
theorem dX8_setBars_102 : decode cX8_setBars 102 = .ok (.goto (-75), 3) := by decide +kernel
theorem dX8_setBars_105 : decode cX8_setBars 105 = .ok (.iinc 3 1, 3) := by decide +kernel
theorem dX8_setBars_108 : decode cX8_setBars 108 = .ok (.goto (-92), 3) := by decide +kernel
theorem dX8_setBars_111 : decode cX8_setBars 111 = .ok (.return_, 1) := by decide +kernel
set_option maxRecDepth 20000 in
theorem ggX8_isPlace_X8_in : GoodIn wsX8_isPlace wsX8_in := goodIn_r _ [6] (by decide +kernel) (by decide +kernel)
set_option maxRecDepth 20000 in
theorem gX8_isPlace_X8_in : GoodIn wsX8_isPlace (va_wsS RX8 81 yX8_in wsX8_in) := goodIn_app (goodIn_of _ (by decide +kernel)) ggX8_isPlace_X8_in
theorem dX8_isPlace_0 : decode cX8_isPlace 0 = .ok (.iload_n 1, 1) := by decide +kernel
theorem dX8_isPlace_1 : decode cX8_isPlace 1 = .ok (.iconst 0, 1) := by decide +kernel
theorem dX8_isPlace_2 : decode cX8_isPlace 2 = .ok (.aload_n 0, 1) := by decide +kernel
theorem dX8_isPlace_3 : decode cX8_isPlace 3 = .ok (.getfield 13, 3) := by decide +kernel
theorem dX8_isPlace_6 : decode cX8_isPlace 6 = .ok (.invokestatic 81, 3) := by decide +kernel
theorem dX8_isPlace_9 : decode cX8_isPlace 9 = .ok (.ifCond .eq 19, 3) := by decide +kernel
theorem dX8_isPlace_12 : decode cX8_isPlace 12 = .ok (.iload_n 2, 1) := by decide +kernel
theorem dX8_isPlace_13 : decode cX8_isPlace 13 = .ok (.iconst 0, 1) := by decide +kernel
theorem dX8_isPlace_14 : decode cX8_isPlace 14 = .ok (.aload_n 0, 1) := by decide +kernel
theorem dX8_isPlace_15 : decode cX8_isPlace 15 = .ok (.getfield 17, 3) := by decide +kernel
theorem dX8_isPlace_18 : decode cX8_isPlace 18 = .ok (.invokestatic 81, 3) := by decide +kernel
theorem dX8_isPlace_21 : decode cX8_isPlace 21 = .ok (.ifCond .eq 7, 3) := by decide +kernel
theorem dX8_isPlace_24 : decode cX8_isPlace 24 = .ok (.iconst 1, 1) := by decide +kernel
theorem dX8_isPlace_25 : decode cX8_isPlace 25 = .ok (.goto 4, 3) := by decide +kernel
theorem dX8_isPlace_28 : decode cX8_isPlace 28 = .ok (.iconst 0, 1) := by decide +kernel
theorem dX8_isPlace_29 : decode cX8_isPlace 29 = .ok (.ireturn, 1) := by decide +kernel
set_option maxRecDepth 20000 in
theorem ggX8_isState_X8_isPlace : GoodIn wsX8_isState wsX8_isPlace := goodIn_r _ [5, 6, 7, 8, 9, 4, 10, 11, 12, 13, 14, 15, 16, 17, 18, 19, 20, 21, 22, 23, 24, 25, 26, 27, 28, 29, 30, 31, 32, 33, 34, 35, 36, 37, 38, 39, 40, 41, 42, 43] (by decide +kernel) (by decide +kernel)
set_option maxRecDepth 20000 in
theorem gX8_isState_X8_isPlace : GoodIn wsX8_isState (wsV RX8 174 RX8 yX8_isPlace wsX8_isPlace) := goodIn_app (goodIn_of _ (by decide +kernel)) ggX8_isState_X8_isPlace
set_option maxRecDepth 20000 in
theorem ggX8_isState_X8_in : GoodIn wsX8_isState wsX8_in := goodIn_r _ [10] (by decide +kernel) (by decide +kernel)
set_option maxRecDepth 20000 in
theorem gX8_isState_X8_in : GoodIn wsX8_isState (va_wsS RX8 81 yX8_in wsX8_in) := goodIn_app (goodIn_of _ (by decide +kernel)) ggX8_isState_X8_in
theorem dX8_isState_0 : decode cX8_isState 0 = .ok (.aload_n 0, 1) := by decide +kernel
theorem dX8_isState_1 : decode cX8_isState 1 = .ok (.iload_n 1, 1) := by decide +kernel
theorem dX8_isState_2 : decode cX8_isState 2 = .ok (.iload_n 2, 1) := by decide +kernel
theorem dX8_isState_3 : decode cX8_isState 3 = .ok (.invokevirtual 174, 3) := by decide +kernel
theorem dX8_isState_6 : decode cX8_isState 6 = .ok (.ifCond .eq 16, 3) := by decide +kernel
theorem dX8_isState_9 : decode cX8_isState 9 = .ok (.iload_n 3, 1) := by decide +kernel
theorem dX8_isState_10 : decode cX8_isState 10 = .ok (.iconst 0, 1) := by decide +kernel
theorem dX8_isState_11 : decode cX8_isState 11 = .ok (.iconst 3, 1) := by decide +kernel
theorem dX8_isState_12 : decode cX8_isState 12 = .ok (.invokestatic 81, 3) := by decide +kernel
theorem dX8_isState_15 : decode cX8_isState 15 = .ok (.ifCond .eq 7, 3) := by decide +kernel
theorem dX8_isState_18 : decode cX8_isState 18 = .ok (.iconst 1, 1) := by decide +kernel
theorem dX8_isState_19 : decode cX8_isState 19 = .ok (.goto 4, 3) := by decide +kernel
theorem dX8_isState_22 : decode cX8_isState 22 = .ok (.iconst 0, 1) := by decide +kernel
theorem dX8_isState_23 : decode cX8_isState 23 = .ok (.ireturn, 1) := by decide +kernel
theorem dX8_stateOf_0 : decode cX8_stateOf 0 = .ok (.sipush 441, 3) := by decide +kernel
theorem dX8_stateOf_3 : decode cX8_stateOf 3 = .ok (.iload_n 2, 1) := by decide +kernel
theorem dX8_stateOf_4 : decode cX8_stateOf 4 = .ok (.imul, 1) := by decide +kernel
theorem dX8_stateOf_5 : decode cX8_stateOf 5 = .ok (.bipush 21, 2) := by decide +kernel
theorem dX8_stateOf_7 : decode cX8_stateOf 7 = .ok (.iload_n 1, 1) := by decide +kernel
theorem dX8_stateOf_8 : decode cX8_stateOf 8 = .ok (.imul, 1) := by decide +kernel
theorem dX8_stateOf_9 : decode cX8_stateOf 9 = .ok (.iadd, 1) := by decide +kernel
theorem dX8_stateOf_10 : decode cX8_stateOf 10 = .ok (.iload_n 0, 1) := by decide +kernel
theorem dX8_stateOf_11 : decode cX8_stateOf 11 = .ok (.iadd, 1) := by decide +kernel
theorem dX8_stateOf_12 : decode cX8_stateOf 12 = .ok (.ireturn, 1) := by decide +kernel
theorem dX8_isFree_0 : decode cX8_isFree 0 = .ok (.aload_n 0, 1) := by decide +kernel
theorem dX8_isFree_1 : decode cX8_isFree 1 = .ok (.getfield 47, 3) := by decide +kernel
theorem dX8_isFree_4 : decode cX8_isFree 4 = .ok (.iload_n 1, 1) := by decide +kernel
theorem dX8_isFree_5 : decode cX8_isFree 5 = .ok (.iaload, 1) := by decide +kernel
theorem dX8_isFree_6 : decode cX8_isFree 6 = .ok (.aload_n 0, 1) := by decide +kernel
theorem dX8_isFree_7 : decode cX8_isFree 7 = .ok (.getfield 177, 3) := by decide +kernel
theorem dX8_isFree_10 : decode cX8_isFree 10 = .ok (.iconst (-1), 1) := by decide +kernel
theorem dX8_isFree_11 : decode cX8_isFree 11 = .ok (.ixor, 1) := by decide +kernel
theorem dX8_isFree_12 : decode cX8_isFree 12 = .ok (.iand, 1) := by decide +kernel
theorem dX8_isFree_13 : decode cX8_isFree 13 = .ok (.ifCond .ne 7, 3) := by decide +kernel
theorem dX8_isFree_16 : decode cX8_isFree 16 = .ok (.iconst 1, 1) := by decide +kernel
theorem dX8_isFree_17 : decode cX8_isFree 17 = .ok (.goto 4, 3) := by decide +kernel
theorem dX8_isFree_20 : decode cX8_isFree 20 = .ok (.iconst 0, 1) := by decide +kernel
theorem dX8_isFree_21 : decode cX8_isFree 21 = .ok (.ireturn, 1) := by decide +kernel
theorem dX8_isTurning_0 : decode cX8_isTurning 0 = .ok (.aload_n 0, 1) := by decide +kernel
theorem dX8_isTurning_1 : decode cX8_isTurning 1 = .ok (.getfield 50, 3) := by decide +kernel
theorem dX8_isTurning_4 : decode cX8_isTurning 4 = .ok (.iload_n 1, 1) := by decide +kernel
theorem dX8_isTurning_5 : decode cX8_isTurning 5 = .ok (.sipush 441, 3) := by decide +kernel
theorem dX8_isTurning_8 : decode cX8_isTurning 8 = .ok (.irem, 1) := by decide +kernel
theorem dX8_isTurning_9 : decode cX8_isTurning 9 = .ok (.iaload, 1) := by decide +kernel
theorem dX8_isTurning_10 : decode cX8_isTurning 10 = .ok (.aload_n 0, 1) := by decide +kernel
theorem dX8_isTurning_11 : decode cX8_isTurning 11 = .ok (.getfield 177, 3) := by decide +kernel
theorem dX8_isTurning_14 : decode cX8_isTurning 14 = .ok (.iconst (-1), 1) := by decide +kernel
theorem dX8_isTurning_15 : decode cX8_isTurning 15 = .ok (.ixor, 1) := by decide +kernel
theorem dX8_isTurning_16 : decode cX8_isTurning 16 = .ok (.iand, 1) := by decide +kernel
theorem dX8_isTurning_17 : decode cX8_isTurning 17 = .ok (.ifCond .ne 7, 3) := by decide +kernel
theorem dX8_isTurning_20 : decode cX8_isTurning 20 = .ok (.iconst 1, 1) := by decide +kernel
theorem dX8_isTurning_21 : decode cX8_isTurning 21 = .ok (.goto 4, 3) := by decide +kernel
theorem dX8_isTurning_24 : decode cX8_isTurning 24 = .ok (.iconst 0, 1) := by decide +kernel
theorem dX8_isTurning_25 : decode cX8_isTurning 25 = .ok (.ireturn, 1) := by decide +kernel
set_option maxRecDepth 20000 in
theorem ggX8_next_X8_stateOf : GoodIn wsX8_next wsX8_stateOf := goodIn_r _ [6] (by decide +kernel) (by decide +kernel)
set_option maxRecDepth 20000 in
theorem gX8_next_X8_stateOf : GoodIn wsX8_next (va_wsS RX8 180 yX8_stateOf wsX8_stateOf) := goodIn_app (goodIn_of _ (by decide +kernel)) ggX8_next_X8_stateOf
theorem dX8_next_0 : decode cX8_next 0 = .ok (.iload_n 1, 1) := by decide +kernel
theorem dX8_next_1 : decode cX8_next 1 = .ok (.sipush 441, 3) := by decide +kernel
theorem dX8_next_4 : decode cX8_next 4 = .ok (.irem, 1) := by decide +kernel
theorem dX8_next_5 : decode cX8_next 5 = .ok (.bipush 21, 2) := by decide +kernel
theorem dX8_next_7 : decode cX8_next 7 = .ok (.irem, 1) := by decide +kernel
theorem dX8_next_8 : decode cX8_next 8 = .ok (.istore_n 3, 1) := by decide +kernel
theorem dX8_next_9 : decode cX8_next 9 = .ok (.iload_n 1, 1) := by decide +kernel
theorem dX8_next_10 : decode cX8_next 10 = .ok (.sipush 441, 3) := by decide +kernel
theorem dX8_next_13 : decode cX8_next 13 = .ok (.irem, 1) := by decide +kernel
theorem dX8_next_14 : decode cX8_next 14 = .ok (.bipush 21, 2) := by decide +kernel
theorem dX8_next_16 : decode cX8_next 16 = .ok (.idiv, 1) := by decide +kernel
theorem dX8_next_17 : decode cX8_next 17 = .ok (.istore 4, 2) := by decide +kernel
theorem dX8_next_19 : decode cX8_next 19 = .ok (.iload_n 1, 1) := by decide +kernel
theorem dX8_next_20 : decode cX8_next 20 = .ok (.sipush 441, 3) := by decide +kernel
theorem dX8_next_23 : decode cX8_next 23 = .ok (.idiv, 1) := by decide +kernel
theorem dX8_next_24 : decode cX8_next 24 = .ok (.istore 5, 2) := by decide +kernel
theorem dX8_next_26 : decode cX8_next 26 = .ok (.iload_n 2, 1) := by decide +kernel
theorem dX8_next_27 : decode cX8_next 27 = .ok (.tableswitch 110 0 4 #[33, 50, 63, 82, 97], 33) := by decide +kernel
theorem dX8_next_60 : decode cX8_next 60 = .ok (.iload_n 3, 1) := by decide +kernel
theorem dX8_next_61 : decode cX8_next 61 = .ok (.aload_n 0, 1) := by decide +kernel
theorem dX8_next_62 : decode cX8_next 62 = .ok (.getfield 13, 3) := by decide +kernel
theorem dX8_next_65 : decode cX8_next 65 = .ok (.if_icmp .ge 9, 3) := by decide +kernel
theorem dX8_next_68 : decode cX8_next 68 = .ok (.iload_n 1, 1) := by decide +kernel
theorem dX8_next_69 : decode cX8_next 69 = .ok (.iconst 1, 1) := by decide +kernel
theorem dX8_next_70 : decode cX8_next 70 = .ok (.iadd, 1) := by decide +kernel
theorem dX8_next_71 : decode cX8_next 71 = .ok (.goto 5, 3) := by decide +kernel
theorem dX8_next_74 : decode cX8_next 74 = .ok (.bipush (-9), 2) := by decide +kernel
theorem dX8_next_76 : decode cX8_next 76 = .ok (.ireturn, 1) := by decide +kernel
theorem dX8_next_77 : decode cX8_next 77 = .ok (.iload_n 3, 1) := by decide +kernel
theorem dX8_next_78 : decode cX8_next 78 = .ok (.ifCond .le 9, 3) := by decide +kernel
theorem dX8_next_81 : decode cX8_next 81 = .ok (.iload_n 1, 1) := by decide +kernel
theorem dX8_next_82 : decode cX8_next 82 = .ok (.iconst 1, 1) := by decide +kernel
theorem dX8_next_83 : decode cX8_next 83 = .ok (.isub, 1) := by decide +kernel
theorem dX8_next_84 : decode cX8_next 84 = .ok (.goto 5, 3) := by decide +kernel
theorem dX8_next_87 : decode cX8_next 87 = .ok (.bipush (-9), 2) := by decide +kernel
theorem dX8_next_89 : decode cX8_next 89 = .ok (.ireturn, 1) := by decide +kernel
theorem dX8_next_90 : decode cX8_next 90 = .ok (.iload 4, 2) := by decide +kernel
theorem dX8_next_92 : decode cX8_next 92 = .ok (.aload_n 0, 1) := by decide +kernel
theorem dX8_next_93 : decode cX8_next 93 = .ok (.getfield 17, 3) := by decide +kernel
theorem dX8_next_96 : decode cX8_next 96 = .ok (.if_icmp .ge 10, 3) := by decide +kernel
theorem dX8_next_99 : decode cX8_next 99 = .ok (.iload_n 1, 1) := by decide +kernel
theorem dX8_next_100 : decode cX8_next 100 = .ok (.bipush 21, 2) := by decide +kernel
theorem dX8_next_102 : decode cX8_next 102 = .ok (.iadd, 1) := by decide +kernel
theorem dX8_next_103 : decode cX8_next 103 = .ok (.goto 5, 3) := by decide +kernel
theorem dX8_next_106 : decode cX8_next 106 = .ok (.bipush (-9), 2) := by decide +kernel
theorem dX8_next_108 : decode cX8_next 108 = .ok (.ireturn, 1) := by decide +kernel
theorem dX8_next_109 : decode cX8_next 109 = .ok (.iload 4, 2) := by decide +kernel
theorem dX8_next_111 : decode cX8_next 111 = .ok (.ifCond .le 10, 3) := by decide +kernel
theorem dX8_next_114 : decode cX8_next 114 = .ok (.iload_n 1, 1) := by decide +kernel
theorem dX8_next_115 : decode cX8_next 115 = .ok (.bipush 21, 2) := by decide +kernel
theorem dX8_next_117 : decode cX8_next 117 = .ok (.isub, 1) := by decide +kernel
theorem dX8_next_118 : decode cX8_next 118 = .ok (.goto 5, 3) := by decide +kernel
theorem dX8_next_121 : decode cX8_next 121 = .ok (.bipush (-9), 2) := by decide +kernel
theorem dX8_next_123 : decode cX8_next 123 = .ok (.ireturn, 1) := by decide +kernel
theorem dX8_next_124 : decode cX8_next 124 = .ok (.iload_n 3, 1) := by decide +kernel
theorem dX8_next_125 : decode cX8_next 125 = .ok (.iload 4, 2) := by decide +kernel
theorem dX8_next_127 : decode cX8_next 127 = .ok (.iload 5, 2) := by decide +kernel
theorem dX8_next_129 : decode cX8_next 129 = .ok (.iconst 1, 1) := by decide +kernel
theorem dX8_next_130 : decode cX8_next 130 = .ok (.iadd, 1) := by decide +kernel
theorem dX8_next_131 : decode cX8_next 131 = .ok (.iconst 4, 1) := by decide +kernel
theorem dX8_next_132 : decode cX8_next 132 = .ok (.irem, 1) := by decide +kernel
theorem dX8_next_133 : decode cX8_next 133 = .ok (.invokestatic 180, 3) := by decide +kernel
theorem dX8_next_136 : decode cX8_next 136 = .ok (.ireturn, 1) := by decide +kernel
theorem dX8_next_137 : decode cX8_next 137 = .ok (.iload_n 3, 1) := by decide +kernel
theorem dX8_next_138 : decode cX8_next 138 = .ok (.iload 4, 2) := by decide +kernel
theorem dX8_next_140 : decode cX8_next 140 = .ok (.iload 5, 2) := by decide +kernel
theorem dX8_next_142 : decode cX8_next 142 = .ok (.iconst 3, 1) := by decide +kernel
theorem dX8_next_143 : decode cX8_next 143 = .ok (.iadd, 1) := by decide +kernel
theorem dX8_next_144 : decode cX8_next 144 = .ok (.iconst 4, 1) := by decide +kernel
theorem dX8_next_145 : decode cX8_next 145 = .ok (.irem, 1) := by decide +kernel
theorem dX8_next_146 : decode cX8_next 146 = .ok (.invokestatic 180, 3) := by decide +kernel
theorem dX8_next_149 : decode cX8_next 149 = .ok (.ireturn, 1) := by decide +kernel
set_option maxRecDepth 20000 in
theorem ggX8_led_X8_next : GoodIn wsX8_led wsX8_next := goodIn_r _ [5, 6, 7, 8, 9, 4, 10, 22, 23, 24, 25, 26, 27, 28, 29, 30, 31, 32, 33, 34, 35, 36, 37, 38, 39, 40, 41, 42, 43, 44, 45, 46, 47, 48, 49, 50, 51, 52, 53, 54] (by decide +kernel) (by decide +kernel)
set_option maxRecDepth 20000 in
theorem gX8_led_X8_next : GoodIn wsX8_led (wsV RX8 183 RX8 yX8_next wsX8_next) := goodIn_app (goodIn_of _ (by decide +kernel)) ggX8_led_X8_next
set_option maxRecDepth 20000 in
theorem ggX8_led_X8_isFree : GoodIn wsX8_led wsX8_isFree := goodIn_r _ [14, 15, 16, 22, 23, 24, 25, 26, 27, 28, 29, 30, 31, 32, 33, 34, 35, 36, 37, 38, 39, 40, 41, 42, 43, 44, 45, 46, 47, 48, 49, 50, 51, 52, 53, 54] (by decide +kernel) (by decide +kernel)
set_option maxRecDepth 20000 in
theorem gX8_led_X8_isFree : GoodIn wsX8_led (wsV RX8 186 RX8 yX8_isFree wsX8_isFree) := goodIn_app (goodIn_of _ (by decide +kernel)) ggX8_led_X8_isFree
set_option maxRecDepth 20000 in
theorem ggX8_led_X8_isTurning : GoodIn wsX8_led wsX8_isTurning := goodIn_r _ [20, 21, 16, 22, 23, 24, 25, 26, 27, 28, 29, 30, 31, 32, 33, 34, 35, 36, 37, 38, 39, 40, 41, 42, 43, 44, 45, 46, 47, 48, 49, 50, 51, 52, 53, 54] (by decide +kernel) (by decide +kernel)
set_option maxRecDepth 20000 in
theorem gX8_led_X8_isTurning : GoodIn wsX8_led (wsV RX8 189 RX8 yX8_isTurning wsX8_isTurning) := goodIn_app (goodIn_of _ (by decide +kernel)) ggX8_led_X8_isTurning
theorem dX8_led_0 : decode cX8_led 0 = .ok (.aload_n 0, 1) := by decide +kernel
theorem dX8_led_1 : decode cX8_led 1 = .ok (.iload_n 1, 1) := by decide +kernel
theorem dX8_led_2 : decode cX8_led 2 = .ok (.iload_n 2, 1) := by decide +kernel
theorem dX8_led_3 : decode cX8_led 3 = .ok (.invokevirtual 183, 3) := by decide +kernel
theorem dX8_led_6 : decode cX8_led 6 = .ok (.istore_n 3, 1) := by decide +kernel
theorem dX8_led_7 : decode cX8_led 7 = .ok (.iload_n 3, 1) := by decide +kernel
theorem dX8_led_8 : decode cX8_led 8 = .ok (.ifCond .lt 24, 3) := by decide +kernel
theorem dX8_led_11 : decode cX8_led 11 = .ok (.aload_n 0, 1) := by decide +kernel
theorem dX8_led_12 : decode cX8_led 12 = .ok (.iload_n 3, 1) := by decide +kernel
theorem dX8_led_13 : decode cX8_led 13 = .ok (.invokevirtual 186, 3) := by decide +kernel
theorem dX8_led_16 : decode cX8_led 16 = .ok (.ifCond .eq 16, 3) := by decide +kernel
theorem dX8_led_19 : decode cX8_led 19 = .ok (.iload_n 2, 1) := by decide +kernel
theorem dX8_led_20 : decode cX8_led 20 = .ok (.iconst 3, 1) := by decide +kernel
theorem dX8_led_21 : decode cX8_led 21 = .ok (.if_icmp .le 16, 3) := by decide +kernel
theorem dX8_led_24 : decode cX8_led 24 = .ok (.aload_n 0, 1) := by decide +kernel
theorem dX8_led_25 : decode cX8_led 25 = .ok (.iload_n 1, 1) := by decide +kernel
theorem dX8_led_26 : decode cX8_led 26 = .ok (.invokevirtual 189, 3) := by decide +kernel
theorem dX8_led_29 : decode cX8_led 29 = .ok (.ifCond .ne 8, 3) := by decide +kernel
theorem dX8_led_32 : decode cX8_led 32 = .ok (.bipush (-9), 2) := by decide +kernel
theorem dX8_led_34 : decode cX8_led 34 = .ok (.goto 4, 3) := by decide +kernel
theorem dX8_led_37 : decode cX8_led 37 = .ok (.iload_n 3, 1) := by decide +kernel
theorem dX8_led_38 : decode cX8_led 38 = .ok (.ireturn, 1) := by decide +kernel
set_option maxRecDepth 20000 in
theorem ggX8_begin_X8_isWhole : GoodIn wsX8_begin wsX8_isWhole := goodIn_r _ [6, 7, 8, 9, 10, 11, 5, 12, 13, 14, 15, 16, 72, 73, 74, 75, 76, 77, 78, 79, 80, 81, 82, 83, 84, 85, 86, 87, 88, 89, 90, 91, 92, 93, 94, 95, 96, 97, 98, 99, 100, 101, 102, 103, 104] (by decide +kernel) (by decide +kernel)
set_option maxRecDepth 20000 in
theorem gX8_begin_X8_isWhole : GoodIn wsX8_begin (wsV RX8 138 RX8 yX8_isWhole wsX8_isWhole) := goodIn_app (goodIn_of _ (by decide +kernel)) ggX8_begin_X8_isWhole
set_option maxRecDepth 20000 in
theorem ggX8_begin_X8_setBars : GoodIn wsX8_begin wsX8_setBars := goodIn_r _ [20, 21, 22, 23, 24, 25, 26, 27, 28, 5, 29, 30, 31, 32, 33, 34, 35, 36, 37, 38, 39, 40, 41, 42, 43, 44, 45, 46, 47, 48, 7, 49, 50, 13, 14, 15, 16, 8, 51, 52, 53, 54, 55, 56, 57, 58, 59, 60, 61, 62, 63, 64, 65, 66, 67, 68, 69, 70, 71, 72, 73, 74, 75, 76, 77, 78, 79, 80, 81, 82, 83, 84, 85, 86, 87, 88, 89, 90, 91, 92, 93, 94, 95, 96, 97, 98, 99, 100, 101, 102, 103, 104] (by decide +kernel) (by decide +kernel)
set_option maxRecDepth 20000 in
theorem gX8_begin_X8_setBars : GoodIn wsX8_begin (wsV RX8 192 RX8 yX8_setBars wsX8_setBars) := goodIn_app (goodIn_of _ (by decide +kernel)) ggX8_begin_X8_setBars
theorem dX8_begin_0 : decode cX8_begin 0 = .ok (.aload_n 0, 1) := by decide +kernel
theorem dX8_begin_1 : decode cX8_begin 1 = .ok (.iconst 0, 1) := by decide +kernel
theorem dX8_begin_2 : decode cX8_begin 2 = .ok (.putfield 177, 3) := by decide +kernel
theorem dX8_begin_5 : decode cX8_begin 5 = .ok (.aload_n 0, 1) := by decide +kernel
theorem dX8_begin_6 : decode cX8_begin 6 = .ok (.invokevirtual 138, 3) := by decide +kernel
theorem dX8_begin_9 : decode cX8_begin 9 = .ok (.istore_n 1, 1) := by decide +kernel
theorem dX8_begin_10 : decode cX8_begin 10 = .ok (.iload_n 1, 1) := by decide +kernel
theorem dX8_begin_11 : decode cX8_begin 11 = .ok (.ifCond .eq 8, 3) := by decide +kernel
theorem dX8_begin_14 : decode cX8_begin 14 = .ok (.aload_n 0, 1) := by decide +kernel
theorem dX8_begin_15 : decode cX8_begin 15 = .ok (.iconst 0, 1) := by decide +kernel
theorem dX8_begin_16 : decode cX8_begin 16 = .ok (.invokevirtual 192, 3) := by decide +kernel
theorem dX8_begin_19 : decode cX8_begin 19 = .ok (.iload_n 1, 1) := by decide +kernel
theorem dX8_begin_20 : decode cX8_begin 20 = .ok (.ireturn, 1) := by decide +kernel
set_option maxRecDepth 20000 in
theorem ggX8_free_X8_isState : GoodIn wsX8_free wsX8_isState := goodIn_r _ [5, 6, 7, 8, 4, 9, 10, 11, 12, 13, 14, 91, 92, 93, 94, 95, 96, 97, 98, 99, 100, 101, 102, 103, 104, 105, 106, 107, 108, 109, 110, 111, 112, 113, 114, 115, 116, 117, 118, 119, 120, 121, 122, 123] (by decide +kernel) (by decide +kernel)
set_option maxRecDepth 20000 in
theorem gX8_free_X8_isState : GoodIn wsX8_free (wsV RX8 196 RX8 yX8_isState wsX8_isState) := goodIn_app (goodIn_of _ (by decide +kernel)) ggX8_free_X8_isState
set_option maxRecDepth 20000 in
theorem ggX8_free_X8_begin : GoodIn wsX8_free wsX8_begin := goodIn_r _ [18, 19, 20, 21, 22, 4, 23, 24, 25, 26, 27, 28, 29, 30, 31, 32, 33, 34, 35, 36, 37, 38, 11, 10, 39, 40, 41, 42, 43, 44, 45, 46, 47, 48, 49, 50, 51, 52, 53, 54, 55, 56, 12, 13, 14, 57, 58, 59, 60, 61, 62, 63, 64, 65, 66, 67, 68, 69, 70, 71, 72, 73, 74, 75, 76, 77, 78, 79, 80, 81, 82, 83, 91, 92, 93, 94, 95, 96, 97, 98, 99, 100, 101, 102, 103, 104, 105, 106, 107, 108, 109, 110, 111, 112, 113, 114, 115, 116, 117, 118, 119, 120, 121, 122, 123] (by decide +kernel) (by decide +kernel)
set_option maxRecDepth 20000 in
theorem gX8_free_X8_begin : GoodIn wsX8_free (wsV RX8 199 RX8 yX8_begin wsX8_begin) := goodIn_app (goodIn_of _ (by decide +kernel)) ggX8_free_X8_begin
set_option maxRecDepth 20000 in
theorem ggX8_free_X8_stateOf : GoodIn wsX8_free wsX8_stateOf := goodIn_r _ [86] (by decide +kernel) (by decide +kernel)
set_option maxRecDepth 20000 in
theorem gX8_free_X8_stateOf : GoodIn wsX8_free (va_wsS RX8 180 yX8_stateOf wsX8_stateOf) := goodIn_app (goodIn_of _ (by decide +kernel)) ggX8_free_X8_stateOf
set_option maxRecDepth 20000 in
theorem ggX8_free_X8_isFree : GoodIn wsX8_free wsX8_isFree := goodIn_r _ [90, 40, 19, 91, 92, 93, 94, 95, 96, 97, 98, 99, 100, 101, 102, 103, 104, 105, 106, 107, 108, 109, 110, 111, 112, 113, 114, 115, 116, 117, 118, 119, 120, 121, 122, 123] (by decide +kernel) (by decide +kernel)
set_option maxRecDepth 20000 in
theorem gX8_free_X8_isFree : GoodIn wsX8_free (wsV RX8 186 RX8 yX8_isFree wsX8_isFree) := goodIn_app (goodIn_of _ (by decide +kernel)) ggX8_free_X8_isFree
theorem dX8_free_0 : decode cX8_free 0 = .ok (.aload_n 0, 1) := by decide +kernel
theorem dX8_free_1 : decode cX8_free 1 = .ok (.iload_n 1, 1) := by decide +kernel
theorem dX8_free_2 : decode cX8_free 2 = .ok (.iload_n 2, 1) := by decide +kernel
theorem dX8_free_3 : decode cX8_free 3 = .ok (.iload_n 3, 1) := by decide +kernel
theorem dX8_free_4 : decode cX8_free 4 = .ok (.invokevirtual 196, 3) := by decide +kernel
theorem dX8_free_7 : decode cX8_free 7 = .ok (.ifCond .ne 5, 3) := by decide +kernel
theorem dX8_free_10 : decode cX8_free 10 = .ok (.iconst (-1), 1) := by decide +kernel
theorem dX8_free_11 : decode cX8_free 11 = .ok (.ireturn, 1) := by decide +kernel
theorem dX8_free_12 : decode cX8_free 12 = .ok (.aload_n 0, 1) := by decide +kernel
theorem dX8_free_13 : decode cX8_free 13 = .ok (.invokevirtual 199, 3) := by decide +kernel
theorem dX8_free_16 : decode cX8_free 16 = .ok (.ifCond .ne 8, 3) := by decide +kernel
theorem dX8_free_19 : decode cX8_free 19 = .ok (.bipush (-4), 2) := by decide +kernel
theorem dX8_free_21 : decode cX8_free 21 = .ok (.goto 21, 3) := by decide +kernel
theorem dX8_free_24 : decode cX8_free 24 = .ok (.aload_n 0, 1) := by decide +kernel
theorem dX8_free_25 : decode cX8_free 25 = .ok (.iload_n 1, 1) := by decide +kernel
theorem dX8_free_26 : decode cX8_free 26 = .ok (.iload_n 2, 1) := by decide +kernel
theorem dX8_free_27 : decode cX8_free 27 = .ok (.iload_n 3, 1) := by decide +kernel
theorem dX8_free_28 : decode cX8_free 28 = .ok (.invokestatic 180, 3) := by decide +kernel
theorem dX8_free_31 : decode cX8_free 31 = .ok (.invokevirtual 186, 3) := by decide +kernel
theorem dX8_free_34 : decode cX8_free 34 = .ok (.ifCond .eq 7, 3) := by decide +kernel
theorem dX8_free_37 : decode cX8_free 37 = .ok (.iconst 1, 1) := by decide +kernel
theorem dX8_free_38 : decode cX8_free 38 = .ok (.goto 4, 3) := by decide +kernel
theorem dX8_free_41 : decode cX8_free 41 = .ok (.iconst 0, 1) := by decide +kernel
theorem dX8_free_42 : decode cX8_free 42 = .ok (.ireturn, 1) := by decide +kernel
set_option maxRecDepth 20000 in
theorem ggX8_turning_X8_isPlace : GoodIn wsX8_turning wsX8_isPlace := goodIn_r _ [5, 6, 7, 8, 9, 4, 10, 87, 88, 89, 90, 91, 92, 93, 94, 95, 96, 97, 98, 99, 100, 101, 102, 103, 104, 105, 106, 107, 108, 109, 110, 111, 112, 113, 114, 115, 116, 117, 118, 119] (by decide +kernel) (by decide +kernel)
set_option maxRecDepth 20000 in
theorem gX8_turning_X8_isPlace : GoodIn wsX8_turning (wsV RX8 174 RX8 yX8_isPlace wsX8_isPlace) := goodIn_app (goodIn_of _ (by decide +kernel)) ggX8_turning_X8_isPlace
set_option maxRecDepth 20000 in
theorem ggX8_turning_X8_begin : GoodIn wsX8_turning wsX8_begin := goodIn_r _ [14, 15, 16, 17, 18, 4, 19, 20, 21, 22, 23, 24, 25, 26, 27, 28, 29, 30, 31, 32, 33, 34, 7, 6, 35, 36, 37, 38, 39, 40, 41, 42, 43, 44, 45, 46, 47, 48, 49, 50, 51, 52, 8, 9, 10, 53, 54, 55, 56, 57, 58, 59, 60, 61, 62, 63, 64, 65, 66, 67, 68, 69, 70, 71, 72, 73, 74, 75, 76, 77, 78, 79, 87, 88, 89, 90, 91, 92, 93, 94, 95, 96, 97, 98, 99, 100, 101, 102, 103, 104, 105, 106, 107, 108, 109, 110, 111, 112, 113, 114, 115, 116, 117, 118, 119] (by decide +kernel) (by decide +kernel)
set_option maxRecDepth 20000 in
theorem gX8_turning_X8_begin : GoodIn wsX8_turning (wsV RX8 199 RX8 yX8_begin wsX8_begin) := goodIn_app (goodIn_of _ (by decide +kernel)) ggX8_turning_X8_begin
set_option maxRecDepth 20000 in
theorem ggX8_turning_X8_stateOf : GoodIn wsX8_turning wsX8_stateOf := goodIn_r _ [82] (by decide +kernel) (by decide +kernel)
set_option maxRecDepth 20000 in
theorem gX8_turning_X8_stateOf : GoodIn wsX8_turning (va_wsS RX8 180 yX8_stateOf wsX8_stateOf) := goodIn_app (goodIn_of _ (by decide +kernel)) ggX8_turning_X8_stateOf
set_option maxRecDepth 20000 in
theorem ggX8_turning_X8_isTurning : GoodIn wsX8_turning wsX8_isTurning := goodIn_r _ [86, 35, 15, 87, 88, 89, 90, 91, 92, 93, 94, 95, 96, 97, 98, 99, 100, 101, 102, 103, 104, 105, 106, 107, 108, 109, 110, 111, 112, 113, 114, 115, 116, 117, 118, 119] (by decide +kernel) (by decide +kernel)
set_option maxRecDepth 20000 in
theorem gX8_turning_X8_isTurning : GoodIn wsX8_turning (wsV RX8 189 RX8 yX8_isTurning wsX8_isTurning) := goodIn_app (goodIn_of _ (by decide +kernel)) ggX8_turning_X8_isTurning
theorem dX8_turning_0 : decode cX8_turning 0 = .ok (.aload_n 0, 1) := by decide +kernel
theorem dX8_turning_1 : decode cX8_turning 1 = .ok (.iload_n 1, 1) := by decide +kernel
theorem dX8_turning_2 : decode cX8_turning 2 = .ok (.iload_n 2, 1) := by decide +kernel
theorem dX8_turning_3 : decode cX8_turning 3 = .ok (.invokevirtual 174, 3) := by decide +kernel
theorem dX8_turning_6 : decode cX8_turning 6 = .ok (.ifCond .ne 5, 3) := by decide +kernel
theorem dX8_turning_9 : decode cX8_turning 9 = .ok (.iconst (-1), 1) := by decide +kernel
theorem dX8_turning_10 : decode cX8_turning 10 = .ok (.ireturn, 1) := by decide +kernel
theorem dX8_turning_11 : decode cX8_turning 11 = .ok (.aload_n 0, 1) := by decide +kernel
theorem dX8_turning_12 : decode cX8_turning 12 = .ok (.invokevirtual 199, 3) := by decide +kernel
theorem dX8_turning_15 : decode cX8_turning 15 = .ok (.ifCond .ne 8, 3) := by decide +kernel
theorem dX8_turning_18 : decode cX8_turning 18 = .ok (.bipush (-4), 2) := by decide +kernel
theorem dX8_turning_20 : decode cX8_turning 20 = .ok (.goto 21, 3) := by decide +kernel
theorem dX8_turning_23 : decode cX8_turning 23 = .ok (.aload_n 0, 1) := by decide +kernel
theorem dX8_turning_24 : decode cX8_turning 24 = .ok (.iload_n 1, 1) := by decide +kernel
theorem dX8_turning_25 : decode cX8_turning 25 = .ok (.iload_n 2, 1) := by decide +kernel
theorem dX8_turning_26 : decode cX8_turning 26 = .ok (.iconst 0, 1) := by decide +kernel
theorem dX8_turning_27 : decode cX8_turning 27 = .ok (.invokestatic 180, 3) := by decide +kernel
theorem dX8_turning_30 : decode cX8_turning 30 = .ok (.invokevirtual 189, 3) := by decide +kernel
theorem dX8_turning_33 : decode cX8_turning 33 = .ok (.ifCond .eq 7, 3) := by decide +kernel
theorem dX8_turning_36 : decode cX8_turning 36 = .ok (.iconst 1, 1) := by decide +kernel
theorem dX8_turning_37 : decode cX8_turning 37 = .ok (.goto 4, 3) := by decide +kernel
theorem dX8_turning_40 : decode cX8_turning 40 = .ok (.iconst 0, 1) := by decide +kernel
theorem dX8_turning_41 : decode cX8_turning 41 = .ok (.ireturn, 1) := by decide +kernel
set_option maxRecDepth 20000 in
theorem ggX8_stepMany_X8_isFree : GoodIn wsX8_stepMany wsX8_isFree := goodIn_r _ [5, 6, 7, 26, 27, 28, 29, 30, 31, 32, 33, 34, 35, 36, 37, 38, 39, 40, 41, 42, 43, 44, 45, 46, 47, 48, 49, 50, 51, 52, 53, 54, 55, 56, 57, 58] (by decide +kernel) (by decide +kernel)
set_option maxRecDepth 20000 in
theorem gX8_stepMany_X8_isFree : GoodIn wsX8_stepMany (wsV RX8 186 RX8 yX8_isFree wsX8_isFree) := goodIn_app (goodIn_of _ (by decide +kernel)) ggX8_stepMany_X8_isFree
set_option maxRecDepth 20000 in
theorem ggX8_stepMany_X8_led : GoodIn wsX8_stepMany wsX8_led := goodIn_r _ [11, 12, 13, 14, 4, 15, 16, 17, 18, 19, 20, 1, 2, 3, 5, 6, 7, 21, 22, 23, 24, 25, 26, 27, 28, 29, 30, 31, 32, 33, 34, 35, 36, 37, 38, 39, 40, 41, 42, 43, 44, 45, 46, 47, 48, 49, 50, 51, 52, 53, 54, 55, 56, 57, 58] (by decide +kernel) (by decide +kernel)
set_option maxRecDepth 20000 in
theorem gX8_stepMany_X8_led : GoodIn wsX8_stepMany (wsV RX8 202 RX8 yX8_led wsX8_led) := goodIn_app (goodIn_of _ (by decide +kernel)) ggX8_stepMany_X8_led
theorem dX8_stepMany_0 : decode cX8_stepMany 0 = .ok (.iconst 0, 1) := by decide +kernel
theorem dX8_stepMany_1 : decode cX8_stepMany 1 = .ok (.istore_n 2, 1) := by decide +kernel
theorem dX8_stepMany_2 : decode cX8_stepMany 2 = .ok (.iconst 0, 1) := by decide +kernel
theorem dX8_stepMany_3 : decode cX8_stepMany 3 = .ok (.istore_n 3, 1) := by decide +kernel
theorem dX8_stepMany_4 : decode cX8_stepMany 4 = .ok (.iload_n 3, 1) := by decide +kernel
theorem dX8_stepMany_5 : decode cX8_stepMany 5 = .ok (.iconst 4, 1) := by decide +kernel
theorem dX8_stepMany_6 : decode cX8_stepMany 6 = .ok (.if_icmp .ge 34, 3) := by decide +kernel
theorem dX8_stepMany_9 : decode cX8_stepMany 9 = .ok (.iload_n 2, 1) := by decide +kernel
theorem dX8_stepMany_10 : decode cX8_stepMany 10 = .ok (.aload_n 0, 1) := by decide +kernel
theorem dX8_stepMany_11 : decode cX8_stepMany 11 = .ok (.iload_n 1, 1) := by decide +kernel
theorem dX8_stepMany_12 : decode cX8_stepMany 12 = .ok (.invokevirtual 186, 3) := by decide +kernel
theorem dX8_stepMany_15 : decode cX8_stepMany 15 = .ok (.ifCond .eq 16, 3) := by decide +kernel
theorem dX8_stepMany_18 : decode cX8_stepMany 18 = .ok (.aload_n 0, 1) := by decide +kernel
theorem dX8_stepMany_19 : decode cX8_stepMany 19 = .ok (.iload_n 1, 1) := by decide +kernel
theorem dX8_stepMany_20 : decode cX8_stepMany 20 = .ok (.iload_n 3, 1) := by decide +kernel
theorem dX8_stepMany_21 : decode cX8_stepMany 21 = .ok (.invokevirtual 202, 3) := by decide +kernel
theorem dX8_stepMany_24 : decode cX8_stepMany 24 = .ok (.ifCond .lt 7, 3) := by decide +kernel
theorem dX8_stepMany_27 : decode cX8_stepMany 27 = .ok (.iconst 1, 1) := by decide +kernel
theorem dX8_stepMany_28 : decode cX8_stepMany 28 = .ok (.goto 4, 3) := by decide +kernel
theorem dX8_stepMany_31 : decode cX8_stepMany 31 = .ok (.iconst 0, 1) := by decide +kernel
theorem dX8_stepMany_32 : decode cX8_stepMany 32 = .ok (.iadd, 1) := by decide +kernel
theorem dX8_stepMany_33 : decode cX8_stepMany 33 = .ok (.istore_n 2, 1) := by decide +kernel
theorem dX8_stepMany_34 : decode cX8_stepMany 34 = .ok (.iinc 3 1, 3) := by decide +kernel
theorem dX8_stepMany_37 : decode cX8_stepMany 37 = .ok (.goto (-33), 3) := by decide +kernel
theorem dX8_stepMany_40 : decode cX8_stepMany 40 = .ok (.iload_n 2, 1) := by decide +kernel
theorem dX8_stepMany_41 : decode cX8_stepMany 41 = .ok (.ireturn, 1) := by decide +kernel
set_option maxRecDepth 20000 in
theorem ggX8_kindOf_X8_isFree : GoodIn wsX8_kindOf wsX8_isFree := goodIn_r _ [5, 6, 7, 30, 31, 32, 33, 34, 35, 36, 37, 38, 39, 40, 41, 42, 43, 44, 45, 46, 47, 48, 49, 50, 51, 52, 53, 54, 55, 56, 57, 58, 59, 60, 61, 62] (by decide +kernel) (by decide +kernel)
set_option maxRecDepth 20000 in
theorem gX8_kindOf_X8_isFree : GoodIn wsX8_kindOf (wsV RX8 186 RX8 yX8_isFree wsX8_isFree) := goodIn_app (goodIn_of _ (by decide +kernel)) ggX8_kindOf_X8_isFree
set_option maxRecDepth 20000 in
theorem ggX8_kindOf_X8_isTurning : GoodIn wsX8_kindOf wsX8_isTurning := goodIn_r _ [11, 12, 7, 30, 31, 32, 33, 34, 35, 36, 37, 38, 39, 40, 41, 42, 43, 44, 45, 46, 47, 48, 49, 50, 51, 52, 53, 54, 55, 56, 57, 58, 59, 60, 61, 62] (by decide +kernel) (by decide +kernel)
set_option maxRecDepth 20000 in
theorem gX8_kindOf_X8_isTurning : GoodIn wsX8_kindOf (wsV RX8 189 RX8 yX8_isTurning wsX8_isTurning) := goodIn_app (goodIn_of _ (by decide +kernel)) ggX8_kindOf_X8_isTurning
set_option maxRecDepth 20000 in
theorem ggX8_kindOf_X8_stepMany : GoodIn wsX8_kindOf wsX8_stepMany := goodIn_r _ [16, 1, 2, 3, 4, 5, 6, 7, 17, 18, 19, 20, 21, 22, 23, 24, 25, 26, 27, 28, 29, 8, 9, 10, 11, 12, 30, 31, 32, 33, 34, 35, 36, 37, 38, 39, 40, 41, 42, 43, 44, 45, 46, 47, 48, 49, 50, 51, 52, 53, 54, 55, 56, 57, 58, 59, 60, 61, 62] (by decide +kernel) (by decide +kernel)
set_option maxRecDepth 20000 in
theorem gX8_kindOf_X8_stepMany : GoodIn wsX8_kindOf (wsV RX8 205 RX8 yX8_stepMany wsX8_stepMany) := goodIn_app (goodIn_of _ (by decide +kernel)) ggX8_kindOf_X8_stepMany
theorem dX8_kindOf_0 : decode cX8_kindOf 0 = .ok (.aload_n 0, 1) := by decide +kernel
theorem dX8_kindOf_1 : decode cX8_kindOf 1 = .ok (.iload_n 1, 1) := by decide +kernel
theorem dX8_kindOf_2 : decode cX8_kindOf 2 = .ok (.invokevirtual 186, 3) := by decide +kernel
theorem dX8_kindOf_5 : decode cX8_kindOf 5 = .ok (.ifCond .eq 29, 3) := by decide +kernel
theorem dX8_kindOf_8 : decode cX8_kindOf 8 = .ok (.aload_n 0, 1) := by decide +kernel
theorem dX8_kindOf_9 : decode cX8_kindOf 9 = .ok (.iload_n 1, 1) := by decide +kernel
theorem dX8_kindOf_10 : decode cX8_kindOf 10 = .ok (.invokevirtual 189, 3) := by decide +kernel
theorem dX8_kindOf_13 : decode cX8_kindOf 13 = .ok (.ifCond .eq 7, 3) := by decide +kernel
theorem dX8_kindOf_16 : decode cX8_kindOf 16 = .ok (.iconst 2, 1) := by decide +kernel
theorem dX8_kindOf_17 : decode cX8_kindOf 17 = .ok (.goto 16, 3) := by decide +kernel
theorem dX8_kindOf_20 : decode cX8_kindOf 20 = .ok (.aload_n 0, 1) := by decide +kernel
theorem dX8_kindOf_21 : decode cX8_kindOf 21 = .ok (.iload_n 1, 1) := by decide +kernel
theorem dX8_kindOf_22 : decode cX8_kindOf 22 = .ok (.invokevirtual 205, 3) := by decide +kernel
theorem dX8_kindOf_25 : decode cX8_kindOf 25 = .ok (.ifCond .ne 7, 3) := by decide +kernel
theorem dX8_kindOf_28 : decode cX8_kindOf 28 = .ok (.iconst 3, 1) := by decide +kernel
theorem dX8_kindOf_29 : decode cX8_kindOf 29 = .ok (.goto 4, 3) := by decide +kernel
theorem dX8_kindOf_32 : decode cX8_kindOf 32 = .ok (.iconst 1, 1) := by decide +kernel
theorem dX8_kindOf_33 : decode cX8_kindOf 33 = .ok (.ireturn, 1) := by decide +kernel
theorem dX8_kindOf_34 : decode cX8_kindOf 34 = .ok (.iconst 0, 1) := by decide +kernel
theorem dX8_kindOf_35 : decode cX8_kindOf 35 = .ok (.istore_n 2, 1) := by decide +kernel
theorem dX8_kindOf_36 : decode cX8_kindOf 36 = .ok (.iconst 0, 1) := by decide +kernel
theorem dX8_kindOf_37 : decode cX8_kindOf 37 = .ok (.istore_n 3, 1) := by decide +kernel
theorem dX8_kindOf_38 : decode cX8_kindOf 38 = .ok (.iload_n 3, 1) := by decide +kernel
theorem dX8_kindOf_39 : decode cX8_kindOf 39 = .ok (.iconst 4, 1) := by decide +kernel
theorem dX8_kindOf_40 : decode cX8_kindOf 40 = .ok (.if_icmp .ge 37, 3) := by decide +kernel
theorem dX8_kindOf_43 : decode cX8_kindOf 43 = .ok (.iload_n 2, 1) := by decide +kernel
theorem dX8_kindOf_44 : decode cX8_kindOf 44 = .ok (.ifCond .ne 21, 3) := by decide +kernel
theorem dX8_kindOf_47 : decode cX8_kindOf 47 = .ok (.aload_n 0, 1) := by decide +kernel
theorem dX8_kindOf_48 : decode cX8_kindOf 48 = .ok (.sipush 441, 3) := by decide +kernel
theorem dX8_kindOf_51 : decode cX8_kindOf 51 = .ok (.iload_n 3, 1) := by decide +kernel
theorem dX8_kindOf_52 : decode cX8_kindOf 52 = .ok (.imul, 1) := by decide +kernel
theorem dX8_kindOf_53 : decode cX8_kindOf 53 = .ok (.iload_n 1, 1) := by decide +kernel
theorem dX8_kindOf_54 : decode cX8_kindOf 54 = .ok (.sipush 441, 3) := by decide +kernel
theorem dX8_kindOf_57 : decode cX8_kindOf 57 = .ok (.irem, 1) := by decide +kernel
theorem dX8_kindOf_58 : decode cX8_kindOf 58 = .ok (.iadd, 1) := by decide +kernel
theorem dX8_kindOf_59 : decode cX8_kindOf 59 = .ok (.invokevirtual 186, 3) := by decide +kernel
theorem dX8_kindOf_62 : decode cX8_kindOf 62 = .ok (.ifCond .eq 7, 3) := by decide +kernel
theorem dX8_kindOf_65 : decode cX8_kindOf 65 = .ok (.iconst 1, 1) := by decide +kernel
theorem dX8_kindOf_66 : decode cX8_kindOf 66 = .ok (.goto 4, 3) := by decide +kernel
theorem dX8_kindOf_69 : decode cX8_kindOf 69 = .ok (.iconst 0, 1) := by decide +kernel
theorem dX8_kindOf_70 : decode cX8_kindOf 70 = .ok (.istore_n 2, 1) := by decide +kernel
theorem dX8_kindOf_71 : decode cX8_kindOf 71 = .ok (.iinc 3 1, 3) := by decide +kernel
theorem dX8_kindOf_74 : decode cX8_kindOf 74 = .ok (.goto (-36), 3) := by decide +kernel
theorem dX8_kindOf_77 : decode cX8_kindOf 77 = .ok (.iload_n 2, 1) := by decide +kernel
theorem dX8_kindOf_78 : decode cX8_kindOf 78 = .ok (.ifCond .eq 7, 3) := by decide +kernel
theorem dX8_kindOf_81 : decode cX8_kindOf 81 = .ok (.iconst 0, 1) := by decide +kernel
theorem dX8_kindOf_82 : decode cX8_kindOf 82 = .ok (.goto 4, 3) := by decide +kernel
theorem dX8_kindOf_85 : decode cX8_kindOf 85 = .ok (.iconst 4, 1) := by decide +kernel
theorem dX8_kindOf_86 : decode cX8_kindOf 86 = .ok (.ireturn, 1) := by decide +kernel
set_option maxRecDepth 20000 in
theorem ggX8_kind_X8_isState : GoodIn wsX8_kind wsX8_isState := goodIn_r _ [5, 6, 7, 8, 4, 9, 10, 11, 12, 13, 14, 111, 112, 113, 114, 115, 116, 117, 118, 119, 120, 121, 122, 123, 124, 125, 126, 127, 128, 129, 130, 131, 132, 133, 134, 135, 136, 137, 138, 139, 140, 141, 142, 143] (by decide +kernel) (by decide +kernel)
set_option maxRecDepth 20000 in
theorem gX8_kind_X8_isState : GoodIn wsX8_kind (wsV RX8 196 RX8 yX8_isState wsX8_isState) := goodIn_app (goodIn_of _ (by decide +kernel)) ggX8_kind_X8_isState
set_option maxRecDepth 20000 in
theorem ggX8_kind_X8_begin : GoodIn wsX8_kind wsX8_begin := goodIn_r _ [18, 19, 20, 21, 22, 4, 23, 24, 25, 26, 27, 28, 29, 30, 31, 32, 33, 34, 35, 36, 37, 38, 11, 10, 39, 40, 41, 42, 43, 44, 45, 46, 47, 48, 49, 50, 51, 52, 53, 54, 55, 56, 12, 13, 14, 57, 58, 59, 60, 61, 62, 63, 64, 65, 66, 67, 68, 69, 70, 71, 72, 73, 74, 75, 76, 77, 78, 79, 80, 81, 82, 83, 111, 112, 113, 114, 115, 116, 117, 118, 119, 120, 121, 122, 123, 124, 125, 126, 127, 128, 129, 130, 131, 132, 133, 134, 135, 136, 137, 138, 139, 140, 141, 142, 143] (by decide +kernel) (by decide +kernel)
set_option maxRecDepth 20000 in
theorem gX8_kind_X8_begin : GoodIn wsX8_kind (wsV RX8 199 RX8 yX8_begin wsX8_begin) := goodIn_app (goodIn_of _ (by decide +kernel)) ggX8_kind_X8_begin
set_option maxRecDepth 20000 in
theorem ggX8_kind_X8_stateOf : GoodIn wsX8_kind wsX8_stateOf := goodIn_r _ [86] (by decide +kernel) (by decide +kernel)
set_option maxRecDepth 20000 in
theorem gX8_kind_X8_stateOf : GoodIn wsX8_kind (va_wsS RX8 180 yX8_stateOf wsX8_stateOf) := goodIn_app (goodIn_of _ (by decide +kernel)) ggX8_kind_X8_stateOf
set_option maxRecDepth 20000 in
theorem ggX8_kind_X8_kindOf : GoodIn wsX8_kind wsX8_kindOf := goodIn_r _ [90, 91, 92, 93, 4, 94, 40, 19, 95, 96, 97, 98, 39, 99, 100, 101, 102, 103, 104, 105, 106, 107, 108, 109, 110, 10, 11, 84, 85, 86, 111, 112, 113, 114, 115, 116, 117, 118, 119, 120, 121, 122, 123, 124, 125, 126, 127, 128, 129, 130, 131, 132, 133, 134, 135, 136, 137, 138, 139, 140, 141, 142, 143] (by decide +kernel) (by decide +kernel)
set_option maxRecDepth 20000 in
theorem gX8_kind_X8_kindOf : GoodIn wsX8_kind (wsV RX8 208 RX8 yX8_kindOf wsX8_kindOf) := goodIn_app (goodIn_of _ (by decide +kernel)) ggX8_kind_X8_kindOf
theorem dX8_kind_0 : decode cX8_kind 0 = .ok (.aload_n 0, 1) := by decide +kernel
theorem dX8_kind_1 : decode cX8_kind 1 = .ok (.iload_n 1, 1) := by decide +kernel
theorem dX8_kind_2 : decode cX8_kind 2 = .ok (.iload_n 2, 1) := by decide +kernel
theorem dX8_kind_3 : decode cX8_kind 3 = .ok (.iload_n 3, 1) := by decide +kernel
theorem dX8_kind_4 : decode cX8_kind 4 = .ok (.invokevirtual 196, 3) := by decide +kernel
theorem dX8_kind_7 : decode cX8_kind 7 = .ok (.ifCond .ne 5, 3) := by decide +kernel
theorem dX8_kind_10 : decode cX8_kind 10 = .ok (.iconst (-1), 1) := by decide +kernel
theorem dX8_kind_11 : decode cX8_kind 11 = .ok (.ireturn, 1) := by decide +kernel
theorem dX8_kind_12 : decode cX8_kind 12 = .ok (.aload_n 0, 1) := by decide +kernel
theorem dX8_kind_13 : decode cX8_kind 13 = .ok (.invokevirtual 199, 3) := by decide +kernel
theorem dX8_kind_16 : decode cX8_kind 16 = .ok (.ifCond .eq 16, 3) := by decide +kernel
theorem dX8_kind_19 : decode cX8_kind 19 = .ok (.aload_n 0, 1) := by decide +kernel
theorem dX8_kind_20 : decode cX8_kind 20 = .ok (.iload_n 1, 1) := by decide +kernel
theorem dX8_kind_21 : decode cX8_kind 21 = .ok (.iload_n 2, 1) := by decide +kernel
theorem dX8_kind_22 : decode cX8_kind 22 = .ok (.iload_n 3, 1) := by decide +kernel
theorem dX8_kind_23 : decode cX8_kind 23 = .ok (.invokestatic 180, 3) := by decide +kernel
theorem dX8_kind_26 : decode cX8_kind 26 = .ok (.invokevirtual 208, 3) := by decide +kernel
theorem dX8_kind_29 : decode cX8_kind 29 = .ok (.goto 5, 3) := by decide +kernel
theorem dX8_kind_32 : decode cX8_kind 32 = .ok (.bipush (-4), 2) := by decide +kernel
theorem dX8_kind_34 : decode cX8_kind 34 = .ok (.ireturn, 1) := by decide +kernel
set_option maxRecDepth 20000 in
theorem ggX8_steps_X8_isState : GoodIn wsX8_steps wsX8_isState := goodIn_r _ [5, 6, 7, 8, 4, 9, 10, 11, 12, 13, 14, 117, 118, 119, 120, 121, 122, 123, 124, 125, 126, 127, 128, 129, 130, 131, 132, 133, 134, 135, 136, 137, 138, 139, 140, 141, 142, 143, 144, 145, 146, 147, 148, 149] (by decide +kernel) (by decide +kernel)
set_option maxRecDepth 20000 in
theorem gX8_steps_X8_isState : GoodIn wsX8_steps (wsV RX8 196 RX8 yX8_isState wsX8_isState) := goodIn_app (goodIn_of _ (by decide +kernel)) ggX8_steps_X8_isState
set_option maxRecDepth 20000 in
theorem ggX8_steps_X8_in : GoodIn wsX8_steps wsX8_in := goodIn_r _ [14] (by decide +kernel) (by decide +kernel)
set_option maxRecDepth 20000 in
theorem gX8_steps_X8_in : GoodIn wsX8_steps (va_wsS RX8 81 yX8_in wsX8_in) := goodIn_app (goodIn_of _ (by decide +kernel)) ggX8_steps_X8_in
set_option maxRecDepth 20000 in
theorem ggX8_steps_X8_begin : GoodIn wsX8_steps wsX8_begin := goodIn_r _ [18, 19, 20, 21, 22, 4, 23, 24, 25, 26, 27, 28, 29, 30, 31, 32, 33, 34, 35, 36, 37, 38, 11, 10, 39, 40, 41, 42, 43, 44, 45, 46, 47, 48, 49, 50, 51, 52, 53, 54, 55, 56, 12, 13, 14, 57, 58, 59, 60, 61, 62, 63, 64, 65, 66, 67, 68, 69, 70, 71, 72, 73, 74, 75, 76, 77, 78, 79, 80, 81, 82, 83, 117, 118, 119, 120, 121, 122, 123, 124, 125, 126, 127, 128, 129, 130, 131, 132, 133, 134, 135, 136, 137, 138, 139, 140, 141, 142, 143, 144, 145, 146, 147, 148, 149] (by decide +kernel) (by decide +kernel)
set_option maxRecDepth 20000 in
theorem gX8_steps_X8_begin : GoodIn wsX8_steps (wsV RX8 199 RX8 yX8_begin wsX8_begin) := goodIn_app (goodIn_of _ (by decide +kernel)) ggX8_steps_X8_begin
set_option maxRecDepth 20000 in
theorem ggX8_steps_X8_stateOf : GoodIn wsX8_steps wsX8_stateOf := goodIn_r _ [86] (by decide +kernel) (by decide +kernel)
set_option maxRecDepth 20000 in
theorem gX8_steps_X8_stateOf : GoodIn wsX8_steps (va_wsS RX8 180 yX8_stateOf wsX8_stateOf) := goodIn_app (goodIn_of _ (by decide +kernel)) ggX8_steps_X8_stateOf
set_option maxRecDepth 20000 in
theorem ggX8_steps_X8_kindOf : GoodIn wsX8_steps wsX8_kindOf := goodIn_r _ [90, 91, 92, 93, 4, 94, 40, 19, 95, 96, 97, 98, 39, 99, 100, 101, 102, 103, 104, 105, 106, 107, 108, 109, 110, 10, 11, 84, 85, 86, 117, 118, 119, 120, 121, 122, 123, 124, 125, 126, 127, 128, 129, 130, 131, 132, 133, 134, 135, 136, 137, 138, 139, 140, 141, 142, 143, 144, 145, 146, 147, 148, 149] (by decide +kernel) (by decide +kernel)
set_option maxRecDepth 20000 in
theorem gX8_steps_X8_kindOf : GoodIn wsX8_steps (wsV RX8 208 RX8 yX8_kindOf wsX8_kindOf) := goodIn_app (goodIn_of _ (by decide +kernel)) ggX8_steps_X8_kindOf
set_option maxRecDepth 20000 in
theorem ggX8_steps_X8_stepMany : GoodIn wsX8_steps wsX8_stepMany := goodIn_r _ [102, 91, 92, 93, 4, 94, 40, 19, 103, 104, 105, 106, 107, 108, 109, 110, 10, 11, 84, 85, 86, 95, 96, 97, 98, 39, 117, 118, 119, 120, 121, 122, 123, 124, 125, 126, 127, 128, 129, 130, 131, 132, 133, 134, 135, 136, 137, 138, 139, 140, 141, 142, 143, 144, 145, 146, 147, 148, 149] (by decide +kernel) (by decide +kernel)
set_option maxRecDepth 20000 in
theorem gX8_steps_X8_stepMany : GoodIn wsX8_steps (wsV RX8 205 RX8 yX8_stepMany wsX8_stepMany) := goodIn_app (goodIn_of _ (by decide +kernel)) ggX8_steps_X8_stepMany
set_option maxRecDepth 20000 in
theorem ggX8_steps_X8_meets : GoodIn wsX8_steps wsX8_meets := goodIn_r _ [114, 115, 116, 117, 118, 119, 120, 121, 122, 123, 124, 125, 126, 127, 128, 129, 130, 131, 132, 133, 134, 135, 136, 137, 138, 139, 140, 141, 142, 143, 144, 145, 146, 147, 148, 149] (by decide +kernel) (by decide +kernel)
set_option maxRecDepth 20000 in
theorem gX8_steps_X8_meets : GoodIn wsX8_steps (wsV RX8 116 RX8 yX8_meets wsX8_meets) := goodIn_app (goodIn_of _ (by decide +kernel)) ggX8_steps_X8_meets
theorem dX8_steps_0 : decode cX8_steps 0 = .ok (.aload_n 0, 1) := by decide +kernel
theorem dX8_steps_1 : decode cX8_steps 1 = .ok (.iload_n 1, 1) := by decide +kernel
theorem dX8_steps_2 : decode cX8_steps 2 = .ok (.iload_n 2, 1) := by decide +kernel
theorem dX8_steps_3 : decode cX8_steps 3 = .ok (.iload_n 3, 1) := by decide +kernel
theorem dX8_steps_4 : decode cX8_steps 4 = .ok (.invokevirtual 196, 3) := by decide +kernel
theorem dX8_steps_7 : decode cX8_steps 7 = .ok (.ifCond .eq 13, 3) := by decide +kernel
theorem dX8_steps_10 : decode cX8_steps 10 = .ok (.iload 4, 2) := by decide +kernel
theorem dX8_steps_12 : decode cX8_steps 12 = .ok (.iconst 0, 1) := by decide +kernel
theorem dX8_steps_13 : decode cX8_steps 13 = .ok (.iconst 4, 1) := by decide +kernel
theorem dX8_steps_14 : decode cX8_steps 14 = .ok (.invokestatic 81, 3) := by decide +kernel
theorem dX8_steps_17 : decode cX8_steps 17 = .ok (.ifCond .ne 5, 3) := by decide +kernel
theorem dX8_steps_20 : decode cX8_steps 20 = .ok (.iconst (-1), 1) := by decide +kernel
theorem dX8_steps_21 : decode cX8_steps 21 = .ok (.ireturn, 1) := by decide +kernel
theorem dX8_steps_22 : decode cX8_steps 22 = .ok (.aload_n 0, 1) := by decide +kernel
theorem dX8_steps_23 : decode cX8_steps 23 = .ok (.invokevirtual 199, 3) := by decide +kernel
theorem dX8_steps_26 : decode cX8_steps 26 = .ok (.ifCond .ne 6, 3) := by decide +kernel
theorem dX8_steps_29 : decode cX8_steps 29 = .ok (.bipush (-4), 2) := by decide +kernel
theorem dX8_steps_31 : decode cX8_steps 31 = .ok (.ireturn, 1) := by decide +kernel
theorem dX8_steps_32 : decode cX8_steps 32 = .ok (.aload_n 0, 1) := by decide +kernel
theorem dX8_steps_33 : decode cX8_steps 33 = .ok (.iload_n 1, 1) := by decide +kernel
theorem dX8_steps_34 : decode cX8_steps 34 = .ok (.iload_n 2, 1) := by decide +kernel
theorem dX8_steps_35 : decode cX8_steps 35 = .ok (.iload_n 3, 1) := by decide +kernel
theorem dX8_steps_36 : decode cX8_steps 36 = .ok (.invokestatic 180, 3) := by decide +kernel
theorem dX8_steps_39 : decode cX8_steps 39 = .ok (.invokevirtual 208, 3) := by decide +kernel
theorem dX8_steps_42 : decode cX8_steps 42 = .ok (.istore 5, 2) := by decide +kernel
theorem dX8_steps_44 : decode cX8_steps 44 = .ok (.iload 4, 2) := by decide +kernel
theorem dX8_steps_46 : decode cX8_steps 46 = .ok (.ifCond .eq 28, 3) := by decide +kernel
theorem dX8_steps_49 : decode cX8_steps 49 = .ok (.iload 4, 2) := by decide +kernel
theorem dX8_steps_51 : decode cX8_steps 51 = .ok (.iload 5, 2) := by decide +kernel
theorem dX8_steps_53 : decode cX8_steps 53 = .ok (.if_icmp .eq 21, 3) := by decide +kernel
theorem dX8_steps_56 : decode cX8_steps 56 = .ok (.iload 4, 2) := by decide +kernel
theorem dX8_steps_58 : decode cX8_steps 58 = .ok (.iconst 1, 1) := by decide +kernel
theorem dX8_steps_59 : decode cX8_steps 59 = .ok (.if_icmp .ne 19, 3) := by decide +kernel
theorem dX8_steps_62 : decode cX8_steps 62 = .ok (.iload 5, 2) := by decide +kernel
theorem dX8_steps_64 : decode cX8_steps 64 = .ok (.iconst 2, 1) := by decide +kernel
theorem dX8_steps_65 : decode cX8_steps 65 = .ok (.if_icmp .eq 9, 3) := by decide +kernel
theorem dX8_steps_68 : decode cX8_steps 68 = .ok (.iload 5, 2) := by decide +kernel
theorem dX8_steps_70 : decode cX8_steps 70 = .ok (.iconst 3, 1) := by decide +kernel
theorem dX8_steps_71 : decode cX8_steps 71 = .ok (.if_icmp .ne 7, 3) := by decide +kernel
theorem dX8_steps_74 : decode cX8_steps 74 = .ok (.iconst 1, 1) := by decide +kernel
theorem dX8_steps_75 : decode cX8_steps 75 = .ok (.goto 4, 3) := by decide +kernel
theorem dX8_steps_78 : decode cX8_steps 78 = .ok (.iconst 0, 1) := by decide +kernel
theorem dX8_steps_79 : decode cX8_steps 79 = .ok (.istore 6, 2) := by decide +kernel
theorem dX8_steps_81 : decode cX8_steps 81 = .ok (.iload 6, 2) := by decide +kernel
theorem dX8_steps_83 : decode cX8_steps 83 = .ok (.ifCond .eq 16, 3) := by decide +kernel
theorem dX8_steps_86 : decode cX8_steps 86 = .ok (.aload_n 0, 1) := by decide +kernel
theorem dX8_steps_87 : decode cX8_steps 87 = .ok (.iload_n 1, 1) := by decide +kernel
theorem dX8_steps_88 : decode cX8_steps 88 = .ok (.iload_n 2, 1) := by decide +kernel
theorem dX8_steps_89 : decode cX8_steps 89 = .ok (.iload_n 3, 1) := by decide +kernel
theorem dX8_steps_90 : decode cX8_steps 90 = .ok (.invokestatic 180, 3) := by decide +kernel
theorem dX8_steps_93 : decode cX8_steps 93 = .ok (.invokevirtual 205, 3) := by decide +kernel
theorem dX8_steps_96 : decode cX8_steps 96 = .ok (.goto 8, 3) := by decide +kernel
theorem dX8_steps_99 : decode cX8_steps 99 = .ok (.aload_n 0, 1) := by decide +kernel
theorem dX8_steps_100 : decode cX8_steps 100 = .ok (.iconst 3, 1) := by decide +kernel
theorem dX8_steps_101 : decode cX8_steps 101 = .ok (.invokevirtual 116, 3) := by decide +kernel
theorem dX8_steps_104 : decode cX8_steps 104 = .ok (.ireturn, 1) := by decide +kernel
set_option maxRecDepth 20000 in
theorem ggX8_setPieces_X8_stateOf : GoodIn wsX8_setPieces wsX8_stateOf := goodIn_r _ [7] (by decide +kernel) (by decide +kernel)
set_option maxRecDepth 20000 in
theorem gX8_setPieces_X8_stateOf : GoodIn wsX8_setPieces (va_wsS RX8 180 yX8_stateOf wsX8_stateOf) := goodIn_app (goodIn_of _ (by decide +kernel)) ggX8_setPieces_X8_stateOf
set_option maxRecDepth 20000 in
theorem ggX8_setPieces_X8_isFree : GoodIn wsX8_setPieces wsX8_isFree := goodIn_r _ [11, 12, 13, 32, 33, 34, 35, 36, 37, 38, 39, 40, 41, 42, 43, 44, 45, 46, 47, 48, 49, 50, 51, 52, 53, 54, 55, 56, 57, 58, 59, 60, 61, 62, 63, 64] (by decide +kernel) (by decide +kernel)
set_option maxRecDepth 20000 in
theorem gX8_setPieces_X8_isFree : GoodIn wsX8_setPieces (wsV RX8 186 RX8 yX8_isFree wsX8_isFree) := goodIn_app (goodIn_of _ (by decide +kernel)) ggX8_setPieces_X8_isFree
set_option maxRecDepth 20000 in
theorem ggX8_setPieces_X8_flood : GoodIn wsX8_setPieces wsX8_flood := goodIn_r _ [17, 18, 1, 19, 20, 21, 6, 22, 23, 24, 25, 26, 3, 2, 4, 5, 7, 8, 9, 10, 11, 12, 13, 27, 28, 29, 30, 31, 32, 33, 34, 35, 36, 37, 38, 39, 40, 41, 42, 43, 44, 45, 46, 47, 48, 49, 50, 51, 52, 53, 54, 55, 56, 57, 58, 59, 60, 61, 62, 63, 64] (by decide +kernel) (by decide +kernel)
set_option maxRecDepth 20000 in
theorem gX8_setPieces_X8_flood : GoodIn wsX8_setPieces (wsV RX8 211 RX8 yX8_flood wsX8_flood) := goodIn_app (goodIn_of _ (by decide +kernel)) ggX8_setPieces_X8_flood
theorem dX8_setPieces_0 : decode cX8_setPieces 0 = .ok (.iconst 0, 1) := by decide +kernel
theorem dX8_setPieces_1 : decode cX8_setPieces 1 = .ok (.istore_n 2, 1) := by decide +kernel
theorem dX8_setPieces_2 : decode cX8_setPieces 2 = .ok (.iload_n 2, 1) := by decide +kernel
theorem dX8_setPieces_3 : decode cX8_setPieces 3 = .ok (.sipush 441, 3) := by decide +kernel
theorem dX8_setPieces_6 : decode cX8_setPieces 6 = .ok (.if_icmp .ge 17, 3) := by decide +kernel
theorem dX8_setPieces_9 : decode cX8_setPieces 9 = .ok (.aload_n 0, 1) := by decide +kernel
theorem dX8_setPieces_10 : decode cX8_setPieces 10 = .ok (.getfield 53, 3) := by decide +kernel
theorem dX8_setPieces_13 : decode cX8_setPieces 13 = .ok (.iload_n 2, 1) := by decide +kernel
theorem dX8_setPieces_14 : decode cX8_setPieces 14 = .ok (.bipush (-9), 2) := by decide +kernel
theorem dX8_setPieces_16 : decode cX8_setPieces 16 = .ok (.iastore, 1) := by decide +kernel
theorem dX8_setPieces_17 : decode cX8_setPieces 17 = .ok (.iinc 2 1, 3) := by decide +kernel
theorem dX8_setPieces_20 : decode cX8_setPieces 20 = .ok (.goto (-18), 3) := by decide +kernel
theorem dX8_setPieces_23 : decode cX8_setPieces 23 = .ok (.iconst 0, 1) := by decide +kernel
theorem dX8_setPieces_24 : decode cX8_setPieces 24 = .ok (.istore_n 2, 1) := by decide +kernel
theorem dX8_setPieces_25 : decode cX8_setPieces 25 = .ok (.iconst 0, 1) := by decide +kernel
theorem dX8_setPieces_26 : decode cX8_setPieces 26 = .ok (.istore_n 3, 1) := by decide +kernel
theorem dX8_setPieces_27 : decode cX8_setPieces 27 = .ok (.iload_n 3, 1) := by decide +kernel
theorem dX8_setPieces_28 : decode cX8_setPieces 28 = .ok (.aload_n 0, 1) := by decide +kernel
theorem dX8_setPieces_29 : decode cX8_setPieces 29 = .ok (.getfield 17, 3) := by decide +kernel
theorem dX8_setPieces_32 : decode cX8_setPieces 32 = .ok (.if_icmp .gt 71, 3) := by decide +kernel
theorem dX8_setPieces_35 : decode cX8_setPieces 35 = .ok (.iconst 0, 1) := by decide +kernel
theorem dX8_setPieces_36 : decode cX8_setPieces 36 = .ok (.istore 4, 2) := by decide +kernel
theorem dX8_setPieces_38 : decode cX8_setPieces 38 = .ok (.iload 4, 2) := by decide +kernel
theorem dX8_setPieces_40 : decode cX8_setPieces 40 = .ok (.aload_n 0, 1) := by decide +kernel
theorem dX8_setPieces_41 : decode cX8_setPieces 41 = .ok (.getfield 13, 3) := by decide +kernel
theorem dX8_setPieces_44 : decode cX8_setPieces 44 = .ok (.if_icmp .gt 53, 3) := by decide +kernel
theorem dX8_setPieces_47 : decode cX8_setPieces 47 = .ok (.aload_n 0, 1) := by decide +kernel
theorem dX8_setPieces_48 : decode cX8_setPieces 48 = .ok (.iload 4, 2) := by decide +kernel
theorem dX8_setPieces_50 : decode cX8_setPieces 50 = .ok (.iload_n 3, 1) := by decide +kernel
theorem dX8_setPieces_51 : decode cX8_setPieces 51 = .ok (.iload_n 1, 1) := by decide +kernel
theorem dX8_setPieces_52 : decode cX8_setPieces 52 = .ok (.invokestatic 180, 3) := by decide +kernel
theorem dX8_setPieces_55 : decode cX8_setPieces 55 = .ok (.invokevirtual 186, 3) := by decide +kernel
theorem dX8_setPieces_58 : decode cX8_setPieces 58 = .ok (.ifCond .eq 33, 3) := by decide +kernel
theorem dX8_setPieces_61 : decode cX8_setPieces 61 = .ok (.aload_n 0, 1) := by decide +kernel
theorem dX8_setPieces_62 : decode cX8_setPieces 62 = .ok (.getfield 53, 3) := by decide +kernel
theorem dX8_setPieces_65 : decode cX8_setPieces 65 = .ok (.bipush 21, 2) := by decide +kernel
theorem dX8_setPieces_67 : decode cX8_setPieces 67 = .ok (.iload_n 3, 1) := by decide +kernel
theorem dX8_setPieces_68 : decode cX8_setPieces 68 = .ok (.imul, 1) := by decide +kernel
theorem dX8_setPieces_69 : decode cX8_setPieces 69 = .ok (.iload 4, 2) := by decide +kernel
theorem dX8_setPieces_71 : decode cX8_setPieces 71 = .ok (.iadd, 1) := by decide +kernel
theorem dX8_setPieces_72 : decode cX8_setPieces 72 = .ok (.iaload, 1) := by decide +kernel
theorem dX8_setPieces_73 : decode cX8_setPieces 73 = .ok (.ifCond .ge 18, 3) := by decide +kernel
theorem dX8_setPieces_76 : decode cX8_setPieces 76 = .ok (.aload_n 0, 1) := by decide +kernel
theorem dX8_setPieces_77 : decode cX8_setPieces 77 = .ok (.iload 4, 2) := by decide +kernel
theorem dX8_setPieces_79 : decode cX8_setPieces 79 = .ok (.iload_n 3, 1) := by decide +kernel
theorem dX8_setPieces_80 : decode cX8_setPieces 80 = .ok (.iload_n 1, 1) := by decide +kernel
theorem dX8_setPieces_81 : decode cX8_setPieces 81 = .ok (.invokestatic 180, 3) := by decide +kernel
theorem dX8_setPieces_84 : decode cX8_setPieces 84 = .ok (.iload_n 2, 1) := by decide +kernel
theorem dX8_setPieces_85 : decode cX8_setPieces 85 = .ok (.invokevirtual 211, 3) := by decide +kernel
theorem dX8_setPieces_88 : decode cX8_setPieces 88 = .ok (.iinc 2 1, 3) := by decide +kernel
theorem dX8_setPieces_91 : decode cX8_setPieces 91 = .ok (.iinc 4 1, 3) := by decide +kernel
theorem dX8_setPieces_94 : decode cX8_setPieces 94 = .ok (.goto (-56), 3) := by decide +kernel
theorem dX8_setPieces_97 : decode cX8_setPieces 97 = .ok (.iinc 3 1, 3) := by decide +kernel
theorem dX8_setPieces_100 : decode cX8_setPieces 100 = .ok (.goto (-73), 3) := by decide +kernel
theorem dX8_setPieces_103 : decode cX8_setPieces 103 = .ok (.iload_n 2, 1) := by decide +kernel
theorem dX8_setPieces_104 : decode cX8_setPieces 104 = .ok (.ireturn, 1) := by decide +kernel
set_option maxRecDepth 20000 in
theorem ggX8_flood_X8_led : GoodIn wsX8_flood wsX8_led := goodIn_r _ [7, 8, 9, 10, 6, 11, 12, 13, 14, 15, 16, 17, 18, 19, 20, 21, 22, 23, 24, 25, 26, 27, 28, 29, 30, 31, 32, 33, 34, 35, 36, 37, 38, 39, 40, 41, 42, 43, 44, 45, 46, 47, 48, 49, 50, 51, 52, 53, 54, 55, 56, 57, 58, 59, 60] (by decide +kernel) (by decide +kernel)
set_option maxRecDepth 20000 in
theorem gX8_flood_X8_led : GoodIn wsX8_flood (wsV RX8 202 RX8 yX8_led wsX8_led) := goodIn_app (goodIn_of _ (by decide +kernel)) ggX8_flood_X8_led
theorem dX8_flood_0 : decode cX8_flood 0 = .ok (.iconst 1, 1) := by decide +kernel
theorem dX8_flood_1 : decode cX8_flood 1 = .ok (.istore_n 3, 1) := by decide +kernel
theorem dX8_flood_2 : decode cX8_flood 2 = .ok (.aload_n 0, 1) := by decide +kernel
theorem dX8_flood_3 : decode cX8_flood 3 = .ok (.getfield 56, 3) := by decide +kernel
theorem dX8_flood_6 : decode cX8_flood 6 = .ok (.iconst 0, 1) := by decide +kernel
theorem dX8_flood_7 : decode cX8_flood 7 = .ok (.iload_n 1, 1) := by decide +kernel
theorem dX8_flood_8 : decode cX8_flood 8 = .ok (.iastore, 1) := by decide +kernel
theorem dX8_flood_9 : decode cX8_flood 9 = .ok (.aload_n 0, 1) := by decide +kernel
theorem dX8_flood_10 : decode cX8_flood 10 = .ok (.getfield 53, 3) := by decide +kernel
theorem dX8_flood_13 : decode cX8_flood 13 = .ok (.iload_n 1, 1) := by decide +kernel
theorem dX8_flood_14 : decode cX8_flood 14 = .ok (.sipush 441, 3) := by decide +kernel
theorem dX8_flood_17 : decode cX8_flood 17 = .ok (.irem, 1) := by decide +kernel
theorem dX8_flood_18 : decode cX8_flood 18 = .ok (.iload_n 2, 1) := by decide +kernel
theorem dX8_flood_19 : decode cX8_flood 19 = .ok (.iastore, 1) := by decide +kernel
theorem dX8_flood_20 : decode cX8_flood 20 = .ok (.iload_n 3, 1) := by decide +kernel
theorem dX8_flood_21 : decode cX8_flood 21 = .ok (.ifCond .le 84, 3) := by decide +kernel
theorem dX8_flood_24 : decode cX8_flood 24 = .ok (.iinc 3 (-1), 3) := by decide +kernel
theorem dX8_flood_27 : decode cX8_flood 27 = .ok (.aload_n 0, 1) := by decide +kernel
theorem dX8_flood_28 : decode cX8_flood 28 = .ok (.getfield 56, 3) := by decide +kernel
theorem dX8_flood_31 : decode cX8_flood 31 = .ok (.iload_n 3, 1) := by decide +kernel
theorem dX8_flood_32 : decode cX8_flood 32 = .ok (.iaload, 1) := by decide +kernel
theorem dX8_flood_33 : decode cX8_flood 33 = .ok (.istore 4, 2) := by decide +kernel
theorem dX8_flood_35 : decode cX8_flood 35 = .ok (.iconst 0, 1) := by decide +kernel
theorem dX8_flood_36 : decode cX8_flood 36 = .ok (.istore 5, 2) := by decide +kernel
theorem dX8_flood_38 : decode cX8_flood 38 = .ok (.iload 5, 2) := by decide +kernel
theorem dX8_flood_40 : decode cX8_flood 40 = .ok (.iconst 4, 1) := by decide +kernel
theorem dX8_flood_41 : decode cX8_flood 41 = .ok (.if_icmp .ge 61, 3) := by decide +kernel
theorem dX8_flood_44 : decode cX8_flood 44 = .ok (.aload_n 0, 1) := by decide +kernel
theorem dX8_flood_45 : decode cX8_flood 45 = .ok (.iload 4, 2) := by decide +kernel
theorem dX8_flood_47 : decode cX8_flood 47 = .ok (.iload 5, 2) := by decide +kernel
theorem dX8_flood_49 : decode cX8_flood 49 = .ok (.invokevirtual 202, 3) := by decide +kernel
theorem dX8_flood_52 : decode cX8_flood 52 = .ok (.istore 6, 2) := by decide +kernel
theorem dX8_flood_54 : decode cX8_flood 54 = .ok (.iload 6, 2) := by decide +kernel
theorem dX8_flood_56 : decode cX8_flood 56 = .ok (.ifCond .lt 40, 3) := by decide +kernel
theorem dX8_flood_59 : decode cX8_flood 59 = .ok (.aload_n 0, 1) := by decide +kernel
theorem dX8_flood_60 : decode cX8_flood 60 = .ok (.getfield 53, 3) := by decide +kernel
theorem dX8_flood_63 : decode cX8_flood 63 = .ok (.iload 6, 2) := by decide +kernel
theorem dX8_flood_65 : decode cX8_flood 65 = .ok (.sipush 441, 3) := by decide +kernel
theorem dX8_flood_68 : decode cX8_flood 68 = .ok (.irem, 1) := by decide +kernel
theorem dX8_flood_69 : decode cX8_flood 69 = .ok (.iaload, 1) := by decide +kernel
theorem dX8_flood_70 : decode cX8_flood 70 = .ok (.ifCond .ge 26, 3) := by decide +kernel
theorem dX8_flood_73 : decode cX8_flood 73 = .ok (.aload_n 0, 1) := by decide +kernel
theorem dX8_flood_74 : decode cX8_flood 74 = .ok (.getfield 53, 3) := by decide +kernel
theorem dX8_flood_77 : decode cX8_flood 77 = .ok (.iload 6, 2) := by decide +kernel
theorem dX8_flood_79 : decode cX8_flood 79 = .ok (.sipush 441, 3) := by decide +kernel
theorem dX8_flood_82 : decode cX8_flood 82 = .ok (.irem, 1) := by decide +kernel
theorem dX8_flood_83 : decode cX8_flood 83 = .ok (.iload_n 2, 1) := by decide +kernel
theorem dX8_flood_84 : decode cX8_flood 84 = .ok (.iastore, 1) := by decide +kernel
theorem dX8_flood_85 : decode cX8_flood 85 = .ok (.aload_n 0, 1) := by decide +kernel
theorem dX8_flood_86 : decode cX8_flood 86 = .ok (.getfield 56, 3) := by decide +kernel
theorem dX8_flood_89 : decode cX8_flood 89 = .ok (.iload_n 3, 1) := by decide +kernel
theorem dX8_flood_90 : decode cX8_flood 90 = .ok (.iload 6, 2) := by decide +kernel
theorem dX8_flood_92 : decode cX8_flood 92 = .ok (.iastore, 1) := by decide +kernel
theorem dX8_flood_93 : decode cX8_flood 93 = .ok (.iinc 3 1, 3) := by decide +kernel
theorem dX8_flood_96 : decode cX8_flood 96 = .ok (.iinc 5 1, 3) := by decide +kernel
theorem dX8_flood_99 : decode cX8_flood 99 = .ok (.goto (-61), 3) := by decide +kernel
theorem dX8_flood_102 : decode cX8_flood 102 = .ok (.goto (-82), 3) := by decide +kernel
theorem dX8_flood_105 : decode cX8_flood 105 = .ok (.return_, 1) := by decide +kernel
set_option maxRecDepth 20000 in
theorem ggX8_pieces_X8_in : GoodIn wsX8_pieces wsX8_in := goodIn_r _ [4] (by decide +kernel) (by decide +kernel)
set_option maxRecDepth 20000 in
theorem gX8_pieces_X8_in : GoodIn wsX8_pieces (va_wsS RX8 81 yX8_in wsX8_in) := goodIn_app (goodIn_of _ (by decide +kernel)) ggX8_pieces_X8_in
set_option maxRecDepth 20000 in
theorem ggX8_pieces_X8_begin : GoodIn wsX8_pieces wsX8_begin := goodIn_r _ [8, 9, 10, 11, 12, 3, 13, 14, 15, 16, 17, 18, 19, 20, 21, 22, 23, 24, 25, 26, 27, 28, 29, 30, 31, 32, 33, 34, 35, 36, 37, 38, 39, 40, 41, 42, 43, 44, 45, 46, 47, 48, 1, 2, 4, 49, 50, 51, 52, 53, 54, 55, 56, 57, 58, 59, 60, 61, 62, 63, 64, 65, 66, 67, 68, 69, 70, 71, 72, 73, 74, 75, 105, 106, 107, 108, 109, 110, 111, 112, 113, 114, 115, 116, 117, 118, 119, 120, 121, 122, 123, 124, 125, 126, 127, 128, 129, 130, 131, 132, 133, 134, 135, 136, 137] (by decide +kernel) (by decide +kernel)
set_option maxRecDepth 20000 in
theorem gX8_pieces_X8_begin : GoodIn wsX8_pieces (wsV RX8 199 RX8 yX8_begin wsX8_begin) := goodIn_app (goodIn_of _ (by decide +kernel)) ggX8_pieces_X8_begin
set_option maxRecDepth 20000 in
theorem ggX8_pieces_X8_setPieces : GoodIn wsX8_pieces wsX8_setPieces := goodIn_r _ [79, 80, 29, 30, 81, 82, 3, 83, 84, 85, 86, 87, 32, 9, 88, 89, 90, 91, 92, 93, 94, 95, 96, 97, 98, 99, 100, 101, 102, 103, 104, 31, 105, 106, 107, 108, 109, 110, 111, 112, 113, 114, 115, 116, 117, 118, 119, 120, 121, 122, 123, 124, 125, 126, 127, 128, 129, 130, 131, 132, 133, 134, 135, 136, 137] (by decide +kernel) (by decide +kernel)
set_option maxRecDepth 20000 in
theorem gX8_pieces_X8_setPieces : GoodIn wsX8_pieces (wsV RX8 215 RX8 yX8_setPieces wsX8_setPieces) := goodIn_app (goodIn_of _ (by decide +kernel)) ggX8_pieces_X8_setPieces
theorem dX8_pieces_0 : decode cX8_pieces 0 = .ok (.iload_n 1, 1) := by decide +kernel
theorem dX8_pieces_1 : decode cX8_pieces 1 = .ok (.iconst 0, 1) := by decide +kernel
theorem dX8_pieces_2 : decode cX8_pieces 2 = .ok (.iconst 3, 1) := by decide +kernel
theorem dX8_pieces_3 : decode cX8_pieces 3 = .ok (.invokestatic 81, 3) := by decide +kernel
theorem dX8_pieces_6 : decode cX8_pieces 6 = .ok (.ifCond .ne 5, 3) := by decide +kernel
theorem dX8_pieces_9 : decode cX8_pieces 9 = .ok (.iconst (-1), 1) := by decide +kernel
theorem dX8_pieces_10 : decode cX8_pieces 10 = .ok (.ireturn, 1) := by decide +kernel
theorem dX8_pieces_11 : decode cX8_pieces 11 = .ok (.aload_n 0, 1) := by decide +kernel
theorem dX8_pieces_12 : decode cX8_pieces 12 = .ok (.invokevirtual 199, 3) := by decide +kernel
theorem dX8_pieces_15 : decode cX8_pieces 15 = .ok (.ifCond .eq 11, 3) := by decide +kernel
theorem dX8_pieces_18 : decode cX8_pieces 18 = .ok (.aload_n 0, 1) := by decide +kernel
theorem dX8_pieces_19 : decode cX8_pieces 19 = .ok (.iload_n 1, 1) := by decide +kernel
theorem dX8_pieces_20 : decode cX8_pieces 20 = .ok (.invokevirtual 215, 3) := by decide +kernel
theorem dX8_pieces_23 : decode cX8_pieces 23 = .ok (.goto 5, 3) := by decide +kernel
theorem dX8_pieces_26 : decode cX8_pieces 26 = .ok (.bipush (-4), 2) := by decide +kernel
theorem dX8_pieces_28 : decode cX8_pieces 28 = .ok (.ireturn, 1) := by decide +kernel
set_option maxRecDepth 20000 in
theorem ggX8_piece_X8_isState : GoodIn wsX8_piece wsX8_isState := goodIn_r _ [6, 7, 8, 9, 5, 10, 11, 12, 13, 14, 15, 113, 114, 115, 116, 117, 118, 119, 120, 121, 122, 123, 124, 125, 126, 127, 128, 129, 130, 131, 132, 133, 134, 135, 136, 137, 138, 139, 140, 141, 142, 143, 144, 145] (by decide +kernel) (by decide +kernel)
set_option maxRecDepth 20000 in
theorem gX8_piece_X8_isState : GoodIn wsX8_piece (wsV RX8 196 RX8 yX8_isState wsX8_isState) := goodIn_app (goodIn_of _ (by decide +kernel)) ggX8_piece_X8_isState
set_option maxRecDepth 20000 in
theorem ggX8_piece_X8_begin : GoodIn wsX8_piece wsX8_begin := goodIn_r _ [19, 20, 21, 22, 23, 5, 24, 25, 26, 27, 28, 29, 30, 31, 32, 33, 34, 35, 36, 37, 38, 39, 12, 11, 40, 41, 42, 43, 44, 45, 46, 47, 48, 49, 50, 51, 52, 53, 54, 55, 56, 57, 13, 14, 15, 58, 59, 60, 61, 62, 63, 64, 65, 66, 67, 68, 69, 70, 71, 72, 73, 74, 75, 76, 77, 78, 79, 80, 81, 82, 83, 84, 113, 114, 115, 116, 117, 118, 119, 120, 121, 122, 123, 124, 125, 126, 127, 128, 129, 130, 131, 132, 133, 134, 135, 136, 137, 138, 139, 140, 141, 142, 143, 144, 145] (by decide +kernel) (by decide +kernel)
set_option maxRecDepth 20000 in
theorem gX8_piece_X8_begin : GoodIn wsX8_piece (wsV RX8 199 RX8 yX8_begin wsX8_begin) := goodIn_app (goodIn_of _ (by decide +kernel)) ggX8_piece_X8_begin
set_option maxRecDepth 20000 in
theorem ggX8_piece_X8_setPieces : GoodIn wsX8_piece wsX8_setPieces := goodIn_r _ [88, 1, 12, 11, 89, 90, 5, 91, 92, 93, 94, 95, 41, 20, 96, 97, 98, 99, 100, 101, 102, 103, 104, 105, 106, 107, 108, 109, 110, 111, 112, 40, 113, 114, 115, 116, 117, 118, 119, 120, 121, 122, 123, 124, 125, 126, 127, 128, 129, 130, 131, 132, 133, 134, 135, 136, 137, 138, 139, 140, 141, 142, 143, 144, 145] (by decide +kernel) (by decide +kernel)
set_option maxRecDepth 20000 in
theorem gX8_piece_X8_setPieces : GoodIn wsX8_piece (wsV RX8 215 RX8 yX8_setPieces wsX8_setPieces) := goodIn_app (goodIn_of _ (by decide +kernel)) ggX8_piece_X8_setPieces
theorem dX8_piece_0 : decode cX8_piece 0 = .ok (.aload_n 0, 1) := by decide +kernel
theorem dX8_piece_1 : decode cX8_piece 1 = .ok (.iload_n 1, 1) := by decide +kernel
theorem dX8_piece_2 : decode cX8_piece 2 = .ok (.iload_n 2, 1) := by decide +kernel
theorem dX8_piece_3 : decode cX8_piece 3 = .ok (.iload_n 3, 1) := by decide +kernel
theorem dX8_piece_4 : decode cX8_piece 4 = .ok (.invokevirtual 196, 3) := by decide +kernel
theorem dX8_piece_7 : decode cX8_piece 7 = .ok (.ifCond .ne 5, 3) := by decide +kernel
theorem dX8_piece_10 : decode cX8_piece 10 = .ok (.iconst (-1), 1) := by decide +kernel
theorem dX8_piece_11 : decode cX8_piece 11 = .ok (.ireturn, 1) := by decide +kernel
theorem dX8_piece_12 : decode cX8_piece 12 = .ok (.aload_n 0, 1) := by decide +kernel
theorem dX8_piece_13 : decode cX8_piece 13 = .ok (.invokevirtual 199, 3) := by decide +kernel
theorem dX8_piece_16 : decode cX8_piece 16 = .ok (.ifCond .ne 6, 3) := by decide +kernel
theorem dX8_piece_19 : decode cX8_piece 19 = .ok (.bipush (-4), 2) := by decide +kernel
theorem dX8_piece_21 : decode cX8_piece 21 = .ok (.ireturn, 1) := by decide +kernel
theorem dX8_piece_22 : decode cX8_piece 22 = .ok (.aload_n 0, 1) := by decide +kernel
theorem dX8_piece_23 : decode cX8_piece 23 = .ok (.iload_n 3, 1) := by decide +kernel
theorem dX8_piece_24 : decode cX8_piece 24 = .ok (.invokevirtual 215, 3) := by decide +kernel
theorem dX8_piece_27 : decode cX8_piece 27 = .ok (.istore 4, 2) := by decide +kernel
theorem dX8_piece_29 : decode cX8_piece 29 = .ok (.aload_n 0, 1) := by decide +kernel
theorem dX8_piece_30 : decode cX8_piece 30 = .ok (.getfield 53, 3) := by decide +kernel
theorem dX8_piece_33 : decode cX8_piece 33 = .ok (.bipush 21, 2) := by decide +kernel
theorem dX8_piece_35 : decode cX8_piece 35 = .ok (.iload_n 2, 1) := by decide +kernel
theorem dX8_piece_36 : decode cX8_piece 36 = .ok (.imul, 1) := by decide +kernel
theorem dX8_piece_37 : decode cX8_piece 37 = .ok (.iload_n 1, 1) := by decide +kernel
theorem dX8_piece_38 : decode cX8_piece 38 = .ok (.iadd, 1) := by decide +kernel
theorem dX8_piece_39 : decode cX8_piece 39 = .ok (.iaload, 1) := by decide +kernel
theorem dX8_piece_40 : decode cX8_piece 40 = .ok (.ireturn, 1) := by decide +kernel
set_option maxRecDepth 20000 in
theorem ggX8_area_X8_in : GoodIn wsX8_area wsX8_in := goodIn_r _ [5] (by decide +kernel) (by decide +kernel)
set_option maxRecDepth 20000 in
theorem gX8_area_X8_in : GoodIn wsX8_area (va_wsS RX8 81 yX8_in wsX8_in) := goodIn_app (goodIn_of _ (by decide +kernel)) ggX8_area_X8_in
set_option maxRecDepth 20000 in
theorem ggX8_area_X8_begin : GoodIn wsX8_area wsX8_begin := goodIn_r _ [9, 10, 11, 12, 13, 4, 14, 15, 16, 17, 18, 19, 20, 21, 22, 23, 24, 25, 26, 27, 28, 29, 30, 31, 32, 33, 34, 35, 36, 37, 38, 39, 40, 41, 42, 43, 44, 45, 46, 47, 48, 49, 2, 3, 5, 50, 51, 52, 53, 54, 55, 56, 57, 58, 59, 60, 61, 62, 63, 64, 65, 66, 67, 68, 69, 70, 71, 72, 73, 74, 75, 76, 109, 110, 111, 112, 113, 114, 115, 116, 117, 118, 119, 120, 121, 122, 123, 124, 125, 126, 127, 128, 129, 130, 131, 132, 133, 134, 135, 136, 137, 138, 139, 140, 141] (by decide +kernel) (by decide +kernel)
set_option maxRecDepth 20000 in
theorem gX8_area_X8_begin : GoodIn wsX8_area (wsV RX8 199 RX8 yX8_begin wsX8_begin) := goodIn_app (goodIn_of _ (by decide +kernel)) ggX8_area_X8_begin
set_option maxRecDepth 20000 in
theorem ggX8_area_X8_setPieces : GoodIn wsX8_area wsX8_setPieces := goodIn_r _ [80, 1, 30, 31, 81, 82, 4, 83, 84, 85, 86, 87, 33, 10, 88, 89, 90, 91, 92, 93, 94, 95, 96, 97, 98, 99, 100, 101, 102, 103, 104, 32, 109, 110, 111, 112, 113, 114, 115, 116, 117, 118, 119, 120, 121, 122, 123, 124, 125, 126, 127, 128, 129, 130, 131, 132, 133, 134, 135, 136, 137, 138, 139, 140, 141] (by decide +kernel) (by decide +kernel)
set_option maxRecDepth 20000 in
theorem gX8_area_X8_setPieces : GoodIn wsX8_area (wsV RX8 215 RX8 yX8_setPieces wsX8_setPieces) := goodIn_app (goodIn_of _ (by decide +kernel)) ggX8_area_X8_setPieces
set_option maxRecDepth 20000 in
theorem ggX8_area_X8_isTurning : GoodIn wsX8_area wsX8_isTurning := goodIn_r _ [104, 32, 10, 109, 110, 111, 112, 113, 114, 115, 116, 117, 118, 119, 120, 121, 122, 123, 124, 125, 126, 127, 128, 129, 130, 131, 132, 133, 134, 135, 136, 137, 138, 139, 140, 141] (by decide +kernel) (by decide +kernel)
set_option maxRecDepth 20000 in
theorem gX8_area_X8_isTurning : GoodIn wsX8_area (wsV RX8 189 RX8 yX8_isTurning wsX8_isTurning) := goodIn_app (goodIn_of _ (by decide +kernel)) ggX8_area_X8_isTurning
set_option maxRecDepth 20000 in
theorem ggX8_area_X8_stepMany : GoodIn wsX8_area wsX8_stepMany := goodIn_r _ [108, 84, 85, 86, 4, 87, 33, 10, 93, 94, 95, 96, 97, 98, 99, 100, 31, 30, 81, 82, 83, 101, 102, 103, 104, 32, 109, 110, 111, 112, 113, 114, 115, 116, 117, 118, 119, 120, 121, 122, 123, 124, 125, 126, 127, 128, 129, 130, 131, 132, 133, 134, 135, 136, 137, 138, 139, 140, 141] (by decide +kernel) (by decide +kernel)
set_option maxRecDepth 20000 in
theorem gX8_area_X8_stepMany : GoodIn wsX8_area (wsV RX8 205 RX8 yX8_stepMany wsX8_stepMany) := goodIn_app (goodIn_of _ (by decide +kernel)) ggX8_area_X8_stepMany
theorem dX8_area_0 : decode cX8_area 0 = .ok (.iload_n 1, 1) := by decide +kernel
theorem dX8_area_1 : decode cX8_area 1 = .ok (.iconst 0, 1) := by decide +kernel
theorem dX8_area_2 : decode cX8_area 2 = .ok (.iconst 3, 1) := by decide +kernel
theorem dX8_area_3 : decode cX8_area 3 = .ok (.invokestatic 81, 3) := by decide +kernel
theorem dX8_area_6 : decode cX8_area 6 = .ok (.ifCond .eq 16, 3) := by decide +kernel
theorem dX8_area_9 : decode cX8_area 9 = .ok (.iload_n 2, 1) := by decide +kernel
theorem dX8_area_10 : decode cX8_area 10 = .ok (.ifCond .lt 12, 3) := by decide +kernel
theorem dX8_area_13 : decode cX8_area 13 = .ok (.iload_n 3, 1) := by decide +kernel
theorem dX8_area_14 : decode cX8_area 14 = .ok (.iconst 0, 1) := by decide +kernel
theorem dX8_area_15 : decode cX8_area 15 = .ok (.iconst 2, 1) := by decide +kernel
theorem dX8_area_16 : decode cX8_area 16 = .ok (.invokestatic 81, 3) := by decide +kernel
theorem dX8_area_19 : decode cX8_area 19 = .ok (.ifCond .ne 5, 3) := by decide +kernel
theorem dX8_area_22 : decode cX8_area 22 = .ok (.iconst (-1), 1) := by decide +kernel
theorem dX8_area_23 : decode cX8_area 23 = .ok (.ireturn, 1) := by decide +kernel
theorem dX8_area_24 : decode cX8_area 24 = .ok (.aload_n 0, 1) := by decide +kernel
theorem dX8_area_25 : decode cX8_area 25 = .ok (.invokevirtual 199, 3) := by decide +kernel
theorem dX8_area_28 : decode cX8_area 28 = .ok (.ifCond .ne 6, 3) := by decide +kernel
theorem dX8_area_31 : decode cX8_area 31 = .ok (.bipush (-4), 2) := by decide +kernel
theorem dX8_area_33 : decode cX8_area 33 = .ok (.ireturn, 1) := by decide +kernel
theorem dX8_area_34 : decode cX8_area 34 = .ok (.iload_n 2, 1) := by decide +kernel
theorem dX8_area_35 : decode cX8_area 35 = .ok (.aload_n 0, 1) := by decide +kernel
theorem dX8_area_36 : decode cX8_area 36 = .ok (.iload_n 1, 1) := by decide +kernel
theorem dX8_area_37 : decode cX8_area 37 = .ok (.invokevirtual 215, 3) := by decide +kernel
theorem dX8_area_40 : decode cX8_area 40 = .ok (.if_icmp .lt 5, 3) := by decide +kernel
theorem dX8_area_43 : decode cX8_area 43 = .ok (.iconst (-1), 1) := by decide +kernel
theorem dX8_area_44 : decode cX8_area 44 = .ok (.ireturn, 1) := by decide +kernel
theorem dX8_area_45 : decode cX8_area 45 = .ok (.iconst 0, 1) := by decide +kernel
theorem dX8_area_46 : decode cX8_area 46 = .ok (.istore 4, 2) := by decide +kernel
theorem dX8_area_48 : decode cX8_area 48 = .ok (.iconst 0, 1) := by decide +kernel
theorem dX8_area_49 : decode cX8_area 49 = .ok (.istore 5, 2) := by decide +kernel
theorem dX8_area_51 : decode cX8_area 51 = .ok (.iload 5, 2) := by decide +kernel
theorem dX8_area_53 : decode cX8_area 53 = .ok (.sipush 441, 3) := by decide +kernel
theorem dX8_area_56 : decode cX8_area 56 = .ok (.if_icmp .ge 85, 3) := by decide +kernel
theorem dX8_area_59 : decode cX8_area 59 = .ok (.sipush 441, 3) := by decide +kernel
theorem dX8_area_62 : decode cX8_area 62 = .ok (.iload_n 1, 1) := by decide +kernel
theorem dX8_area_63 : decode cX8_area 63 = .ok (.imul, 1) := by decide +kernel
theorem dX8_area_64 : decode cX8_area 64 = .ok (.iload 5, 2) := by decide +kernel
theorem dX8_area_66 : decode cX8_area 66 = .ok (.iadd, 1) := by decide +kernel
theorem dX8_area_67 : decode cX8_area 67 = .ok (.istore 6, 2) := by decide +kernel
theorem dX8_area_69 : decode cX8_area 69 = .ok (.aload_n 0, 1) := by decide +kernel
theorem dX8_area_70 : decode cX8_area 70 = .ok (.getfield 53, 3) := by decide +kernel
theorem dX8_area_73 : decode cX8_area 73 = .ok (.iload 5, 2) := by decide +kernel
theorem dX8_area_75 : decode cX8_area 75 = .ok (.iaload, 1) := by decide +kernel
theorem dX8_area_76 : decode cX8_area 76 = .ok (.iload_n 2, 1) := by decide +kernel
theorem dX8_area_77 : decode cX8_area 77 = .ok (.if_icmp .ne 40, 3) := by decide +kernel
theorem dX8_area_80 : decode cX8_area 80 = .ok (.iload_n 3, 1) := by decide +kernel
theorem dX8_area_81 : decode cX8_area 81 = .ok (.ifCond .eq 32, 3) := by decide +kernel
theorem dX8_area_84 : decode cX8_area 84 = .ok (.iload_n 3, 1) := by decide +kernel
theorem dX8_area_85 : decode cX8_area 85 = .ok (.iconst 1, 1) := by decide +kernel
theorem dX8_area_86 : decode cX8_area 86 = .ok (.if_icmp .ne 12, 3) := by decide +kernel
theorem dX8_area_89 : decode cX8_area 89 = .ok (.aload_n 0, 1) := by decide +kernel
theorem dX8_area_90 : decode cX8_area 90 = .ok (.iload 6, 2) := by decide +kernel
theorem dX8_area_92 : decode cX8_area 92 = .ok (.invokevirtual 189, 3) := by decide +kernel
theorem dX8_area_95 : decode cX8_area 95 = .ok (.ifCond .ne 18, 3) := by decide +kernel
theorem dX8_area_98 : decode cX8_area 98 = .ok (.iload_n 3, 1) := by decide +kernel
theorem dX8_area_99 : decode cX8_area 99 = .ok (.iconst 2, 1) := by decide +kernel
theorem dX8_area_100 : decode cX8_area 100 = .ok (.if_icmp .ne 17, 3) := by decide +kernel
theorem dX8_area_103 : decode cX8_area 103 = .ok (.aload_n 0, 1) := by decide +kernel
theorem dX8_area_104 : decode cX8_area 104 = .ok (.iload 6, 2) := by decide +kernel
theorem dX8_area_106 : decode cX8_area 106 = .ok (.invokevirtual 205, 3) := by decide +kernel
theorem dX8_area_109 : decode cX8_area 109 = .ok (.iconst 4, 1) := by decide +kernel
theorem dX8_area_110 : decode cX8_area 110 = .ok (.if_icmp .ge 7, 3) := by decide +kernel
theorem dX8_area_113 : decode cX8_area 113 = .ok (.iconst 1, 1) := by decide +kernel
theorem dX8_area_114 : decode cX8_area 114 = .ok (.goto 4, 3) := by decide +kernel
theorem dX8_area_117 : decode cX8_area 117 = .ok (.iconst 0, 1) := by decide +kernel
theorem dX8_area_118 : decode cX8_area 118 = .ok (.istore 7, 2) := by decide +kernel
theorem dX8_area_120 : decode cX8_area 120 = .ok (.iload 4, 2) := by decide +kernel
theorem dX8_area_122 : decode cX8_area 122 = .ok (.iload 7, 2) := by decide +kernel
theorem dX8_area_124 : decode cX8_area 124 = .ok (.ifCond .eq 7, 3) := by decide +kernel
theorem dX8_area_127 : decode cX8_area 127 = .ok (.iconst 1, 1) := by decide +kernel
theorem dX8_area_128 : decode cX8_area 128 = .ok (.goto 4, 3) := by decide +kernel
theorem dX8_area_131 : decode cX8_area 131 = .ok (.iconst 0, 1) := by decide +kernel
theorem dX8_area_132 : decode cX8_area 132 = .ok (.iadd, 1) := by decide +kernel
theorem dX8_area_133 : decode cX8_area 133 = .ok (.istore 4, 2) := by decide +kernel
theorem dX8_area_135 : decode cX8_area 135 = .ok (.iinc 5 1, 3) := by decide +kernel
theorem dX8_area_138 : decode cX8_area 138 = .ok (.goto (-87), 3) := by decide +kernel
theorem dX8_area_141 : decode cX8_area 141 = .ok (.iload 4, 2) := by decide +kernel
theorem dX8_area_143 : decode cX8_area 143 = .ok (.ireturn, 1) := by decide +kernel
set_option maxRecDepth 20000 in
theorem ggX8_slide_X8_isState : GoodIn wsX8_slide wsX8_isState := goodIn_r _ [5, 6, 7, 8, 4, 9, 10, 11, 12, 13, 14, 103, 104, 105, 106, 107, 108, 109, 110, 111, 112, 113, 114, 115, 116, 117, 118, 119, 120, 121, 122, 123, 124, 125, 126, 127, 128, 129, 130, 131, 132, 133, 134, 135] (by decide +kernel) (by decide +kernel)
set_option maxRecDepth 20000 in
theorem gX8_slide_X8_isState : GoodIn wsX8_slide (wsV RX8 196 RX8 yX8_isState wsX8_isState) := goodIn_app (goodIn_of _ (by decide +kernel)) ggX8_slide_X8_isState
set_option maxRecDepth 20000 in
theorem ggX8_slide_X8_in : GoodIn wsX8_slide wsX8_in := goodIn_r _ [14] (by decide +kernel) (by decide +kernel)
set_option maxRecDepth 20000 in
theorem gX8_slide_X8_in : GoodIn wsX8_slide (va_wsS RX8 81 yX8_in wsX8_in) := goodIn_app (goodIn_of _ (by decide +kernel)) ggX8_slide_X8_in
set_option maxRecDepth 20000 in
theorem ggX8_slide_X8_begin : GoodIn wsX8_slide wsX8_begin := goodIn_r _ [18, 19, 20, 21, 22, 4, 23, 24, 25, 26, 27, 28, 29, 30, 31, 32, 33, 34, 35, 36, 37, 38, 11, 10, 39, 40, 41, 42, 43, 44, 45, 46, 47, 48, 49, 50, 51, 52, 53, 54, 55, 56, 12, 13, 14, 57, 58, 59, 60, 61, 62, 63, 64, 65, 66, 67, 68, 69, 70, 71, 72, 73, 74, 75, 76, 77, 78, 79, 80, 81, 82, 83, 103, 104, 105, 106, 107, 108, 109, 110, 111, 112, 113, 114, 115, 116, 117, 118, 119, 120, 121, 122, 123, 124, 125, 126, 127, 128, 129, 130, 131, 132, 133, 134, 135] (by decide +kernel) (by decide +kernel)
set_option maxRecDepth 20000 in
theorem gX8_slide_X8_begin : GoodIn wsX8_slide (wsV RX8 199 RX8 yX8_begin wsX8_begin) := goodIn_app (goodIn_of _ (by decide +kernel)) ggX8_slide_X8_begin
set_option maxRecDepth 20000 in
theorem ggX8_slide_X8_stateOf : GoodIn wsX8_slide wsX8_stateOf := goodIn_r _ [86] (by decide +kernel) (by decide +kernel)
set_option maxRecDepth 20000 in
theorem gX8_slide_X8_stateOf : GoodIn wsX8_slide (va_wsS RX8 180 yX8_stateOf wsX8_stateOf) := goodIn_app (goodIn_of _ (by decide +kernel)) ggX8_slide_X8_stateOf
set_option maxRecDepth 20000 in
theorem ggX8_slide_X8_isFree : GoodIn wsX8_slide wsX8_isFree := goodIn_r _ [90, 40, 19, 103, 104, 105, 106, 107, 108, 109, 110, 111, 112, 113, 114, 115, 116, 117, 118, 119, 120, 121, 122, 123, 124, 125, 126, 127, 128, 129, 130, 131, 132, 133, 134, 135] (by decide +kernel) (by decide +kernel)
set_option maxRecDepth 20000 in
theorem gX8_slide_X8_isFree : GoodIn wsX8_slide (wsV RX8 186 RX8 yX8_isFree wsX8_isFree) := goodIn_app (goodIn_of _ (by decide +kernel)) ggX8_slide_X8_isFree
set_option maxRecDepth 20000 in
theorem ggX8_slide_X8_led : GoodIn wsX8_slide wsX8_led := goodIn_r _ [94, 95, 96, 97, 4, 98, 10, 11, 84, 85, 86, 87, 88, 89, 90, 40, 19, 99, 100, 101, 102, 39, 103, 104, 105, 106, 107, 108, 109, 110, 111, 112, 113, 114, 115, 116, 117, 118, 119, 120, 121, 122, 123, 124, 125, 126, 127, 128, 129, 130, 131, 132, 133, 134, 135] (by decide +kernel) (by decide +kernel)
set_option maxRecDepth 20000 in
theorem gX8_slide_X8_led : GoodIn wsX8_slide (wsV RX8 202 RX8 yX8_led wsX8_led) := goodIn_app (goodIn_of _ (by decide +kernel)) ggX8_slide_X8_led
theorem dX8_slide_0 : decode cX8_slide 0 = .ok (.aload_n 0, 1) := by decide +kernel
theorem dX8_slide_1 : decode cX8_slide 1 = .ok (.iload_n 1, 1) := by decide +kernel
theorem dX8_slide_2 : decode cX8_slide 2 = .ok (.iload_n 2, 1) := by decide +kernel
theorem dX8_slide_3 : decode cX8_slide 3 = .ok (.iload_n 3, 1) := by decide +kernel
theorem dX8_slide_4 : decode cX8_slide 4 = .ok (.invokevirtual 196, 3) := by decide +kernel
theorem dX8_slide_7 : decode cX8_slide 7 = .ok (.ifCond .eq 13, 3) := by decide +kernel
theorem dX8_slide_10 : decode cX8_slide 10 = .ok (.iload 4, 2) := by decide +kernel
theorem dX8_slide_12 : decode cX8_slide 12 = .ok (.iconst 0, 1) := by decide +kernel
theorem dX8_slide_13 : decode cX8_slide 13 = .ok (.iconst 3, 1) := by decide +kernel
theorem dX8_slide_14 : decode cX8_slide 14 = .ok (.invokestatic 81, 3) := by decide +kernel
theorem dX8_slide_17 : decode cX8_slide 17 = .ok (.ifCond .ne 5, 3) := by decide +kernel
theorem dX8_slide_20 : decode cX8_slide 20 = .ok (.iconst (-1), 1) := by decide +kernel
theorem dX8_slide_21 : decode cX8_slide 21 = .ok (.ireturn, 1) := by decide +kernel
theorem dX8_slide_22 : decode cX8_slide 22 = .ok (.aload_n 0, 1) := by decide +kernel
theorem dX8_slide_23 : decode cX8_slide 23 = .ok (.invokevirtual 199, 3) := by decide +kernel
theorem dX8_slide_26 : decode cX8_slide 26 = .ok (.ifCond .ne 6, 3) := by decide +kernel
theorem dX8_slide_29 : decode cX8_slide 29 = .ok (.bipush (-4), 2) := by decide +kernel
theorem dX8_slide_31 : decode cX8_slide 31 = .ok (.ireturn, 1) := by decide +kernel
theorem dX8_slide_32 : decode cX8_slide 32 = .ok (.iload_n 1, 1) := by decide +kernel
theorem dX8_slide_33 : decode cX8_slide 33 = .ok (.iload_n 2, 1) := by decide +kernel
theorem dX8_slide_34 : decode cX8_slide 34 = .ok (.iload_n 3, 1) := by decide +kernel
theorem dX8_slide_35 : decode cX8_slide 35 = .ok (.invokestatic 180, 3) := by decide +kernel
theorem dX8_slide_38 : decode cX8_slide 38 = .ok (.istore 5, 2) := by decide +kernel
theorem dX8_slide_40 : decode cX8_slide 40 = .ok (.aload_n 0, 1) := by decide +kernel
theorem dX8_slide_41 : decode cX8_slide 41 = .ok (.iload 5, 2) := by decide +kernel
theorem dX8_slide_43 : decode cX8_slide 43 = .ok (.invokevirtual 186, 3) := by decide +kernel
theorem dX8_slide_46 : decode cX8_slide 46 = .ok (.ifCond .ne 6, 3) := by decide +kernel
theorem dX8_slide_49 : decode cX8_slide 49 = .ok (.bipush (-9), 2) := by decide +kernel
theorem dX8_slide_51 : decode cX8_slide 51 = .ok (.ireturn, 1) := by decide +kernel
theorem dX8_slide_52 : decode cX8_slide 52 = .ok (.iconst 0, 1) := by decide +kernel
theorem dX8_slide_53 : decode cX8_slide 53 = .ok (.istore 6, 2) := by decide +kernel
theorem dX8_slide_55 : decode cX8_slide 55 = .ok (.aload_n 0, 1) := by decide +kernel
theorem dX8_slide_56 : decode cX8_slide 56 = .ok (.iload 5, 2) := by decide +kernel
theorem dX8_slide_58 : decode cX8_slide 58 = .ok (.iload 4, 2) := by decide +kernel
theorem dX8_slide_60 : decode cX8_slide 60 = .ok (.invokevirtual 202, 3) := by decide +kernel
theorem dX8_slide_63 : decode cX8_slide 63 = .ok (.istore 7, 2) := by decide +kernel
theorem dX8_slide_65 : decode cX8_slide 65 = .ok (.iload 7, 2) := by decide +kernel
theorem dX8_slide_67 : decode cX8_slide 67 = .ok (.ifCond .lt 23, 3) := by decide +kernel
theorem dX8_slide_70 : decode cX8_slide 70 = .ok (.iinc 6 1, 3) := by decide +kernel
theorem dX8_slide_73 : decode cX8_slide 73 = .ok (.iload 7, 2) := by decide +kernel
theorem dX8_slide_75 : decode cX8_slide 75 = .ok (.istore 5, 2) := by decide +kernel
theorem dX8_slide_77 : decode cX8_slide 77 = .ok (.aload_n 0, 1) := by decide +kernel
theorem dX8_slide_78 : decode cX8_slide 78 = .ok (.iload 5, 2) := by decide +kernel
theorem dX8_slide_80 : decode cX8_slide 80 = .ok (.iload 4, 2) := by decide +kernel
theorem dX8_slide_82 : decode cX8_slide 82 = .ok (.invokevirtual 202, 3) := by decide +kernel
theorem dX8_slide_85 : decode cX8_slide 85 = .ok (.istore 7, 2) := by decide +kernel
theorem dX8_slide_87 : decode cX8_slide 87 = .ok (.goto (-22), 3) := by decide +kernel
theorem dX8_slide_90 : decode cX8_slide 90 = .ok (.iload 6, 2) := by decide +kernel
theorem dX8_slide_92 : decode cX8_slide 92 = .ok (.ireturn, 1) := by decide +kernel
set_option maxRecDepth 20000 in
theorem ggX8_end_X8_isState : GoodIn wsX8_end wsX8_isState := goodIn_r _ [6, 7, 8, 9, 5, 10, 11, 12, 13, 14, 15, 16, 17, 18, 19, 20, 21, 22, 23, 24, 25, 26, 27, 28, 29, 30, 31, 32, 33, 34, 35, 36, 37, 38, 39, 40, 41, 42, 43, 44, 45, 46, 47, 48] (by decide +kernel) (by decide +kernel)
set_option maxRecDepth 20000 in
theorem gX8_end_X8_isState : GoodIn wsX8_end (wsV RX8 196 RX8 yX8_isState wsX8_isState) := goodIn_app (goodIn_of _ (by decide +kernel)) ggX8_end_X8_isState
theorem dX8_end_0 : decode cX8_end 0 = .ok (.aload_n 0, 1) := by decide +kernel
theorem dX8_end_1 : decode cX8_end 1 = .ok (.iload_n 2, 1) := by decide +kernel
theorem dX8_end_2 : decode cX8_end 2 = .ok (.iload_n 3, 1) := by decide +kernel
theorem dX8_end_3 : decode cX8_end 3 = .ok (.iload 4, 2) := by decide +kernel
theorem dX8_end_5 : decode cX8_end 5 = .ok (.invokevirtual 196, 3) := by decide +kernel
theorem dX8_end_8 : decode cX8_end 8 = .ok (.ifCond .ne 5, 3) := by decide +kernel
theorem dX8_end_11 : decode cX8_end 11 = .ok (.iconst (-1), 1) := by decide +kernel
theorem dX8_end_12 : decode cX8_end 12 = .ok (.ireturn, 1) := by decide +kernel
theorem dX8_end_13 : decode cX8_end 13 = .ok (.iload_n 1, 1) := by decide +kernel
theorem dX8_end_14 : decode cX8_end 14 = .ok (.ifCond .eq 7, 3) := by decide +kernel
theorem dX8_end_17 : decode cX8_end 17 = .ok (.iconst 3, 1) := by decide +kernel
theorem dX8_end_18 : decode cX8_end 18 = .ok (.goto 4, 3) := by decide +kernel
theorem dX8_end_21 : decode cX8_end 21 = .ok (.iconst 0, 1) := by decide +kernel
theorem dX8_end_22 : decode cX8_end 22 = .ok (.istore 5, 2) := by decide +kernel
theorem dX8_end_24 : decode cX8_end 24 = .ok (.aload_n 0, 1) := by decide +kernel
theorem dX8_end_25 : decode cX8_end 25 = .ok (.getfield 35, 3) := by decide +kernel
theorem dX8_end_28 : decode cX8_end 28 = .ok (.iload 5, 2) := by decide +kernel
theorem dX8_end_30 : decode cX8_end 30 = .ok (.iload_n 2, 1) := by decide +kernel
theorem dX8_end_31 : decode cX8_end 31 = .ok (.iastore, 1) := by decide +kernel
theorem dX8_end_32 : decode cX8_end 32 = .ok (.aload_n 0, 1) := by decide +kernel
theorem dX8_end_33 : decode cX8_end 33 = .ok (.getfield 35, 3) := by decide +kernel
theorem dX8_end_36 : decode cX8_end 36 = .ok (.iload 5, 2) := by decide +kernel
theorem dX8_end_38 : decode cX8_end 38 = .ok (.iconst 1, 1) := by decide +kernel
theorem dX8_end_39 : decode cX8_end 39 = .ok (.iadd, 1) := by decide +kernel
theorem dX8_end_40 : decode cX8_end 40 = .ok (.iload_n 3, 1) := by decide +kernel
theorem dX8_end_41 : decode cX8_end 41 = .ok (.iastore, 1) := by decide +kernel
theorem dX8_end_42 : decode cX8_end 42 = .ok (.aload_n 0, 1) := by decide +kernel
theorem dX8_end_43 : decode cX8_end 43 = .ok (.getfield 35, 3) := by decide +kernel
theorem dX8_end_46 : decode cX8_end 46 = .ok (.iload 5, 2) := by decide +kernel
theorem dX8_end_48 : decode cX8_end 48 = .ok (.iconst 2, 1) := by decide +kernel
theorem dX8_end_49 : decode cX8_end 49 = .ok (.iadd, 1) := by decide +kernel
theorem dX8_end_50 : decode cX8_end 50 = .ok (.iload 4, 2) := by decide +kernel
theorem dX8_end_52 : decode cX8_end 52 = .ok (.iastore, 1) := by decide +kernel
theorem dX8_end_53 : decode cX8_end 53 = .ok (.iconst 1, 1) := by decide +kernel
theorem dX8_end_54 : decode cX8_end 54 = .ok (.ireturn, 1) := by decide +kernel
set_option maxRecDepth 20000 in
theorem ggX8_beginning_X8_stateOf : GoodIn wsX8_beginning wsX8_stateOf := goodIn_r _ [5] (by decide +kernel) (by decide +kernel)
set_option maxRecDepth 20000 in
theorem gX8_beginning_X8_stateOf : GoodIn wsX8_beginning (va_wsS RX8 180 yX8_stateOf wsX8_stateOf) := goodIn_app (goodIn_of _ (by decide +kernel)) ggX8_beginning_X8_stateOf
theorem dX8_beginning_0 : decode cX8_beginning 0 = .ok (.aload_n 0, 1) := by decide +kernel
theorem dX8_beginning_1 : decode cX8_beginning 1 = .ok (.getfield 35, 3) := by decide +kernel
theorem dX8_beginning_4 : decode cX8_beginning 4 = .ok (.iconst 0, 1) := by decide +kernel
theorem dX8_beginning_5 : decode cX8_beginning 5 = .ok (.iaload, 1) := by decide +kernel
theorem dX8_beginning_6 : decode cX8_beginning 6 = .ok (.aload_n 0, 1) := by decide +kernel
theorem dX8_beginning_7 : decode cX8_beginning 7 = .ok (.getfield 35, 3) := by decide +kernel
theorem dX8_beginning_10 : decode cX8_beginning 10 = .ok (.iconst 1, 1) := by decide +kernel
theorem dX8_beginning_11 : decode cX8_beginning 11 = .ok (.iaload, 1) := by decide +kernel
theorem dX8_beginning_12 : decode cX8_beginning 12 = .ok (.aload_n 0, 1) := by decide +kernel
theorem dX8_beginning_13 : decode cX8_beginning 13 = .ok (.getfield 35, 3) := by decide +kernel
theorem dX8_beginning_16 : decode cX8_beginning 16 = .ok (.iconst 2, 1) := by decide +kernel
theorem dX8_beginning_17 : decode cX8_beginning 17 = .ok (.iaload, 1) := by decide +kernel
theorem dX8_beginning_18 : decode cX8_beginning 18 = .ok (.invokestatic 180, 3) := by decide +kernel
theorem dX8_beginning_21 : decode cX8_beginning 21 = .ok (.ireturn, 1) := by decide +kernel
set_option maxRecDepth 20000 in
theorem ggX8_goal_X8_stateOf : GoodIn wsX8_goal wsX8_stateOf := goodIn_r _ [5] (by decide +kernel) (by decide +kernel)
set_option maxRecDepth 20000 in
theorem gX8_goal_X8_stateOf : GoodIn wsX8_goal (va_wsS RX8 180 yX8_stateOf wsX8_stateOf) := goodIn_app (goodIn_of _ (by decide +kernel)) ggX8_goal_X8_stateOf
theorem dX8_goal_0 : decode cX8_goal 0 = .ok (.aload_n 0, 1) := by decide +kernel
theorem dX8_goal_1 : decode cX8_goal 1 = .ok (.getfield 35, 3) := by decide +kernel
theorem dX8_goal_4 : decode cX8_goal 4 = .ok (.iconst 3, 1) := by decide +kernel
theorem dX8_goal_5 : decode cX8_goal 5 = .ok (.iaload, 1) := by decide +kernel
theorem dX8_goal_6 : decode cX8_goal 6 = .ok (.aload_n 0, 1) := by decide +kernel
theorem dX8_goal_7 : decode cX8_goal 7 = .ok (.getfield 35, 3) := by decide +kernel
theorem dX8_goal_10 : decode cX8_goal 10 = .ok (.iconst 4, 1) := by decide +kernel
theorem dX8_goal_11 : decode cX8_goal 11 = .ok (.iaload, 1) := by decide +kernel
theorem dX8_goal_12 : decode cX8_goal 12 = .ok (.aload_n 0, 1) := by decide +kernel
theorem dX8_goal_13 : decode cX8_goal 13 = .ok (.getfield 35, 3) := by decide +kernel
theorem dX8_goal_16 : decode cX8_goal 16 = .ok (.iconst 5, 1) := by decide +kernel
theorem dX8_goal_17 : decode cX8_goal 17 = .ok (.iaload, 1) := by decide +kernel
theorem dX8_goal_18 : decode cX8_goal 18 = .ok (.invokestatic 180, 3) := by decide +kernel
theorem dX8_goal_21 : decode cX8_goal 21 = .ok (.ireturn, 1) := by decide +kernel
set_option maxRecDepth 20000 in
theorem ggX8_setFar_X8_beginning : GoodIn wsX8_setFar wsX8_beginning := goodIn_r _ [9, 10, 11, 12, 8, 13, 35, 36, 37, 38, 39, 40, 41, 42, 43, 44, 45, 46, 47, 48, 49, 50, 51, 52, 53, 54, 55, 56, 57, 58, 59, 60, 61, 62, 63, 64, 65, 66, 67] (by decide +kernel) (by decide +kernel)
set_option maxRecDepth 20000 in
theorem gX8_setFar_X8_beginning : GoodIn wsX8_setFar (wsV RX8 218 RX8 yX8_beginning wsX8_beginning) := goodIn_app (goodIn_of _ (by decide +kernel)) ggX8_setFar_X8_beginning
set_option maxRecDepth 20000 in
theorem ggX8_setFar_X8_isFree : GoodIn wsX8_setFar wsX8_isFree := goodIn_r _ [17, 18, 19, 35, 36, 37, 38, 39, 40, 41, 42, 43, 44, 45, 46, 47, 48, 49, 50, 51, 52, 53, 54, 55, 56, 57, 58, 59, 60, 61, 62, 63, 64, 65, 66, 67] (by decide +kernel) (by decide +kernel)
set_option maxRecDepth 20000 in
theorem gX8_setFar_X8_isFree : GoodIn wsX8_setFar (wsV RX8 186 RX8 yX8_isFree wsX8_isFree) := goodIn_app (goodIn_of _ (by decide +kernel)) ggX8_setFar_X8_isFree
set_option maxRecDepth 20000 in
theorem ggX8_setFar_X8_led : GoodIn wsX8_setFar wsX8_led := goodIn_r _ [23, 24, 25, 26, 8, 27, 28, 29, 11, 12, 13, 14, 15, 16, 17, 18, 19, 30, 31, 32, 33, 34, 35, 36, 37, 38, 39, 40, 41, 42, 43, 44, 45, 46, 47, 48, 49, 50, 51, 52, 53, 54, 55, 56, 57, 58, 59, 60, 61, 62, 63, 64, 65, 66, 67] (by decide +kernel) (by decide +kernel)
set_option maxRecDepth 20000 in
theorem gX8_setFar_X8_led : GoodIn wsX8_setFar (wsV RX8 202 RX8 yX8_led wsX8_led) := goodIn_app (goodIn_of _ (by decide +kernel)) ggX8_setFar_X8_led
theorem dX8_setFar_0 : decode cX8_setFar 0 = .ok (.iconst 0, 1) := by decide +kernel
theorem dX8_setFar_1 : decode cX8_setFar 1 = .ok (.istore_n 1, 1) := by decide +kernel
theorem dX8_setFar_2 : decode cX8_setFar 2 = .ok (.iload_n 1, 1) := by decide +kernel
theorem dX8_setFar_3 : decode cX8_setFar 3 = .ok (.sipush 1764, 3) := by decide +kernel
theorem dX8_setFar_6 : decode cX8_setFar 6 = .ok (.if_icmp .ge 24, 3) := by decide +kernel
theorem dX8_setFar_9 : decode cX8_setFar 9 = .ok (.aload_n 0, 1) := by decide +kernel
theorem dX8_setFar_10 : decode cX8_setFar 10 = .ok (.getfield 59, 3) := by decide +kernel
theorem dX8_setFar_13 : decode cX8_setFar 13 = .ok (.iload_n 1, 1) := by decide +kernel
theorem dX8_setFar_14 : decode cX8_setFar 14 = .ok (.bipush (-9), 2) := by decide +kernel
theorem dX8_setFar_16 : decode cX8_setFar 16 = .ok (.iastore, 1) := by decide +kernel
theorem dX8_setFar_17 : decode cX8_setFar 17 = .ok (.aload_n 0, 1) := by decide +kernel
theorem dX8_setFar_18 : decode cX8_setFar 18 = .ok (.getfield 62, 3) := by decide +kernel
theorem dX8_setFar_21 : decode cX8_setFar 21 = .ok (.iload_n 1, 1) := by decide +kernel
theorem dX8_setFar_22 : decode cX8_setFar 22 = .ok (.iconst 0, 1) := by decide +kernel
theorem dX8_setFar_23 : decode cX8_setFar 23 = .ok (.bastore, 1) := by decide +kernel
theorem dX8_setFar_24 : decode cX8_setFar 24 = .ok (.iinc 1 1, 3) := by decide +kernel
theorem dX8_setFar_27 : decode cX8_setFar 27 = .ok (.goto (-25), 3) := by decide +kernel
theorem dX8_setFar_30 : decode cX8_setFar 30 = .ok (.aload_n 0, 1) := by decide +kernel
theorem dX8_setFar_31 : decode cX8_setFar 31 = .ok (.aload_n 0, 1) := by decide +kernel
theorem dX8_setFar_32 : decode cX8_setFar 32 = .ok (.invokevirtual 218, 3) := by decide +kernel
theorem dX8_setFar_35 : decode cX8_setFar 35 = .ok (.invokevirtual 186, 3) := by decide +kernel
theorem dX8_setFar_38 : decode cX8_setFar 38 = .ok (.ifCond .ne 4, 3) := by decide +kernel
theorem dX8_setFar_41 : decode cX8_setFar 41 = .ok (.return_, 1) := by decide +kernel
theorem dX8_setFar_42 : decode cX8_setFar 42 = .ok (.iconst 0, 1) := by decide +kernel
theorem dX8_setFar_43 : decode cX8_setFar 43 = .ok (.istore_n 1, 1) := by decide +kernel
theorem dX8_setFar_44 : decode cX8_setFar 44 = .ok (.iconst 1, 1) := by decide +kernel
theorem dX8_setFar_45 : decode cX8_setFar 45 = .ok (.istore_n 2, 1) := by decide +kernel
theorem dX8_setFar_46 : decode cX8_setFar 46 = .ok (.aload_n 0, 1) := by decide +kernel
theorem dX8_setFar_47 : decode cX8_setFar 47 = .ok (.getfield 66, 3) := by decide +kernel
theorem dX8_setFar_50 : decode cX8_setFar 50 = .ok (.iconst 0, 1) := by decide +kernel
theorem dX8_setFar_51 : decode cX8_setFar 51 = .ok (.aload_n 0, 1) := by decide +kernel
theorem dX8_setFar_52 : decode cX8_setFar 52 = .ok (.invokevirtual 218, 3) := by decide +kernel
theorem dX8_setFar_55 : decode cX8_setFar 55 = .ok (.iastore, 1) := by decide +kernel
theorem dX8_setFar_56 : decode cX8_setFar 56 = .ok (.aload_n 0, 1) := by decide +kernel
theorem dX8_setFar_57 : decode cX8_setFar 57 = .ok (.getfield 59, 3) := by decide +kernel
theorem dX8_setFar_60 : decode cX8_setFar 60 = .ok (.aload_n 0, 1) := by decide +kernel
theorem dX8_setFar_61 : decode cX8_setFar 61 = .ok (.invokevirtual 218, 3) := by decide +kernel
theorem dX8_setFar_64 : decode cX8_setFar 64 = .ok (.iconst 0, 1) := by decide +kernel
theorem dX8_setFar_65 : decode cX8_setFar 65 = .ok (.iastore, 1) := by decide +kernel
theorem dX8_setFar_66 : decode cX8_setFar 66 = .ok (.aload_n 0, 1) := by decide +kernel
theorem dX8_setFar_67 : decode cX8_setFar 67 = .ok (.getfield 62, 3) := by decide +kernel
theorem dX8_setFar_70 : decode cX8_setFar 70 = .ok (.aload_n 0, 1) := by decide +kernel
theorem dX8_setFar_71 : decode cX8_setFar 71 = .ok (.invokevirtual 218, 3) := by decide +kernel
theorem dX8_setFar_74 : decode cX8_setFar 74 = .ok (.iconst 1, 1) := by decide +kernel
theorem dX8_setFar_75 : decode cX8_setFar 75 = .ok (.bastore, 1) := by decide +kernel
theorem dX8_setFar_76 : decode cX8_setFar 76 = .ok (.iload_n 2, 1) := by decide +kernel
theorem dX8_setFar_77 : decode cX8_setFar 77 = .ok (.ifCond .le 148, 3) := by decide +kernel
theorem dX8_setFar_80 : decode cX8_setFar 80 = .ok (.aload_n 0, 1) := by decide +kernel
theorem dX8_setFar_81 : decode cX8_setFar 81 = .ok (.getfield 66, 3) := by decide +kernel
theorem dX8_setFar_84 : decode cX8_setFar 84 = .ok (.iload_n 1, 1) := by decide +kernel
theorem dX8_setFar_85 : decode cX8_setFar 85 = .ok (.iaload, 1) := by decide +kernel
theorem dX8_setFar_86 : decode cX8_setFar 86 = .ok (.istore_n 3, 1) := by decide +kernel
theorem dX8_setFar_87 : decode cX8_setFar 87 = .ok (.iload_n 1, 1) := by decide +kernel
theorem dX8_setFar_88 : decode cX8_setFar 88 = .ok (.iconst 1, 1) := by decide +kernel
theorem dX8_setFar_89 : decode cX8_setFar 89 = .ok (.iadd, 1) := by decide +kernel
theorem dX8_setFar_90 : decode cX8_setFar 90 = .ok (.sipush 1764, 3) := by decide +kernel
theorem dX8_setFar_93 : decode cX8_setFar 93 = .ok (.irem, 1) := by decide +kernel
theorem dX8_setFar_94 : decode cX8_setFar 94 = .ok (.istore_n 1, 1) := by decide +kernel
theorem dX8_setFar_95 : decode cX8_setFar 95 = .ok (.iinc 2 (-1), 3) := by decide +kernel
theorem dX8_setFar_98 : decode cX8_setFar 98 = .ok (.aload_n 0, 1) := by decide +kernel
theorem dX8_setFar_99 : decode cX8_setFar 99 = .ok (.getfield 62, 3) := by decide +kernel
theorem dX8_setFar_102 : decode cX8_setFar 102 = .ok (.iload_n 3, 1) := by decide +kernel
theorem dX8_setFar_103 : decode cX8_setFar 103 = .ok (.iconst 0, 1) := by decide +kernel
theorem dX8_setFar_104 : decode cX8_setFar 104 = .ok (.bastore, 1) := by decide +kernel
theorem dX8_setFar_105 : decode cX8_setFar 105 = .ok (.iconst 0, 1) := by decide +kernel
theorem dX8_setFar_106 : decode cX8_setFar 106 = .ok (.istore 4, 2) := by decide +kernel
theorem dX8_setFar_108 : decode cX8_setFar 108 = .ok (.iload 4, 2) := by decide +kernel
theorem dX8_setFar_110 : decode cX8_setFar 110 = .ok (.bipush 6, 2) := by decide +kernel
theorem dX8_setFar_112 : decode cX8_setFar 112 = .ok (.if_icmp .ge 110, 3) := by decide +kernel
theorem dX8_setFar_115 : decode cX8_setFar 115 = .ok (.aload_n 0, 1) := by decide +kernel
theorem dX8_setFar_116 : decode cX8_setFar 116 = .ok (.iload_n 3, 1) := by decide +kernel
theorem dX8_setFar_117 : decode cX8_setFar 117 = .ok (.iload 4, 2) := by decide +kernel
theorem dX8_setFar_119 : decode cX8_setFar 119 = .ok (.invokevirtual 202, 3) := by decide +kernel
theorem dX8_setFar_122 : decode cX8_setFar 122 = .ok (.istore 5, 2) := by decide +kernel
theorem dX8_setFar_124 : decode cX8_setFar 124 = .ok (.aload_n 0, 1) := by decide +kernel
theorem dX8_setFar_125 : decode cX8_setFar 125 = .ok (.getfield 59, 3) := by decide +kernel
theorem dX8_setFar_128 : decode cX8_setFar 128 = .ok (.iload_n 3, 1) := by decide +kernel
theorem dX8_setFar_129 : decode cX8_setFar 129 = .ok (.iaload, 1) := by decide +kernel
theorem dX8_setFar_130 : decode cX8_setFar 130 = .ok (.iload 4, 2) := by decide +kernel
theorem dX8_setFar_132 : decode cX8_setFar 132 = .ok (.iconst 3, 1) := by decide +kernel
theorem dX8_setFar_133 : decode cX8_setFar 133 = .ok (.if_icmp .le 8, 3) := by decide +kernel
theorem dX8_setFar_136 : decode cX8_setFar 136 = .ok (.ldc 221, 2) := by decide +kernel
theorem dX8_setFar_138 : decode cX8_setFar 138 = .ok (.goto 4, 3) := by decide +kernel
theorem dX8_setFar_141 : decode cX8_setFar 141 = .ok (.iconst 1, 1) := by decide +kernel
theorem dX8_setFar_142 : decode cX8_setFar 142 = .ok (.iadd, 1) := by decide +kernel
theorem dX8_setFar_143 : decode cX8_setFar 143 = .ok (.istore 6, 2) := by decide +kernel
theorem dX8_setFar_145 : decode cX8_setFar 145 = .ok (.iload 5, 2) := by decide +kernel
theorem dX8_setFar_147 : decode cX8_setFar 147 = .ok (.ifCond .lt 69, 3) := by decide +kernel
theorem dX8_setFar_150 : decode cX8_setFar 150 = .ok (.aload_n 0, 1) := by decide +kernel
theorem dX8_setFar_151 : decode cX8_setFar 151 = .ok (.getfield 59, 3) := by decide +kernel
theorem dX8_setFar_154 : decode cX8_setFar 154 = .ok (.iload 5, 2) := by decide +kernel
theorem dX8_setFar_156 : decode cX8_setFar 156 = .ok (.iaload, 1) := by decide +kernel
theorem dX8_setFar_157 : decode cX8_setFar 157 = .ok (.ifCond .lt 15, 3) := by decide +kernel
theorem dX8_setFar_160 : decode cX8_setFar 160 = .ok (.iload 6, 2) := by decide +kernel
theorem dX8_setFar_162 : decode cX8_setFar 162 = .ok (.aload_n 0, 1) := by decide +kernel
theorem dX8_setFar_163 : decode cX8_setFar 163 = .ok (.getfield 59, 3) := by decide +kernel
theorem dX8_setFar_166 : decode cX8_setFar 166 = .ok (.iload 5, 2) := by decide +kernel
theorem dX8_setFar_168 : decode cX8_setFar 168 = .ok (.iaload, 1) := by decide +kernel
theorem dX8_setFar_169 : decode cX8_setFar 169 = .ok (.if_icmp .ge 47, 3) := by decide +kernel
theorem dX8_setFar_172 : decode cX8_setFar 172 = .ok (.aload_n 0, 1) := by decide +kernel
theorem dX8_setFar_173 : decode cX8_setFar 173 = .ok (.getfield 59, 3) := by decide +kernel
theorem dX8_setFar_176 : decode cX8_setFar 176 = .ok (.iload 5, 2) := by decide +kernel
theorem dX8_setFar_178 : decode cX8_setFar 178 = .ok (.iload 6, 2) := by decide +kernel
theorem dX8_setFar_180 : decode cX8_setFar 180 = .ok (.iastore, 1) := by decide +kernel
theorem dX8_setFar_181 : decode cX8_setFar 181 = .ok (.aload_n 0, 1) := by decide +kernel
theorem dX8_setFar_182 : decode cX8_setFar 182 = .ok (.getfield 62, 3) := by decide +kernel
theorem dX8_setFar_185 : decode cX8_setFar 185 = .ok (.iload 5, 2) := by decide +kernel
theorem dX8_setFar_187 : decode cX8_setFar 187 = .ok (.baload, 1) := by decide +kernel
theorem dX8_setFar_188 : decode cX8_setFar 188 = .ok (.ifCond .ne 28, 3) := by decide +kernel
theorem dX8_setFar_191 : decode cX8_setFar 191 = .ok (.aload_n 0, 1) := by decide +kernel
theorem dX8_setFar_192 : decode cX8_setFar 192 = .ok (.getfield 66, 3) := by decide +kernel
theorem dX8_setFar_195 : decode cX8_setFar 195 = .ok (.iload_n 1, 1) := by decide +kernel
theorem dX8_setFar_196 : decode cX8_setFar 196 = .ok (.iload_n 2, 1) := by decide +kernel
theorem dX8_setFar_197 : decode cX8_setFar 197 = .ok (.iadd, 1) := by decide +kernel
theorem dX8_setFar_198 : decode cX8_setFar 198 = .ok (.sipush 1764, 3) := by decide +kernel
theorem dX8_setFar_201 : decode cX8_setFar 201 = .ok (.irem, 1) := by decide +kernel
theorem dX8_setFar_202 : decode cX8_setFar 202 = .ok (.iload 5, 2) := by decide +kernel
theorem dX8_setFar_204 : decode cX8_setFar 204 = .ok (.iastore, 1) := by decide +kernel
theorem dX8_setFar_205 : decode cX8_setFar 205 = .ok (.iinc 2 1, 3) := by decide +kernel
theorem dX8_setFar_208 : decode cX8_setFar 208 = .ok (.aload_n 0, 1) := by decide +kernel
theorem dX8_setFar_209 : decode cX8_setFar 209 = .ok (.getfield 62, 3) := by decide +kernel
theorem dX8_setFar_212 : decode cX8_setFar 212 = .ok (.iload 5, 2) := by decide +kernel
theorem dX8_setFar_214 : decode cX8_setFar 214 = .ok (.iconst 1, 1) := by decide +kernel
theorem dX8_setFar_215 : decode cX8_setFar 215 = .ok (.bastore, 1) := by decide +kernel
theorem dX8_setFar_216 : decode cX8_setFar 216 = .ok (.iinc 4 1, 3) := by decide +kernel
theorem dX8_setFar_219 : decode cX8_setFar 219 = .ok (.goto (-111), 3) := by decide +kernel
theorem dX8_setFar_222 : decode cX8_setFar 222 = .ok (.goto (-146), 3) := by decide +kernel
theorem dX8_setFar_225 : decode cX8_setFar 225 = .ok (.return_, 1) := by decide +kernel
theorem dX8_back_0 : decode cX8_back 0 = .ok (.iload_n 0, 1) := by decide +kernel
theorem dX8_back_1 : decode cX8_back 1 = .ok (.iconst 4, 1) := by decide +kernel
theorem dX8_back_2 : decode cX8_back 2 = .ok (.if_icmp .ne 7, 3) := by decide +kernel
theorem dX8_back_5 : decode cX8_back 5 = .ok (.iconst 5, 1) := by decide +kernel
theorem dX8_back_6 : decode cX8_back 6 = .ok (.goto 27, 3) := by decide +kernel
theorem dX8_back_9 : decode cX8_back 9 = .ok (.iload_n 0, 1) := by decide +kernel
theorem dX8_back_10 : decode cX8_back 10 = .ok (.iconst 5, 1) := by decide +kernel
theorem dX8_back_11 : decode cX8_back 11 = .ok (.if_icmp .ne 7, 3) := by decide +kernel
theorem dX8_back_14 : decode cX8_back 14 = .ok (.iconst 4, 1) := by decide +kernel
theorem dX8_back_15 : decode cX8_back 15 = .ok (.goto 18, 3) := by decide +kernel
theorem dX8_back_18 : decode cX8_back 18 = .ok (.iload_n 0, 1) := by decide +kernel
theorem dX8_back_19 : decode cX8_back 19 = .ok (.iconst 2, 1) := by decide +kernel
theorem dX8_back_20 : decode cX8_back 20 = .ok (.irem, 1) := by decide +kernel
theorem dX8_back_21 : decode cX8_back 21 = .ok (.ifCond .ne 9, 3) := by decide +kernel
theorem dX8_back_24 : decode cX8_back 24 = .ok (.iload_n 0, 1) := by decide +kernel
theorem dX8_back_25 : decode cX8_back 25 = .ok (.iconst 1, 1) := by decide +kernel
theorem dX8_back_26 : decode cX8_back 26 = .ok (.iadd, 1) := by decide +kernel
theorem dX8_back_27 : decode cX8_back 27 = .ok (.goto 6, 3) := by decide +kernel
theorem dX8_back_30 : decode cX8_back 30 = .ok (.iload_n 0, 1) := by decide +kernel
theorem dX8_back_31 : decode cX8_back 31 = .ok (.iconst 1, 1) := by decide +kernel
theorem dX8_back_32 : decode cX8_back 32 = .ok (.isub, 1) := by decide +kernel
theorem dX8_back_33 : decode cX8_back 33 = .ok (.ireturn, 1) := by decide +kernel
set_option maxRecDepth 20000 in
theorem ggX8_before_X8_back : GoodIn wsX8_before wsX8_back := goodIn_r _ [6] (by decide +kernel) (by decide +kernel)
set_option maxRecDepth 20000 in
theorem gX8_before_X8_back : GoodIn wsX8_before (va_wsS RX8 222 yX8_back wsX8_back) := goodIn_app (goodIn_of _ (by decide +kernel)) ggX8_before_X8_back
set_option maxRecDepth 20000 in
theorem ggX8_before_X8_next : GoodIn wsX8_before wsX8_next := goodIn_r _ [10, 11, 12, 13, 14, 5, 15, 27, 28, 29, 30, 31, 32, 33, 34, 35, 36, 37, 38, 39, 40, 41, 42, 43, 44, 45, 46, 47, 48, 49, 50, 51, 52, 53, 54, 55, 56, 57, 58, 59] (by decide +kernel) (by decide +kernel)
set_option maxRecDepth 20000 in
theorem gX8_before_X8_next : GoodIn wsX8_before (wsV RX8 183 RX8 yX8_next wsX8_next) := goodIn_app (goodIn_of _ (by decide +kernel)) ggX8_before_X8_next
set_option maxRecDepth 20000 in
theorem ggX8_before_X8_isFree : GoodIn wsX8_before wsX8_isFree := goodIn_r _ [19, 20, 21, 27, 28, 29, 30, 31, 32, 33, 34, 35, 36, 37, 38, 39, 40, 41, 42, 43, 44, 45, 46, 47, 48, 49, 50, 51, 52, 53, 54, 55, 56, 57, 58, 59] (by decide +kernel) (by decide +kernel)
set_option maxRecDepth 20000 in
theorem gX8_before_X8_isFree : GoodIn wsX8_before (wsV RX8 186 RX8 yX8_isFree wsX8_isFree) := goodIn_app (goodIn_of _ (by decide +kernel)) ggX8_before_X8_isFree
set_option maxRecDepth 20000 in
theorem ggX8_before_X8_isTurning : GoodIn wsX8_before wsX8_isTurning := goodIn_r _ [25, 26, 21, 27, 28, 29, 30, 31, 32, 33, 34, 35, 36, 37, 38, 39, 40, 41, 42, 43, 44, 45, 46, 47, 48, 49, 50, 51, 52, 53, 54, 55, 56, 57, 58, 59] (by decide +kernel) (by decide +kernel)
set_option maxRecDepth 20000 in
theorem gX8_before_X8_isTurning : GoodIn wsX8_before (wsV RX8 189 RX8 yX8_isTurning wsX8_isTurning) := goodIn_app (goodIn_of _ (by decide +kernel)) ggX8_before_X8_isTurning
theorem dX8_before_0 : decode cX8_before 0 = .ok (.aload_n 0, 1) := by decide +kernel
theorem dX8_before_1 : decode cX8_before 1 = .ok (.iload_n 1, 1) := by decide +kernel
theorem dX8_before_2 : decode cX8_before 2 = .ok (.iload_n 2, 1) := by decide +kernel
theorem dX8_before_3 : decode cX8_before 3 = .ok (.invokestatic 222, 3) := by decide +kernel
theorem dX8_before_6 : decode cX8_before 6 = .ok (.invokevirtual 183, 3) := by decide +kernel
theorem dX8_before_9 : decode cX8_before 9 = .ok (.istore_n 3, 1) := by decide +kernel
theorem dX8_before_10 : decode cX8_before 10 = .ok (.iload_n 3, 1) := by decide +kernel
theorem dX8_before_11 : decode cX8_before 11 = .ok (.ifCond .lt 33, 3) := by decide +kernel
theorem dX8_before_14 : decode cX8_before 14 = .ok (.aload_n 0, 1) := by decide +kernel
theorem dX8_before_15 : decode cX8_before 15 = .ok (.iload_n 3, 1) := by decide +kernel
theorem dX8_before_16 : decode cX8_before 16 = .ok (.invokevirtual 186, 3) := by decide +kernel
theorem dX8_before_19 : decode cX8_before 19 = .ok (.ifCond .eq 25, 3) := by decide +kernel
theorem dX8_before_22 : decode cX8_before 22 = .ok (.iload_n 2, 1) := by decide +kernel
theorem dX8_before_23 : decode cX8_before 23 = .ok (.iconst 3, 1) := by decide +kernel
theorem dX8_before_24 : decode cX8_before 24 = .ok (.if_icmp .le 11, 3) := by decide +kernel
theorem dX8_before_27 : decode cX8_before 27 = .ok (.aload_n 0, 1) := by decide +kernel
theorem dX8_before_28 : decode cX8_before 28 = .ok (.iload_n 1, 1) := by decide +kernel
theorem dX8_before_29 : decode cX8_before 29 = .ok (.invokevirtual 189, 3) := by decide +kernel
theorem dX8_before_32 : decode cX8_before 32 = .ok (.ifCond .eq 12, 3) := by decide +kernel
theorem dX8_before_35 : decode cX8_before 35 = .ok (.aload_n 0, 1) := by decide +kernel
theorem dX8_before_36 : decode cX8_before 36 = .ok (.getfield 59, 3) := by decide +kernel
theorem dX8_before_39 : decode cX8_before 39 = .ok (.iload_n 3, 1) := by decide +kernel
theorem dX8_before_40 : decode cX8_before 40 = .ok (.iaload, 1) := by decide +kernel
theorem dX8_before_41 : decode cX8_before 41 = .ok (.ifCond .ge 6, 3) := by decide +kernel
theorem dX8_before_44 : decode cX8_before 44 = .ok (.bipush (-9), 2) := by decide +kernel
theorem dX8_before_46 : decode cX8_before 46 = .ok (.ireturn, 1) := by decide +kernel
theorem dX8_before_47 : decode cX8_before 47 = .ok (.aload_n 0, 1) := by decide +kernel
theorem dX8_before_48 : decode cX8_before 48 = .ok (.getfield 59, 3) := by decide +kernel
theorem dX8_before_51 : decode cX8_before 51 = .ok (.iload_n 3, 1) := by decide +kernel
theorem dX8_before_52 : decode cX8_before 52 = .ok (.iaload, 1) := by decide +kernel
theorem dX8_before_53 : decode cX8_before 53 = .ok (.iload_n 2, 1) := by decide +kernel
theorem dX8_before_54 : decode cX8_before 54 = .ok (.iconst 3, 1) := by decide +kernel
theorem dX8_before_55 : decode cX8_before 55 = .ok (.if_icmp .le 8, 3) := by decide +kernel
theorem dX8_before_58 : decode cX8_before 58 = .ok (.ldc 221, 2) := by decide +kernel
theorem dX8_before_60 : decode cX8_before 60 = .ok (.goto 4, 3) := by decide +kernel
theorem dX8_before_63 : decode cX8_before 63 = .ok (.iconst 1, 1) := by decide +kernel
theorem dX8_before_64 : decode cX8_before 64 = .ok (.iadd, 1) := by decide +kernel
theorem dX8_before_65 : decode cX8_before 65 = .ok (.aload_n 0, 1) := by decide +kernel
theorem dX8_before_66 : decode cX8_before 66 = .ok (.getfield 59, 3) := by decide +kernel
theorem dX8_before_69 : decode cX8_before 69 = .ok (.iload_n 1, 1) := by decide +kernel
theorem dX8_before_70 : decode cX8_before 70 = .ok (.iaload, 1) := by decide +kernel
theorem dX8_before_71 : decode cX8_before 71 = .ok (.if_icmp .ne 7, 3) := by decide +kernel
theorem dX8_before_74 : decode cX8_before 74 = .ok (.iload_n 3, 1) := by decide +kernel
theorem dX8_before_75 : decode cX8_before 75 = .ok (.goto 5, 3) := by decide +kernel
theorem dX8_before_78 : decode cX8_before 78 = .ok (.bipush (-9), 2) := by decide +kernel
theorem dX8_before_80 : decode cX8_before 80 = .ok (.ireturn, 1) := by decide +kernel
set_option maxRecDepth 20000 in
theorem ggX8_way_X8_begin : GoodIn wsX8_way wsX8_begin := goodIn_r _ [9, 10, 11, 12, 13, 8, 14, 15, 16, 17, 18, 19, 20, 21, 22, 23, 24, 25, 26, 27, 28, 29, 30, 31, 32, 33, 34, 35, 36, 37, 38, 39, 40, 41, 42, 43, 44, 45, 46, 47, 48, 49, 50, 51, 52, 53, 54, 55, 56, 57, 58, 59, 60, 61, 62, 63, 64, 65, 66, 67, 68, 69, 70, 71, 72, 73, 74, 75, 76, 77, 78, 79, 122, 123, 124, 125, 126, 127, 128, 129, 130, 131, 132, 133, 134, 135, 136, 137, 138, 139, 140, 141, 142, 143, 144, 145, 146, 147, 148, 149, 150, 151, 152, 153, 154] (by decide +kernel) (by decide +kernel)
set_option maxRecDepth 20000 in
theorem gX8_way_X8_begin : GoodIn wsX8_way (wsV RX8 199 RX8 yX8_begin wsX8_begin) := goodIn_app (goodIn_of _ (by decide +kernel)) ggX8_way_X8_begin
set_option maxRecDepth 20000 in
theorem ggX8_way_X8_setFar : GoodIn wsX8_way wsX8_setFar := goodIn_r _ [83, 2, 84, 85, 86, 87, 88, 89, 8, 90, 91, 92, 93, 94, 95, 96, 97, 98, 33, 10, 99, 100, 101, 102, 103, 104, 105, 106, 31, 30, 107, 108, 109, 110, 32, 122, 123, 124, 125, 126, 127, 128, 129, 130, 131, 132, 133, 134, 135, 136, 137, 138, 139, 140, 141, 142, 143, 144, 145, 146, 147, 148, 149, 150, 151, 152, 153, 154] (by decide +kernel) (by decide +kernel)
set_option maxRecDepth 20000 in
theorem gX8_way_X8_setFar : GoodIn wsX8_way (wsV RX8 225 RX8 yX8_setFar wsX8_setFar) := goodIn_app (goodIn_of _ (by decide +kernel)) ggX8_way_X8_setFar
set_option maxRecDepth 20000 in
theorem ggX8_way_X8_goal : GoodIn wsX8_way wsX8_goal := goodIn_r _ [114, 91, 92, 93, 8, 94, 122, 123, 124, 125, 126, 127, 128, 129, 130, 131, 132, 133, 134, 135, 136, 137, 138, 139, 140, 141, 142, 143, 144, 145, 146, 147, 148, 149, 150, 151, 152, 153, 154] (by decide +kernel) (by decide +kernel)
set_option maxRecDepth 20000 in
theorem gX8_way_X8_goal : GoodIn wsX8_way (wsV RX8 228 RX8 yX8_goal wsX8_goal) := goodIn_app (goodIn_of _ (by decide +kernel)) ggX8_way_X8_goal
set_option maxRecDepth 20000 in
theorem ggX8_way_X8_before : GoodIn wsX8_way wsX8_before := goodIn_r _ [118, 2, 86, 119, 120, 8, 121, 103, 104, 105, 106, 31, 30, 92, 93, 94, 95, 96, 97, 98, 33, 10, 107, 108, 109, 110, 32, 122, 123, 124, 125, 126, 127, 128, 129, 130, 131, 132, 133, 134, 135, 136, 137, 138, 139, 140, 141, 142, 143, 144, 145, 146, 147, 148, 149, 150, 151, 152, 153, 154] (by decide +kernel) (by decide +kernel)
set_option maxRecDepth 20000 in
theorem gX8_way_X8_before : GoodIn wsX8_way (wsV RX8 232 RX8 yX8_before wsX8_before) := goodIn_app (goodIn_of _ (by decide +kernel)) ggX8_way_X8_before
theorem dX8_way_0 : decode cX8_way 0 = .ok (.aload_n 0, 1) := by decide +kernel
theorem dX8_way_1 : decode cX8_way 1 = .ok (.invokevirtual 199, 3) := by decide +kernel
theorem dX8_way_4 : decode cX8_way 4 = .ok (.ifCond .ne 6, 3) := by decide +kernel
theorem dX8_way_7 : decode cX8_way 7 = .ok (.bipush (-4), 2) := by decide +kernel
theorem dX8_way_9 : decode cX8_way 9 = .ok (.ireturn, 1) := by decide +kernel
theorem dX8_way_10 : decode cX8_way 10 = .ok (.aload_n 0, 1) := by decide +kernel
theorem dX8_way_11 : decode cX8_way 11 = .ok (.invokevirtual 225, 3) := by decide +kernel
theorem dX8_way_14 : decode cX8_way 14 = .ok (.aload_n 0, 1) := by decide +kernel
theorem dX8_way_15 : decode cX8_way 15 = .ok (.bipush (-9), 2) := by decide +kernel
theorem dX8_way_17 : decode cX8_way 17 = .ok (.putfield 72, 3) := by decide +kernel
theorem dX8_way_20 : decode cX8_way 20 = .ok (.aload_n 0, 1) := by decide +kernel
theorem dX8_way_21 : decode cX8_way 21 = .ok (.invokevirtual 228, 3) := by decide +kernel
theorem dX8_way_24 : decode cX8_way 24 = .ok (.istore_n 1, 1) := by decide +kernel
theorem dX8_way_25 : decode cX8_way 25 = .ok (.aload_n 0, 1) := by decide +kernel
theorem dX8_way_26 : decode cX8_way 26 = .ok (.getfield 59, 3) := by decide +kernel
theorem dX8_way_29 : decode cX8_way 29 = .ok (.iload_n 1, 1) := by decide +kernel
theorem dX8_way_30 : decode cX8_way 30 = .ok (.iaload, 1) := by decide +kernel
theorem dX8_way_31 : decode cX8_way 31 = .ok (.ifCond .ge 6, 3) := by decide +kernel
theorem dX8_way_34 : decode cX8_way 34 = .ok (.bipush (-9), 2) := by decide +kernel
theorem dX8_way_36 : decode cX8_way 36 = .ok (.ireturn, 1) := by decide +kernel
theorem dX8_way_37 : decode cX8_way 37 = .ok (.aload_n 0, 1) := by decide +kernel
theorem dX8_way_38 : decode cX8_way 38 = .ok (.getfield 59, 3) := by decide +kernel
theorem dX8_way_41 : decode cX8_way 41 = .ok (.iload_n 1, 1) := by decide +kernel
theorem dX8_way_42 : decode cX8_way 42 = .ok (.iaload, 1) := by decide +kernel
theorem dX8_way_43 : decode cX8_way 43 = .ok (.ldc 231, 2) := by decide +kernel
theorem dX8_way_45 : decode cX8_way 45 = .ok (.irem, 1) := by decide +kernel
theorem dX8_way_46 : decode cX8_way 46 = .ok (.istore_n 2, 1) := by decide +kernel
theorem dX8_way_47 : decode cX8_way 47 = .ok (.iload_n 2, 1) := by decide +kernel
theorem dX8_way_48 : decode cX8_way 48 = .ok (.iconst 1, 1) := by decide +kernel
theorem dX8_way_49 : decode cX8_way 49 = .ok (.isub, 1) := by decide +kernel
theorem dX8_way_50 : decode cX8_way 50 = .ok (.istore_n 3, 1) := by decide +kernel
theorem dX8_way_51 : decode cX8_way 51 = .ok (.iload_n 3, 1) := by decide +kernel
theorem dX8_way_52 : decode cX8_way 52 = .ok (.ifCond .lt 44, 3) := by decide +kernel
theorem dX8_way_55 : decode cX8_way 55 = .ok (.iconst 0, 1) := by decide +kernel
theorem dX8_way_56 : decode cX8_way 56 = .ok (.istore 4, 2) := by decide +kernel
theorem dX8_way_58 : decode cX8_way 58 = .ok (.aload_n 0, 1) := by decide +kernel
theorem dX8_way_59 : decode cX8_way 59 = .ok (.iload_n 1, 1) := by decide +kernel
theorem dX8_way_60 : decode cX8_way 60 = .ok (.iload 4, 2) := by decide +kernel
theorem dX8_way_62 : decode cX8_way 62 = .ok (.invokevirtual 232, 3) := by decide +kernel
theorem dX8_way_65 : decode cX8_way 65 = .ok (.ifCond .ge 9, 3) := by decide +kernel
theorem dX8_way_68 : decode cX8_way 68 = .ok (.iinc 4 1, 3) := by decide +kernel
theorem dX8_way_71 : decode cX8_way 71 = .ok (.goto (-13), 3) := by decide +kernel
theorem dX8_way_74 : decode cX8_way 74 = .ok (.aload_n 0, 1) := by decide +kernel
theorem dX8_way_75 : decode cX8_way 75 = .ok (.getfield 69, 3) := by decide +kernel
theorem dX8_way_78 : decode cX8_way 78 = .ok (.iload_n 3, 1) := by decide +kernel
theorem dX8_way_79 : decode cX8_way 79 = .ok (.iload 4, 2) := by decide +kernel
theorem dX8_way_81 : decode cX8_way 81 = .ok (.iastore, 1) := by decide +kernel
theorem dX8_way_82 : decode cX8_way 82 = .ok (.aload_n 0, 1) := by decide +kernel
theorem dX8_way_83 : decode cX8_way 83 = .ok (.iload_n 1, 1) := by decide +kernel
theorem dX8_way_84 : decode cX8_way 84 = .ok (.iload 4, 2) := by decide +kernel
theorem dX8_way_86 : decode cX8_way 86 = .ok (.invokevirtual 232, 3) := by decide +kernel
theorem dX8_way_89 : decode cX8_way 89 = .ok (.istore_n 1, 1) := by decide +kernel
theorem dX8_way_90 : decode cX8_way 90 = .ok (.iinc 3 (-1), 3) := by decide +kernel
theorem dX8_way_93 : decode cX8_way 93 = .ok (.goto (-42), 3) := by decide +kernel
theorem dX8_way_96 : decode cX8_way 96 = .ok (.aload_n 0, 1) := by decide +kernel
theorem dX8_way_97 : decode cX8_way 97 = .ok (.iload_n 2, 1) := by decide +kernel
theorem dX8_way_98 : decode cX8_way 98 = .ok (.putfield 72, 3) := by decide +kernel
theorem dX8_way_101 : decode cX8_way 101 = .ok (.iload_n 2, 1) := by decide +kernel
theorem dX8_way_102 : decode cX8_way 102 = .ok (.ireturn, 1) := by decide +kernel
set_option maxRecDepth 20000 in
theorem ggX8_step_X8_in : GoodIn wsX8_step wsX8_in := goodIn_r _ [6] (by decide +kernel) (by decide +kernel)
set_option maxRecDepth 20000 in
theorem gX8_step_X8_in : GoodIn wsX8_step (va_wsS RX8 81 yX8_in wsX8_in) := goodIn_app (goodIn_of _ (by decide +kernel)) ggX8_step_X8_in
theorem dX8_step_0 : decode cX8_step 0 = .ok (.iload_n 1, 1) := by decide +kernel
theorem dX8_step_1 : decode cX8_step 1 = .ok (.iconst 0, 1) := by decide +kernel
theorem dX8_step_2 : decode cX8_step 2 = .ok (.aload_n 0, 1) := by decide +kernel
theorem dX8_step_3 : decode cX8_step 3 = .ok (.getfield 72, 3) := by decide +kernel
theorem dX8_step_6 : decode cX8_step 6 = .ok (.iconst 1, 1) := by decide +kernel
theorem dX8_step_7 : decode cX8_step 7 = .ok (.isub, 1) := by decide +kernel
theorem dX8_step_8 : decode cX8_step 8 = .ok (.invokestatic 81, 3) := by decide +kernel
theorem dX8_step_11 : decode cX8_step 11 = .ok (.ifCond .eq 12, 3) := by decide +kernel
theorem dX8_step_14 : decode cX8_step 14 = .ok (.aload_n 0, 1) := by decide +kernel
theorem dX8_step_15 : decode cX8_step 15 = .ok (.getfield 69, 3) := by decide +kernel
theorem dX8_step_18 : decode cX8_step 18 = .ok (.iload_n 1, 1) := by decide +kernel
theorem dX8_step_19 : decode cX8_step 19 = .ok (.iaload, 1) := by decide +kernel
theorem dX8_step_20 : decode cX8_step 20 = .ok (.goto 5, 3) := by decide +kernel
theorem dX8_step_23 : decode cX8_step 23 = .ok (.bipush (-9), 2) := by decide +kernel
theorem dX8_step_25 : decode cX8_step 25 = .ok (.ireturn, 1) := by decide +kernel
set_option maxRecDepth 20000 in
theorem ggX8_count_X8_in : GoodIn wsX8_count wsX8_in := goodIn_r _ [6] (by decide +kernel) (by decide +kernel)
set_option maxRecDepth 20000 in
theorem gX8_count_X8_in : GoodIn wsX8_count (va_wsS RX8 81 yX8_in wsX8_in) := goodIn_app (goodIn_of _ (by decide +kernel)) ggX8_count_X8_in
theorem dX8_count_0 : decode cX8_count 0 = .ok (.iload_n 1, 1) := by decide +kernel
theorem dX8_count_1 : decode cX8_count 1 = .ok (.iconst 0, 1) := by decide +kernel
theorem dX8_count_2 : decode cX8_count 2 = .ok (.iconst 1, 1) := by decide +kernel
theorem dX8_count_3 : decode cX8_count 3 = .ok (.invokestatic 81, 3) := by decide +kernel
theorem dX8_count_6 : decode cX8_count 6 = .ok (.ifCond .ne 5, 3) := by decide +kernel
theorem dX8_count_9 : decode cX8_count 9 = .ok (.iconst (-1), 1) := by decide +kernel
theorem dX8_count_10 : decode cX8_count 10 = .ok (.ireturn, 1) := by decide +kernel
theorem dX8_count_11 : decode cX8_count 11 = .ok (.aload_n 0, 1) := by decide +kernel
theorem dX8_count_12 : decode cX8_count 12 = .ok (.getfield 72, 3) := by decide +kernel
theorem dX8_count_15 : decode cX8_count 15 = .ok (.ifCond .ge 6, 3) := by decide +kernel
theorem dX8_count_18 : decode cX8_count 18 = .ok (.bipush (-9), 2) := by decide +kernel
theorem dX8_count_20 : decode cX8_count 20 = .ok (.ireturn, 1) := by decide +kernel
theorem dX8_count_21 : decode cX8_count 21 = .ok (.iconst 0, 1) := by decide +kernel
theorem dX8_count_22 : decode cX8_count 22 = .ok (.istore_n 2, 1) := by decide +kernel
theorem dX8_count_23 : decode cX8_count 23 = .ok (.iconst 0, 1) := by decide +kernel
theorem dX8_count_24 : decode cX8_count 24 = .ok (.istore_n 3, 1) := by decide +kernel
theorem dX8_count_25 : decode cX8_count 25 = .ok (.iconst 0, 1) := by decide +kernel
theorem dX8_count_26 : decode cX8_count 26 = .ok (.istore 4, 2) := by decide +kernel
theorem dX8_count_28 : decode cX8_count 28 = .ok (.iload 4, 2) := by decide +kernel
theorem dX8_count_30 : decode cX8_count 30 = .ok (.aload_n 0, 1) := by decide +kernel
theorem dX8_count_31 : decode cX8_count 31 = .ok (.getfield 72, 3) := by decide +kernel
theorem dX8_count_34 : decode cX8_count 34 = .ok (.if_icmp .ge 71, 3) := by decide +kernel
theorem dX8_count_37 : decode cX8_count 37 = .ok (.iload_n 2, 1) := by decide +kernel
theorem dX8_count_38 : decode cX8_count 38 = .ok (.aload_n 0, 1) := by decide +kernel
theorem dX8_count_39 : decode cX8_count 39 = .ok (.getfield 69, 3) := by decide +kernel
theorem dX8_count_42 : decode cX8_count 42 = .ok (.iload 4, 2) := by decide +kernel
theorem dX8_count_44 : decode cX8_count 44 = .ok (.iaload, 1) := by decide +kernel
theorem dX8_count_45 : decode cX8_count 45 = .ok (.iconst 3, 1) := by decide +kernel
theorem dX8_count_46 : decode cX8_count 46 = .ok (.if_icmp .le 7, 3) := by decide +kernel
theorem dX8_count_49 : decode cX8_count 49 = .ok (.iconst 1, 1) := by decide +kernel
theorem dX8_count_50 : decode cX8_count 50 = .ok (.goto 4, 3) := by decide +kernel
theorem dX8_count_53 : decode cX8_count 53 = .ok (.iconst 0, 1) := by decide +kernel
theorem dX8_count_54 : decode cX8_count 54 = .ok (.iadd, 1) := by decide +kernel
theorem dX8_count_55 : decode cX8_count 55 = .ok (.istore_n 2, 1) := by decide +kernel
theorem dX8_count_56 : decode cX8_count 56 = .ok (.iload_n 3, 1) := by decide +kernel
theorem dX8_count_57 : decode cX8_count 57 = .ok (.aload_n 0, 1) := by decide +kernel
theorem dX8_count_58 : decode cX8_count 58 = .ok (.getfield 69, 3) := by decide +kernel
theorem dX8_count_61 : decode cX8_count 61 = .ok (.iload 4, 2) := by decide +kernel
theorem dX8_count_63 : decode cX8_count 63 = .ok (.iaload, 1) := by decide +kernel
theorem dX8_count_64 : decode cX8_count 64 = .ok (.iconst 4, 1) := by decide +kernel
theorem dX8_count_65 : decode cX8_count 65 = .ok (.if_icmp .ge 31, 3) := by decide +kernel
theorem dX8_count_68 : decode cX8_count 68 = .ok (.iload 4, 2) := by decide +kernel
theorem dX8_count_70 : decode cX8_count 70 = .ok (.ifCond .eq 22, 3) := by decide +kernel
theorem dX8_count_73 : decode cX8_count 73 = .ok (.aload_n 0, 1) := by decide +kernel
theorem dX8_count_74 : decode cX8_count 74 = .ok (.getfield 69, 3) := by decide +kernel
theorem dX8_count_77 : decode cX8_count 77 = .ok (.iload 4, 2) := by decide +kernel
theorem dX8_count_79 : decode cX8_count 79 = .ok (.iconst 1, 1) := by decide +kernel
theorem dX8_count_80 : decode cX8_count 80 = .ok (.isub, 1) := by decide +kernel
theorem dX8_count_81 : decode cX8_count 81 = .ok (.iaload, 1) := by decide +kernel
theorem dX8_count_82 : decode cX8_count 82 = .ok (.aload_n 0, 1) := by decide +kernel
theorem dX8_count_83 : decode cX8_count 83 = .ok (.getfield 69, 3) := by decide +kernel
theorem dX8_count_86 : decode cX8_count 86 = .ok (.iload 4, 2) := by decide +kernel
theorem dX8_count_88 : decode cX8_count 88 = .ok (.iaload, 1) := by decide +kernel
theorem dX8_count_89 : decode cX8_count 89 = .ok (.if_icmp .eq 7, 3) := by decide +kernel
theorem dX8_count_92 : decode cX8_count 92 = .ok (.iconst 1, 1) := by decide +kernel
theorem dX8_count_93 : decode cX8_count 93 = .ok (.goto 4, 3) := by decide +kernel
theorem dX8_count_96 : decode cX8_count 96 = .ok (.iconst 0, 1) := by decide +kernel
theorem dX8_count_97 : decode cX8_count 97 = .ok (.iadd, 1) := by decide +kernel
theorem dX8_count_98 : decode cX8_count 98 = .ok (.istore_n 3, 1) := by decide +kernel
theorem dX8_count_99 : decode cX8_count 99 = .ok (.iinc 4 1, 3) := by decide +kernel
theorem dX8_count_102 : decode cX8_count 102 = .ok (.goto (-74), 3) := by decide +kernel
theorem dX8_count_105 : decode cX8_count 105 = .ok (.iload_n 1, 1) := by decide +kernel
theorem dX8_count_106 : decode cX8_count 106 = .ok (.ifCond .ne 7, 3) := by decide +kernel
theorem dX8_count_109 : decode cX8_count 109 = .ok (.iload_n 2, 1) := by decide +kernel
theorem dX8_count_110 : decode cX8_count 110 = .ok (.goto 4, 3) := by decide +kernel
theorem dX8_count_113 : decode cX8_count 113 = .ok (.iload_n 3, 1) := by decide +kernel
theorem dX8_count_114 : decode cX8_count 114 = .ok (.ireturn, 1) := by decide +kernel
set_option maxRecDepth 20000 in
theorem ggX8_reached_X8_begin : GoodIn wsX8_reached wsX8_begin := goodIn_r _ [6, 7, 8, 9, 10, 5, 11, 12, 13, 14, 15, 16, 17, 18, 19, 20, 21, 22, 23, 24, 25, 26, 27, 28, 29, 30, 31, 32, 33, 34, 35, 36, 37, 38, 39, 40, 41, 42, 43, 44, 45, 46, 47, 48, 49, 50, 51, 52, 53, 54, 55, 56, 57, 58, 59, 60, 61, 62, 63, 64, 65, 66, 67, 68, 69, 70, 71, 72, 73, 74, 75, 76, 108, 109, 110, 111, 112, 113, 114, 115, 116, 117, 118, 119, 120, 121, 122, 123, 124, 125, 126, 127, 128, 129, 130, 131, 132, 133, 134, 135, 136, 137, 138, 139, 140] (by decide +kernel) (by decide +kernel)
set_option maxRecDepth 20000 in
theorem gX8_reached_X8_begin : GoodIn wsX8_reached (wsV RX8 199 RX8 yX8_begin wsX8_begin) := goodIn_app (goodIn_of _ (by decide +kernel)) ggX8_reached_X8_begin
set_option maxRecDepth 20000 in
theorem ggX8_reached_X8_setFar : GoodIn wsX8_reached wsX8_setFar := goodIn_r _ [80, 1, 81, 82, 83, 84, 85, 86, 5, 87, 88, 89, 90, 91, 92, 93, 94, 95, 30, 7, 96, 97, 98, 99, 100, 101, 102, 103, 28, 27, 104, 105, 106, 107, 29, 108, 109, 110, 111, 112, 113, 114, 115, 116, 117, 118, 119, 120, 121, 122, 123, 124, 125, 126, 127, 128, 129, 130, 131, 132, 133, 134, 135, 136, 137, 138, 139, 140] (by decide +kernel) (by decide +kernel)
set_option maxRecDepth 20000 in
theorem gX8_reached_X8_setFar : GoodIn wsX8_reached (wsV RX8 225 RX8 yX8_setFar wsX8_setFar) := goodIn_app (goodIn_of _ (by decide +kernel)) ggX8_reached_X8_setFar
theorem dX8_reached_0 : decode cX8_reached 0 = .ok (.aload_n 0, 1) := by decide +kernel
theorem dX8_reached_1 : decode cX8_reached 1 = .ok (.invokevirtual 199, 3) := by decide +kernel
theorem dX8_reached_4 : decode cX8_reached 4 = .ok (.ifCond .ne 6, 3) := by decide +kernel
theorem dX8_reached_7 : decode cX8_reached 7 = .ok (.bipush (-4), 2) := by decide +kernel
theorem dX8_reached_9 : decode cX8_reached 9 = .ok (.ireturn, 1) := by decide +kernel
theorem dX8_reached_10 : decode cX8_reached 10 = .ok (.aload_n 0, 1) := by decide +kernel
theorem dX8_reached_11 : decode cX8_reached 11 = .ok (.invokevirtual 225, 3) := by decide +kernel
theorem dX8_reached_14 : decode cX8_reached 14 = .ok (.iconst 0, 1) := by decide +kernel
theorem dX8_reached_15 : decode cX8_reached 15 = .ok (.istore_n 1, 1) := by decide +kernel
theorem dX8_reached_16 : decode cX8_reached 16 = .ok (.iconst 0, 1) := by decide +kernel
theorem dX8_reached_17 : decode cX8_reached 17 = .ok (.istore_n 2, 1) := by decide +kernel
theorem dX8_reached_18 : decode cX8_reached 18 = .ok (.iload_n 2, 1) := by decide +kernel
theorem dX8_reached_19 : decode cX8_reached 19 = .ok (.sipush 1764, 3) := by decide +kernel
theorem dX8_reached_22 : decode cX8_reached 22 = .ok (.if_icmp .ge 26, 3) := by decide +kernel
theorem dX8_reached_25 : decode cX8_reached 25 = .ok (.iload_n 1, 1) := by decide +kernel
theorem dX8_reached_26 : decode cX8_reached 26 = .ok (.aload_n 0, 1) := by decide +kernel
theorem dX8_reached_27 : decode cX8_reached 27 = .ok (.getfield 59, 3) := by decide +kernel
theorem dX8_reached_30 : decode cX8_reached 30 = .ok (.iload_n 2, 1) := by decide +kernel
theorem dX8_reached_31 : decode cX8_reached 31 = .ok (.iaload, 1) := by decide +kernel
theorem dX8_reached_32 : decode cX8_reached 32 = .ok (.ifCond .lt 7, 3) := by decide +kernel
theorem dX8_reached_35 : decode cX8_reached 35 = .ok (.iconst 1, 1) := by decide +kernel
theorem dX8_reached_36 : decode cX8_reached 36 = .ok (.goto 4, 3) := by decide +kernel
theorem dX8_reached_39 : decode cX8_reached 39 = .ok (.iconst 0, 1) := by decide +kernel
theorem dX8_reached_40 : decode cX8_reached 40 = .ok (.iadd, 1) := by decide +kernel
theorem dX8_reached_41 : decode cX8_reached 41 = .ok (.istore_n 1, 1) := by decide +kernel
theorem dX8_reached_42 : decode cX8_reached 42 = .ok (.iinc 2 1, 3) := by decide +kernel
theorem dX8_reached_45 : decode cX8_reached 45 = .ok (.goto (-27), 3) := by decide +kernel
theorem dX8_reached_48 : decode cX8_reached 48 = .ok (.iload_n 1, 1) := by decide +kernel
theorem dX8_reached_49 : decode cX8_reached 49 = .ok (.ireturn, 1) := by decide +kernel
set_option maxRecDepth 20000 in
theorem ggX8_reaches_X8_isState : GoodIn wsX8_reaches wsX8_isState := goodIn_r _ [6, 7, 8, 9, 5, 10, 11, 12, 13, 14, 15, 116, 117, 118, 119, 120, 121, 122, 123, 124, 125, 126, 127, 128, 129, 130, 131, 132, 133, 134, 135, 136, 137, 138, 139, 140, 141, 142, 143, 144, 145, 146, 147, 148] (by decide +kernel) (by decide +kernel)
set_option maxRecDepth 20000 in
theorem gX8_reaches_X8_isState : GoodIn wsX8_reaches (wsV RX8 196 RX8 yX8_isState wsX8_isState) := goodIn_app (goodIn_of _ (by decide +kernel)) ggX8_reaches_X8_isState
set_option maxRecDepth 20000 in
theorem ggX8_reaches_X8_begin : GoodIn wsX8_reaches wsX8_begin := goodIn_r _ [19, 20, 21, 22, 23, 5, 24, 25, 26, 27, 28, 29, 30, 31, 32, 33, 34, 35, 36, 37, 38, 39, 12, 11, 40, 41, 42, 43, 44, 45, 46, 47, 48, 49, 50, 51, 52, 53, 54, 55, 56, 57, 13, 14, 15, 58, 59, 60, 61, 62, 63, 64, 65, 66, 67, 68, 69, 70, 71, 72, 73, 74, 75, 76, 77, 78, 79, 80, 81, 82, 83, 84, 116, 117, 118, 119, 120, 121, 122, 123, 124, 125, 126, 127, 128, 129, 130, 131, 132, 133, 134, 135, 136, 137, 138, 139, 140, 141, 142, 143, 144, 145, 146, 147, 148] (by decide +kernel) (by decide +kernel)
set_option maxRecDepth 20000 in
theorem gX8_reaches_X8_begin : GoodIn wsX8_reaches (wsV RX8 199 RX8 yX8_begin wsX8_begin) := goodIn_app (goodIn_of _ (by decide +kernel)) ggX8_reaches_X8_begin
set_option maxRecDepth 20000 in
theorem ggX8_reaches_X8_setFar : GoodIn wsX8_reaches wsX8_setFar := goodIn_r _ [88, 1, 89, 90, 91, 92, 93, 94, 5, 95, 96, 97, 98, 99, 100, 101, 102, 103, 41, 20, 104, 105, 106, 107, 108, 109, 110, 111, 11, 12, 112, 113, 114, 115, 40, 116, 117, 118, 119, 120, 121, 122, 123, 124, 125, 126, 127, 128, 129, 130, 131, 132, 133, 134, 135, 136, 137, 138, 139, 140, 141, 142, 143, 144, 145, 146, 147, 148] (by decide +kernel) (by decide +kernel)
set_option maxRecDepth 20000 in
theorem gX8_reaches_X8_setFar : GoodIn wsX8_reaches (wsV RX8 225 RX8 yX8_setFar wsX8_setFar) := goodIn_app (goodIn_of _ (by decide +kernel)) ggX8_reaches_X8_setFar
set_option maxRecDepth 20000 in
theorem ggX8_reaches_X8_stateOf : GoodIn wsX8_reaches wsX8_stateOf := goodIn_r _ [99] (by decide +kernel) (by decide +kernel)
set_option maxRecDepth 20000 in
theorem gX8_reaches_X8_stateOf : GoodIn wsX8_reaches (va_wsS RX8 180 yX8_stateOf wsX8_stateOf) := goodIn_app (goodIn_of _ (by decide +kernel)) ggX8_reaches_X8_stateOf
theorem dX8_reaches_0 : decode cX8_reaches 0 = .ok (.aload_n 0, 1) := by decide +kernel
theorem dX8_reaches_1 : decode cX8_reaches 1 = .ok (.iload_n 1, 1) := by decide +kernel
theorem dX8_reaches_2 : decode cX8_reaches 2 = .ok (.iload_n 2, 1) := by decide +kernel
theorem dX8_reaches_3 : decode cX8_reaches 3 = .ok (.iload_n 3, 1) := by decide +kernel
theorem dX8_reaches_4 : decode cX8_reaches 4 = .ok (.invokevirtual 196, 3) := by decide +kernel
theorem dX8_reaches_7 : decode cX8_reaches 7 = .ok (.ifCond .ne 5, 3) := by decide +kernel
theorem dX8_reaches_10 : decode cX8_reaches 10 = .ok (.iconst (-1), 1) := by decide +kernel
theorem dX8_reaches_11 : decode cX8_reaches 11 = .ok (.ireturn, 1) := by decide +kernel
theorem dX8_reaches_12 : decode cX8_reaches 12 = .ok (.aload_n 0, 1) := by decide +kernel
theorem dX8_reaches_13 : decode cX8_reaches 13 = .ok (.invokevirtual 199, 3) := by decide +kernel
theorem dX8_reaches_16 : decode cX8_reaches 16 = .ok (.ifCond .ne 6, 3) := by decide +kernel
theorem dX8_reaches_19 : decode cX8_reaches 19 = .ok (.bipush (-4), 2) := by decide +kernel
theorem dX8_reaches_21 : decode cX8_reaches 21 = .ok (.ireturn, 1) := by decide +kernel
theorem dX8_reaches_22 : decode cX8_reaches 22 = .ok (.aload_n 0, 1) := by decide +kernel
theorem dX8_reaches_23 : decode cX8_reaches 23 = .ok (.invokevirtual 225, 3) := by decide +kernel
theorem dX8_reaches_26 : decode cX8_reaches 26 = .ok (.aload_n 0, 1) := by decide +kernel
theorem dX8_reaches_27 : decode cX8_reaches 27 = .ok (.getfield 59, 3) := by decide +kernel
theorem dX8_reaches_30 : decode cX8_reaches 30 = .ok (.iload_n 1, 1) := by decide +kernel
theorem dX8_reaches_31 : decode cX8_reaches 31 = .ok (.iload_n 2, 1) := by decide +kernel
theorem dX8_reaches_32 : decode cX8_reaches 32 = .ok (.iload_n 3, 1) := by decide +kernel
theorem dX8_reaches_33 : decode cX8_reaches 33 = .ok (.invokestatic 180, 3) := by decide +kernel
theorem dX8_reaches_36 : decode cX8_reaches 36 = .ok (.iaload, 1) := by decide +kernel
theorem dX8_reaches_37 : decode cX8_reaches 37 = .ok (.ifCond .lt 7, 3) := by decide +kernel
theorem dX8_reaches_40 : decode cX8_reaches 40 = .ok (.iconst 1, 1) := by decide +kernel
theorem dX8_reaches_41 : decode cX8_reaches 41 = .ok (.goto 4, 3) := by decide +kernel
theorem dX8_reaches_44 : decode cX8_reaches 44 = .ok (.iconst 0, 1) := by decide +kernel
theorem dX8_reaches_45 : decode cX8_reaches 45 = .ok (.ireturn, 1) := by decide +kernel
set_option maxRecDepth 20000 in
theorem ggX8_held_X8_begin : GoodIn wsX8_held wsX8_begin := goodIn_r _ [9, 10, 11, 12, 13, 8, 14, 15, 16, 17, 18, 19, 20, 21, 22, 23, 24, 25, 26, 27, 28, 29, 30, 31, 3, 2, 32, 33, 34, 35, 36, 37, 38, 39, 40, 41, 42, 43, 44, 45, 46, 47, 48, 49, 50, 51, 52, 53, 54, 55, 56, 57, 58, 59, 60, 61, 62, 63, 64, 65, 66, 67, 68, 69, 70, 71, 72, 73, 74, 75, 76, 77, 113, 114, 115, 116, 117, 118, 119, 120, 121, 122, 123, 124, 125, 126, 127, 128, 129, 130, 131, 132, 133, 134, 135, 136, 137, 138, 139, 140, 141, 142, 143, 144, 145] (by decide +kernel) (by decide +kernel)
set_option maxRecDepth 20000 in
theorem gX8_held_X8_begin : GoodIn wsX8_held (wsV RX8 199 RX8 yX8_begin wsX8_begin) := goodIn_app (goodIn_of _ (by decide +kernel)) ggX8_held_X8_begin
set_option maxRecDepth 20000 in
theorem ggX8_held_X8_setFar : GoodIn wsX8_held wsX8_setFar := goodIn_r _ [81, 1, 82, 83, 84, 85, 86, 87, 8, 88, 89, 90, 91, 92, 93, 94, 95, 96, 2, 10, 97, 98, 99, 100, 101, 102, 103, 104, 31, 30, 105, 106, 107, 108, 3, 113, 114, 115, 116, 117, 118, 119, 120, 121, 122, 123, 124, 125, 126, 127, 128, 129, 130, 131, 132, 133, 134, 135, 136, 137, 138, 139, 140, 141, 142, 143, 144, 145] (by decide +kernel) (by decide +kernel)
set_option maxRecDepth 20000 in
theorem gX8_held_X8_setFar : GoodIn wsX8_held (wsV RX8 225 RX8 yX8_setFar wsX8_setFar) := goodIn_app (goodIn_of _ (by decide +kernel)) ggX8_held_X8_setFar
set_option maxRecDepth 20000 in
theorem ggX8_held_X8_goal : GoodIn wsX8_held wsX8_goal := goodIn_r _ [112, 89, 90, 91, 8, 92, 113, 114, 115, 116, 117, 118, 119, 120, 121, 122, 123, 124, 125, 126, 127, 128, 129, 130, 131, 132, 133, 134, 135, 136, 137, 138, 139, 140, 141, 142, 143, 144, 145] (by decide +kernel) (by decide +kernel)
set_option maxRecDepth 20000 in
theorem gX8_held_X8_goal : GoodIn wsX8_held (wsV RX8 228 RX8 yX8_goal wsX8_goal) := goodIn_app (goodIn_of _ (by decide +kernel)) ggX8_held_X8_goal
set_option maxRecDepth 20000 in
theorem ggX8_held_X8_next : GoodIn wsX8_held wsX8_next := goodIn_r _ [104, 31, 30, 90, 91, 8, 92, 113, 114, 115, 116, 117, 118, 119, 120, 121, 122, 123, 124, 125, 126, 127, 128, 129, 130, 131, 132, 133, 134, 135, 136, 137, 138, 139, 140, 141, 142, 143, 144, 145] (by decide +kernel) (by decide +kernel)
set_option maxRecDepth 20000 in
theorem gX8_held_X8_next : GoodIn wsX8_held (wsV RX8 183 RX8 yX8_next wsX8_next) := goodIn_app (goodIn_of _ (by decide +kernel)) ggX8_held_X8_next
theorem dX8_held_0 : decode cX8_held 0 = .ok (.aload_n 0, 1) := by decide +kernel
theorem dX8_held_1 : decode cX8_held 1 = .ok (.invokevirtual 199, 3) := by decide +kernel
theorem dX8_held_4 : decode cX8_held 4 = .ok (.ifCond .ne 6, 3) := by decide +kernel
theorem dX8_held_7 : decode cX8_held 7 = .ok (.bipush (-4), 2) := by decide +kernel
theorem dX8_held_9 : decode cX8_held 9 = .ok (.ireturn, 1) := by decide +kernel
theorem dX8_held_10 : decode cX8_held 10 = .ok (.aload_n 0, 1) := by decide +kernel
theorem dX8_held_11 : decode cX8_held 11 = .ok (.invokevirtual 225, 3) := by decide +kernel
theorem dX8_held_14 : decode cX8_held 14 = .ok (.aload_n 0, 1) := by decide +kernel
theorem dX8_held_15 : decode cX8_held 15 = .ok (.getfield 59, 3) := by decide +kernel
theorem dX8_held_18 : decode cX8_held 18 = .ok (.aload_n 0, 1) := by decide +kernel
theorem dX8_held_19 : decode cX8_held 19 = .ok (.invokevirtual 228, 3) := by decide +kernel
theorem dX8_held_22 : decode cX8_held 22 = .ok (.iaload, 1) := by decide +kernel
theorem dX8_held_23 : decode cX8_held 23 = .ok (.ifCond .lt 5, 3) := by decide +kernel
theorem dX8_held_26 : decode cX8_held 26 = .ok (.iconst 0, 1) := by decide +kernel
theorem dX8_held_27 : decode cX8_held 27 = .ok (.ireturn, 1) := by decide +kernel
theorem dX8_held_28 : decode cX8_held 28 = .ok (.iconst 0, 1) := by decide +kernel
theorem dX8_held_29 : decode cX8_held 29 = .ok (.istore_n 1, 1) := by decide +kernel
theorem dX8_held_30 : decode cX8_held 30 = .ok (.iconst 0, 1) := by decide +kernel
theorem dX8_held_31 : decode cX8_held 31 = .ok (.istore_n 2, 1) := by decide +kernel
theorem dX8_held_32 : decode cX8_held 32 = .ok (.iload_n 2, 1) := by decide +kernel
theorem dX8_held_33 : decode cX8_held 33 = .ok (.sipush 1764, 3) := by decide +kernel
theorem dX8_held_36 : decode cX8_held 36 = .ok (.if_icmp .ge 84, 3) := by decide +kernel
theorem dX8_held_39 : decode cX8_held 39 = .ok (.iconst 0, 1) := by decide +kernel
theorem dX8_held_40 : decode cX8_held 40 = .ok (.istore_n 3, 1) := by decide +kernel
theorem dX8_held_41 : decode cX8_held 41 = .ok (.iload_n 3, 1) := by decide +kernel
theorem dX8_held_42 : decode cX8_held 42 = .ok (.iconst 4, 1) := by decide +kernel
theorem dX8_held_43 : decode cX8_held 43 = .ok (.if_icmp .ge 45, 3) := by decide +kernel
theorem dX8_held_46 : decode cX8_held 46 = .ok (.aload_n 0, 1) := by decide +kernel
theorem dX8_held_47 : decode cX8_held 47 = .ok (.getfield 59, 3) := by decide +kernel
theorem dX8_held_50 : decode cX8_held 50 = .ok (.iload_n 2, 1) := by decide +kernel
theorem dX8_held_51 : decode cX8_held 51 = .ok (.iaload, 1) := by decide +kernel
theorem dX8_held_52 : decode cX8_held 52 = .ok (.ifCond .lt 36, 3) := by decide +kernel
theorem dX8_held_55 : decode cX8_held 55 = .ok (.aload_n 0, 1) := by decide +kernel
theorem dX8_held_56 : decode cX8_held 56 = .ok (.iload_n 2, 1) := by decide +kernel
theorem dX8_held_57 : decode cX8_held 57 = .ok (.iload_n 3, 1) := by decide +kernel
theorem dX8_held_58 : decode cX8_held 58 = .ok (.invokevirtual 183, 3) := by decide +kernel
theorem dX8_held_61 : decode cX8_held 61 = .ok (.istore 4, 2) := by decide +kernel
theorem dX8_held_63 : decode cX8_held 63 = .ok (.iload_n 1, 1) := by decide +kernel
theorem dX8_held_64 : decode cX8_held 64 = .ok (.iload 4, 2) := by decide +kernel
theorem dX8_held_66 : decode cX8_held 66 = .ok (.ifCond .ge 7, 3) := by decide +kernel
theorem dX8_held_69 : decode cX8_held 69 = .ok (.iconst 0, 1) := by decide +kernel
theorem dX8_held_70 : decode cX8_held 70 = .ok (.goto 10, 3) := by decide +kernel
theorem dX8_held_73 : decode cX8_held 73 = .ok (.aload_n 0, 1) := by decide +kernel
theorem dX8_held_74 : decode cX8_held 74 = .ok (.getfield 47, 3) := by decide +kernel
theorem dX8_held_77 : decode cX8_held 77 = .ok (.iload 4, 2) := by decide +kernel
theorem dX8_held_79 : decode cX8_held 79 = .ok (.iaload, 1) := by decide +kernel
theorem dX8_held_80 : decode cX8_held 80 = .ok (.ior, 1) := by decide +kernel
theorem dX8_held_81 : decode cX8_held 81 = .ok (.istore_n 1, 1) := by decide +kernel
theorem dX8_held_82 : decode cX8_held 82 = .ok (.iinc 3 1, 3) := by decide +kernel
theorem dX8_held_85 : decode cX8_held 85 = .ok (.goto (-44), 3) := by decide +kernel
theorem dX8_held_88 : decode cX8_held 88 = .ok (.iload_n 1, 1) := by decide +kernel
theorem dX8_held_89 : decode cX8_held 89 = .ok (.aload_n 0, 1) := by decide +kernel
theorem dX8_held_90 : decode cX8_held 90 = .ok (.getfield 59, 3) := by decide +kernel
theorem dX8_held_93 : decode cX8_held 93 = .ok (.iload_n 2, 1) := by decide +kernel
theorem dX8_held_94 : decode cX8_held 94 = .ok (.iaload, 1) := by decide +kernel
theorem dX8_held_95 : decode cX8_held 95 = .ok (.ifCond .lt 16, 3) := by decide +kernel
theorem dX8_held_98 : decode cX8_held 98 = .ok (.aload_n 0, 1) := by decide +kernel
theorem dX8_held_99 : decode cX8_held 99 = .ok (.getfield 50, 3) := by decide +kernel
theorem dX8_held_102 : decode cX8_held 102 = .ok (.iload_n 2, 1) := by decide +kernel
theorem dX8_held_103 : decode cX8_held 103 = .ok (.sipush 441, 3) := by decide +kernel
theorem dX8_held_106 : decode cX8_held 106 = .ok (.irem, 1) := by decide +kernel
theorem dX8_held_107 : decode cX8_held 107 = .ok (.iaload, 1) := by decide +kernel
theorem dX8_held_108 : decode cX8_held 108 = .ok (.goto 4, 3) := by decide +kernel
theorem dX8_held_111 : decode cX8_held 111 = .ok (.iconst 0, 1) := by decide +kernel
theorem dX8_held_112 : decode cX8_held 112 = .ok (.ior, 1) := by decide +kernel
theorem dX8_held_113 : decode cX8_held 113 = .ok (.istore_n 1, 1) := by decide +kernel
theorem dX8_held_114 : decode cX8_held 114 = .ok (.iinc 2 1, 3) := by decide +kernel
theorem dX8_held_117 : decode cX8_held 117 = .ok (.goto (-85), 3) := by decide +kernel
theorem dX8_held_120 : decode cX8_held 120 = .ok (.iload_n 1, 1) := by decide +kernel
theorem dX8_held_121 : decode cX8_held 121 = .ok (.ldc 235, 2) := by decide +kernel
theorem dX8_held_123 : decode cX8_held 123 = .ok (.iand, 1) := by decide +kernel
theorem dX8_held_124 : decode cX8_held 124 = .ok (.ireturn, 1) := by decide +kernel
set_option maxRecDepth 20000 in
theorem ggX8_isWay_X8_setFar : GoodIn wsX8_isWay wsX8_setFar := goodIn_r _ [6, 1, 7, 8, 9, 10, 11, 12, 5, 13, 14, 15, 16, 17, 18, 19, 20, 21, 22, 23, 24, 25, 26, 27, 28, 29, 30, 31, 32, 33, 34, 35, 36, 37, 38, 43, 44, 45, 46, 47, 48, 49, 50, 51, 52, 53, 54, 55, 56, 57, 58, 59, 60, 61, 62, 63, 64, 65, 66, 67, 68, 69, 70, 71, 72, 73, 74, 75] (by decide +kernel) (by decide +kernel)
set_option maxRecDepth 20000 in
theorem gX8_isWay_X8_setFar : GoodIn wsX8_isWay (wsV RX8 225 RX8 yX8_setFar wsX8_setFar) := goodIn_app (goodIn_of _ (by decide +kernel)) ggX8_isWay_X8_setFar
set_option maxRecDepth 20000 in
theorem ggX8_isWay_X8_goal : GoodIn wsX8_isWay wsX8_goal := goodIn_r _ [42, 14, 15, 16, 5, 17, 43, 44, 45, 46, 47, 48, 49, 50, 51, 52, 53, 54, 55, 56, 57, 58, 59, 60, 61, 62, 63, 64, 65, 66, 67, 68, 69, 70, 71, 72, 73, 74, 75] (by decide +kernel) (by decide +kernel)
set_option maxRecDepth 20000 in
theorem gX8_isWay_X8_goal : GoodIn wsX8_isWay (wsV RX8 228 RX8 yX8_goal wsX8_goal) := goodIn_app (goodIn_of _ (by decide +kernel)) ggX8_isWay_X8_goal
theorem dX8_isWay_0 : decode cX8_isWay 0 = .ok (.aload_n 0, 1) := by decide +kernel
theorem dX8_isWay_1 : decode cX8_isWay 1 = .ok (.invokevirtual 225, 3) := by decide +kernel
theorem dX8_isWay_4 : decode cX8_isWay 4 = .ok (.aload_n 0, 1) := by decide +kernel
theorem dX8_isWay_5 : decode cX8_isWay 5 = .ok (.getfield 59, 3) := by decide +kernel
theorem dX8_isWay_8 : decode cX8_isWay 8 = .ok (.aload_n 0, 1) := by decide +kernel
theorem dX8_isWay_9 : decode cX8_isWay 9 = .ok (.invokevirtual 228, 3) := by decide +kernel
theorem dX8_isWay_12 : decode cX8_isWay 12 = .ok (.iaload, 1) := by decide +kernel
theorem dX8_isWay_13 : decode cX8_isWay 13 = .ok (.ifCond .lt 7, 3) := by decide +kernel
theorem dX8_isWay_16 : decode cX8_isWay 16 = .ok (.iconst 1, 1) := by decide +kernel
theorem dX8_isWay_17 : decode cX8_isWay 17 = .ok (.goto 4, 3) := by decide +kernel
theorem dX8_isWay_20 : decode cX8_isWay 20 = .ok (.iconst 0, 1) := by decide +kernel
theorem dX8_isWay_21 : decode cX8_isWay 21 = .ok (.ireturn, 1) := by decide +kernel
theorem dX8_bitsIn_0 : decode cX8_bitsIn 0 = .ok (.iconst 0, 1) := by decide +kernel
theorem dX8_bitsIn_1 : decode cX8_bitsIn 1 = .ok (.istore_n 1, 1) := by decide +kernel
theorem dX8_bitsIn_2 : decode cX8_bitsIn 2 = .ok (.iconst 0, 1) := by decide +kernel
theorem dX8_bitsIn_3 : decode cX8_bitsIn 3 = .ok (.istore_n 2, 1) := by decide +kernel
theorem dX8_bitsIn_4 : decode cX8_bitsIn 4 = .ok (.iload_n 2, 1) := by decide +kernel
theorem dX8_bitsIn_5 : decode cX8_bitsIn 5 = .ok (.bipush 12, 2) := by decide +kernel
theorem dX8_bitsIn_7 : decode cX8_bitsIn 7 = .ok (.if_icmp .ge 17, 3) := by decide +kernel
theorem dX8_bitsIn_10 : decode cX8_bitsIn 10 = .ok (.iload_n 1, 1) := by decide +kernel
theorem dX8_bitsIn_11 : decode cX8_bitsIn 11 = .ok (.iload_n 0, 1) := by decide +kernel
theorem dX8_bitsIn_12 : decode cX8_bitsIn 12 = .ok (.iload_n 2, 1) := by decide +kernel
theorem dX8_bitsIn_13 : decode cX8_bitsIn 13 = .ok (.ishr, 1) := by decide +kernel
theorem dX8_bitsIn_14 : decode cX8_bitsIn 14 = .ok (.iconst 1, 1) := by decide +kernel
theorem dX8_bitsIn_15 : decode cX8_bitsIn 15 = .ok (.iand, 1) := by decide +kernel
theorem dX8_bitsIn_16 : decode cX8_bitsIn 16 = .ok (.iadd, 1) := by decide +kernel
theorem dX8_bitsIn_17 : decode cX8_bitsIn 17 = .ok (.istore_n 1, 1) := by decide +kernel
theorem dX8_bitsIn_18 : decode cX8_bitsIn 18 = .ok (.iinc 2 1, 3) := by decide +kernel
theorem dX8_bitsIn_21 : decode cX8_bitsIn 21 = .ok (.goto (-17), 3) := by decide +kernel
theorem dX8_bitsIn_24 : decode cX8_bitsIn 24 = .ok (.iload_n 1, 1) := by decide +kernel
theorem dX8_bitsIn_25 : decode cX8_bitsIn 25 = .ok (.ireturn, 1) := by decide +kernel
set_option maxRecDepth 20000 in
theorem ggX8_doors_X8_begin : GoodIn wsX8_doors wsX8_begin := goodIn_r _ [8, 3, 9, 10, 11, 7, 12, 13, 14, 15, 16, 17, 18, 19, 20, 21, 22, 23, 24, 25, 26, 27, 28, 29, 30, 31, 32, 33, 34, 35, 36, 37, 38, 39, 40, 41, 2, 42, 43, 44, 45, 46, 47, 48, 49, 50, 51, 52, 53, 54, 55, 56, 57, 58, 59, 60, 61, 62, 63, 64, 65, 66, 67, 68, 69, 70, 71, 72, 73, 74, 75, 76, 120, 121, 122, 123, 124, 125, 126, 127, 128, 129, 130, 131, 132, 133, 134, 135, 136, 137, 138, 139, 140, 141, 142, 143, 144, 145, 146, 147, 148, 149, 150, 151, 152] (by decide +kernel) (by decide +kernel)
set_option maxRecDepth 20000 in
theorem gX8_doors_X8_begin : GoodIn wsX8_doors (wsV RX8 199 RX8 yX8_begin wsX8_begin) := goodIn_app (goodIn_of _ (by decide +kernel)) ggX8_doors_X8_begin
set_option maxRecDepth 20000 in
theorem ggX8_doors_X8_isWay : GoodIn wsX8_doors wsX8_isWay := goodIn_r _ [80, 81, 82, 83, 84, 7, 85, 86, 87, 88, 89, 90, 91, 92, 93, 94, 95, 96, 97, 98, 99, 100, 31, 3, 101, 102, 103, 104, 105, 106, 107, 108, 29, 28, 109, 110, 111, 112, 30, 113, 114, 115, 116, 120, 121, 122, 123, 124, 125, 126, 127, 128, 129, 130, 131, 132, 133, 134, 135, 136, 137, 138, 139, 140, 141, 142, 143, 144, 145, 146, 147, 148, 149, 150, 151, 152] (by decide +kernel) (by decide +kernel)
set_option maxRecDepth 20000 in
theorem gX8_doors_X8_isWay : GoodIn wsX8_doors (wsV RX8 236 RX8 yX8_isWay wsX8_isWay) := goodIn_app (goodIn_of _ (by decide +kernel)) ggX8_doors_X8_isWay
set_option maxRecDepth 20000 in
theorem ggX8_doors_X8_bitsIn : GoodIn wsX8_doors wsX8_bitsIn := goodIn_r _ [119] (by decide +kernel) (by decide +kernel)
set_option maxRecDepth 20000 in
theorem gX8_doors_X8_bitsIn : GoodIn wsX8_doors (va_wsS RX8 97 yX8_bitsIn wsX8_bitsIn) := goodIn_app (goodIn_of _ (by decide +kernel)) ggX8_doors_X8_bitsIn
theorem dX8_doors_0 : decode cX8_doors 0 = .ok (.aload_n 0, 1) := by decide +kernel
theorem dX8_doors_1 : decode cX8_doors 1 = .ok (.invokevirtual 199, 3) := by decide +kernel
theorem dX8_doors_4 : decode cX8_doors 4 = .ok (.ifCond .ne 6, 3) := by decide +kernel
theorem dX8_doors_7 : decode cX8_doors 7 = .ok (.bipush (-4), 2) := by decide +kernel
theorem dX8_doors_9 : decode cX8_doors 9 = .ok (.ireturn, 1) := by decide +kernel
theorem dX8_doors_10 : decode cX8_doors 10 = .ok (.aload_n 0, 1) := by decide +kernel
theorem dX8_doors_11 : decode cX8_doors 11 = .ok (.getfield 88, 3) := by decide +kernel
theorem dX8_doors_14 : decode cX8_doors 14 = .ok (.aload_n 0, 1) := by decide +kernel
theorem dX8_doors_15 : decode cX8_doors 15 = .ok (.getfield 91, 3) := by decide +kernel
theorem dX8_doors_18 : decode cX8_doors 18 = .ok (.iconst (-1), 1) := by decide +kernel
theorem dX8_doors_19 : decode cX8_doors 19 = .ok (.ixor, 1) := by decide +kernel
theorem dX8_doors_20 : decode cX8_doors 20 = .ok (.iand, 1) := by decide +kernel
theorem dX8_doors_21 : decode cX8_doors 21 = .ok (.istore_n 1, 1) := by decide +kernel
theorem dX8_doors_22 : decode cX8_doors 22 = .ok (.aload_n 0, 1) := by decide +kernel
theorem dX8_doors_23 : decode cX8_doors 23 = .ok (.iload_n 1, 1) := by decide +kernel
theorem dX8_doors_24 : decode cX8_doors 24 = .ok (.putfield 177, 3) := by decide +kernel
theorem dX8_doors_27 : decode cX8_doors 27 = .ok (.aload_n 0, 1) := by decide +kernel
theorem dX8_doors_28 : decode cX8_doors 28 = .ok (.invokevirtual 236, 3) := by decide +kernel
theorem dX8_doors_31 : decode cX8_doors 31 = .ok (.ifCond .ne 6, 3) := by decide +kernel
theorem dX8_doors_34 : decode cX8_doors 34 = .ok (.bipush (-9), 2) := by decide +kernel
theorem dX8_doors_36 : decode cX8_doors 36 = .ok (.ireturn, 1) := by decide +kernel
theorem dX8_doors_37 : decode cX8_doors 37 = .ok (.iconst 0, 1) := by decide +kernel
theorem dX8_doors_38 : decode cX8_doors 38 = .ok (.istore_n 2, 1) := by decide +kernel
theorem dX8_doors_39 : decode cX8_doors 39 = .ok (.iload_n 2, 1) := by decide +kernel
theorem dX8_doors_40 : decode cX8_doors 40 = .ok (.bipush 12, 2) := by decide +kernel
theorem dX8_doors_42 : decode cX8_doors 42 = .ok (.if_icmp .gt 54, 3) := by decide +kernel
theorem dX8_doors_45 : decode cX8_doors 45 = .ok (.iconst 0, 1) := by decide +kernel
theorem dX8_doors_46 : decode cX8_doors 46 = .ok (.istore_n 3, 1) := by decide +kernel
theorem dX8_doors_47 : decode cX8_doors 47 = .ok (.iload_n 3, 1) := by decide +kernel
theorem dX8_doors_48 : decode cX8_doors 48 = .ok (.sipush 4096, 3) := by decide +kernel
theorem dX8_doors_51 : decode cX8_doors 51 = .ok (.if_icmp .ge 39, 3) := by decide +kernel
theorem dX8_doors_54 : decode cX8_doors 54 = .ok (.iload_n 3, 1) := by decide +kernel
theorem dX8_doors_55 : decode cX8_doors 55 = .ok (.iload_n 1, 1) := by decide +kernel
theorem dX8_doors_56 : decode cX8_doors 56 = .ok (.iconst (-1), 1) := by decide +kernel
theorem dX8_doors_57 : decode cX8_doors 57 = .ok (.ixor, 1) := by decide +kernel
theorem dX8_doors_58 : decode cX8_doors 58 = .ok (.iand, 1) := by decide +kernel
theorem dX8_doors_59 : decode cX8_doors 59 = .ok (.ifCond .ne 25, 3) := by decide +kernel
theorem dX8_doors_62 : decode cX8_doors 62 = .ok (.iload_n 3, 1) := by decide +kernel
theorem dX8_doors_63 : decode cX8_doors 63 = .ok (.invokestatic 97, 3) := by decide +kernel
theorem dX8_doors_66 : decode cX8_doors 66 = .ok (.iload_n 2, 1) := by decide +kernel
theorem dX8_doors_67 : decode cX8_doors 67 = .ok (.if_icmp .ne 17, 3) := by decide +kernel
theorem dX8_doors_70 : decode cX8_doors 70 = .ok (.aload_n 0, 1) := by decide +kernel
theorem dX8_doors_71 : decode cX8_doors 71 = .ok (.iload_n 3, 1) := by decide +kernel
theorem dX8_doors_72 : decode cX8_doors 72 = .ok (.putfield 177, 3) := by decide +kernel
theorem dX8_doors_75 : decode cX8_doors 75 = .ok (.aload_n 0, 1) := by decide +kernel
theorem dX8_doors_76 : decode cX8_doors 76 = .ok (.invokevirtual 236, 3) := by decide +kernel
theorem dX8_doors_79 : decode cX8_doors 79 = .ok (.ifCond .eq 5, 3) := by decide +kernel
theorem dX8_doors_82 : decode cX8_doors 82 = .ok (.iload_n 3, 1) := by decide +kernel
theorem dX8_doors_83 : decode cX8_doors 83 = .ok (.ireturn, 1) := by decide +kernel
theorem dX8_doors_84 : decode cX8_doors 84 = .ok (.iinc 3 1, 3) := by decide +kernel
theorem dX8_doors_87 : decode cX8_doors 87 = .ok (.goto (-40), 3) := by decide +kernel
theorem dX8_doors_90 : decode cX8_doors 90 = .ok (.iinc 2 1, 3) := by decide +kernel
theorem dX8_doors_93 : decode cX8_doors 93 = .ok (.goto (-54), 3) := by decide +kernel
theorem dX8_doors_96 : decode cX8_doors 96 = .ok (.bipush (-9), 2) := by decide +kernel
theorem dX8_doors_98 : decode cX8_doors 98 = .ok (.ireturn, 1) := by decide +kernel
set_option maxRecDepth 20000 in
theorem ggX8_narrow_X8_in : GoodIn wsX8_narrow wsX8_in := goodIn_r _ [4] (by decide +kernel) (by decide +kernel)
set_option maxRecDepth 20000 in
theorem gX8_narrow_X8_in : GoodIn wsX8_narrow (va_wsS RX8 81 yX8_in wsX8_in) := goodIn_app (goodIn_of _ (by decide +kernel)) ggX8_narrow_X8_in
set_option maxRecDepth 20000 in
theorem ggX8_narrow_X8_begin : GoodIn wsX8_narrow wsX8_begin := goodIn_r _ [8, 9, 10, 11, 12, 3, 13, 14, 15, 16, 17, 18, 19, 20, 21, 22, 23, 24, 25, 26, 27, 28, 29, 30, 31, 32, 33, 34, 35, 36, 37, 38, 39, 40, 41, 42, 43, 44, 45, 46, 47, 48, 1, 2, 4, 49, 50, 51, 52, 53, 54, 55, 56, 57, 58, 59, 60, 61, 62, 63, 64, 65, 66, 67, 68, 69, 70, 71, 72, 73, 74, 75, 116, 117, 118, 119, 120, 121, 122, 123, 124, 125, 126, 127, 128, 129, 130, 131, 132, 133, 134, 135, 136, 137, 138, 139, 140, 141, 142, 143, 144, 145, 146, 147, 148] (by decide +kernel) (by decide +kernel)
set_option maxRecDepth 20000 in
theorem gX8_narrow_X8_begin : GoodIn wsX8_narrow (wsV RX8 199 RX8 yX8_begin wsX8_begin) := goodIn_app (goodIn_of _ (by decide +kernel)) ggX8_narrow_X8_begin
set_option maxRecDepth 20000 in
theorem ggX8_narrow_X8_setBars : GoodIn wsX8_narrow wsX8_setBars := goodIn_r _ [27, 28, 29, 30, 31, 32, 33, 34, 35, 3, 36, 37, 38, 39, 40, 41, 42, 43, 44, 45, 46, 47, 48, 1, 2, 4, 49, 50, 51, 52, 14, 53, 54, 20, 21, 22, 23, 15, 55, 56, 57, 58, 59, 60, 61, 62, 63, 64, 65, 66, 67, 68, 69, 70, 71, 72, 73, 74, 75, 116, 117, 118, 119, 120, 121, 122, 123, 124, 125, 126, 127, 128, 129, 130, 131, 132, 133, 134, 135, 136, 137, 138, 139, 140, 141, 142, 143, 144, 145, 146, 147, 148] (by decide +kernel) (by decide +kernel)
set_option maxRecDepth 20000 in
theorem gX8_narrow_X8_setBars : GoodIn wsX8_narrow (wsV RX8 192 RX8 yX8_setBars wsX8_setBars) := goodIn_app (goodIn_of _ (by decide +kernel)) ggX8_narrow_X8_setBars
set_option maxRecDepth 20000 in
theorem ggX8_narrow_X8_isWay : GoodIn wsX8_narrow wsX8_isWay := goodIn_r _ [79, 80, 81, 82, 83, 3, 84, 85, 86, 87, 88, 89, 90, 91, 92, 93, 94, 95, 96, 97, 98, 99, 32, 9, 100, 101, 102, 103, 104, 105, 106, 107, 30, 29, 108, 109, 110, 111, 31, 112, 113, 114, 115, 116, 117, 118, 119, 120, 121, 122, 123, 124, 125, 126, 127, 128, 129, 130, 131, 132, 133, 134, 135, 136, 137, 138, 139, 140, 141, 142, 143, 144, 145, 146, 147, 148] (by decide +kernel) (by decide +kernel)
set_option maxRecDepth 20000 in
theorem gX8_narrow_X8_isWay : GoodIn wsX8_narrow (wsV RX8 236 RX8 yX8_isWay wsX8_isWay) := goodIn_app (goodIn_of _ (by decide +kernel)) ggX8_narrow_X8_isWay
theorem dX8_narrow_0 : decode cX8_narrow 0 = .ok (.iload_n 1, 1) := by decide +kernel
theorem dX8_narrow_1 : decode cX8_narrow 1 = .ok (.iconst 0, 1) := by decide +kernel
theorem dX8_narrow_2 : decode cX8_narrow 2 = .ok (.bipush 9, 2) := by decide +kernel
theorem dX8_narrow_4 : decode cX8_narrow 4 = .ok (.invokestatic 81, 3) := by decide +kernel
theorem dX8_narrow_7 : decode cX8_narrow 7 = .ok (.ifCond .ne 5, 3) := by decide +kernel
theorem dX8_narrow_10 : decode cX8_narrow 10 = .ok (.iconst (-1), 1) := by decide +kernel
theorem dX8_narrow_11 : decode cX8_narrow 11 = .ok (.ireturn, 1) := by decide +kernel
theorem dX8_narrow_12 : decode cX8_narrow 12 = .ok (.aload_n 0, 1) := by decide +kernel
theorem dX8_narrow_13 : decode cX8_narrow 13 = .ok (.invokevirtual 199, 3) := by decide +kernel
theorem dX8_narrow_16 : decode cX8_narrow 16 = .ok (.ifCond .ne 6, 3) := by decide +kernel
theorem dX8_narrow_19 : decode cX8_narrow 19 = .ok (.bipush (-4), 2) := by decide +kernel
theorem dX8_narrow_21 : decode cX8_narrow 21 = .ok (.ireturn, 1) := by decide +kernel
theorem dX8_narrow_22 : decode cX8_narrow 22 = .ok (.bipush (-9), 2) := by decide +kernel
theorem dX8_narrow_24 : decode cX8_narrow 24 = .ok (.istore_n 2, 1) := by decide +kernel
theorem dX8_narrow_25 : decode cX8_narrow 25 = .ok (.iconst 0, 1) := by decide +kernel
theorem dX8_narrow_26 : decode cX8_narrow 26 = .ok (.istore_n 3, 1) := by decide +kernel
theorem dX8_narrow_27 : decode cX8_narrow 27 = .ok (.iload_n 3, 1) := by decide +kernel
theorem dX8_narrow_28 : decode cX8_narrow 28 = .ok (.iload_n 1, 1) := by decide +kernel
theorem dX8_narrow_29 : decode cX8_narrow 29 = .ok (.if_icmp .gt 27, 3) := by decide +kernel
theorem dX8_narrow_32 : decode cX8_narrow 32 = .ok (.aload_n 0, 1) := by decide +kernel
theorem dX8_narrow_33 : decode cX8_narrow 33 = .ok (.iload_n 3, 1) := by decide +kernel
theorem dX8_narrow_34 : decode cX8_narrow 34 = .ok (.invokevirtual 192, 3) := by decide +kernel
theorem dX8_narrow_37 : decode cX8_narrow 37 = .ok (.aload_n 0, 1) := by decide +kernel
theorem dX8_narrow_38 : decode cX8_narrow 38 = .ok (.invokevirtual 236, 3) := by decide +kernel
theorem dX8_narrow_41 : decode cX8_narrow 41 = .ok (.ifCond .eq 7, 3) := by decide +kernel
theorem dX8_narrow_44 : decode cX8_narrow 44 = .ok (.iload_n 3, 1) := by decide +kernel
theorem dX8_narrow_45 : decode cX8_narrow 45 = .ok (.goto 4, 3) := by decide +kernel
theorem dX8_narrow_48 : decode cX8_narrow 48 = .ok (.iload_n 2, 1) := by decide +kernel
theorem dX8_narrow_49 : decode cX8_narrow 49 = .ok (.istore_n 2, 1) := by decide +kernel
theorem dX8_narrow_50 : decode cX8_narrow 50 = .ok (.iinc 3 1, 3) := by decide +kernel
theorem dX8_narrow_53 : decode cX8_narrow 53 = .ok (.goto (-26), 3) := by decide +kernel
theorem dX8_narrow_56 : decode cX8_narrow 56 = .ok (.iload_n 2, 1) := by decide +kernel
theorem dX8_narrow_57 : decode cX8_narrow 57 = .ok (.ireturn, 1) := by decide +kernel
set_option maxRecDepth 20000 in
theorem ggX8_draft_X8_in : GoodIn wsX8_draft wsX8_in := goodIn_r _ [6] (by decide +kernel) (by decide +kernel)
set_option maxRecDepth 20000 in
theorem gX8_draft_X8_in : GoodIn wsX8_draft (va_wsS RX8 81 yX8_in wsX8_in) := goodIn_app (goodIn_of _ (by decide +kernel)) ggX8_draft_X8_in
theorem dX8_draft_0 : decode cX8_draft 0 = .ok (.iload_n 1, 1) := by decide +kernel
theorem dX8_draft_1 : decode cX8_draft 1 = .ok (.iconst 0, 1) := by decide +kernel
theorem dX8_draft_2 : decode cX8_draft 2 = .ok (.iconst 5, 1) := by decide +kernel
theorem dX8_draft_3 : decode cX8_draft 3 = .ok (.invokestatic 81, 3) := by decide +kernel
theorem dX8_draft_6 : decode cX8_draft 6 = .ok (.ifCond .ne 5, 3) := by decide +kernel
theorem dX8_draft_9 : decode cX8_draft 9 = .ok (.iconst (-1), 1) := by decide +kernel
theorem dX8_draft_10 : decode cX8_draft 10 = .ok (.ireturn, 1) := by decide +kernel
theorem dX8_draft_11 : decode cX8_draft 11 = .ok (.aload_n 0, 1) := by decide +kernel
theorem dX8_draft_12 : decode cX8_draft 12 = .ok (.getfield 239, 3) := by decide +kernel
theorem dX8_draft_15 : decode cX8_draft 15 = .ok (.sipush 200, 3) := by decide +kernel
theorem dX8_draft_18 : decode cX8_draft 18 = .ok (.if_icmp .ne 6, 3) := by decide +kernel
theorem dX8_draft_21 : decode cX8_draft 21 = .ok (.bipush (-2), 2) := by decide +kernel
theorem dX8_draft_23 : decode cX8_draft 23 = .ok (.ireturn, 1) := by decide +kernel
theorem dX8_draft_24 : decode cX8_draft 24 = .ok (.aload_n 0, 1) := by decide +kernel
theorem dX8_draft_25 : decode cX8_draft 25 = .ok (.getfield 75, 3) := by decide +kernel
theorem dX8_draft_28 : decode cX8_draft 28 = .ok (.aload_n 0, 1) := by decide +kernel
theorem dX8_draft_29 : decode cX8_draft 29 = .ok (.getfield 239, 3) := by decide +kernel
theorem dX8_draft_32 : decode cX8_draft 32 = .ok (.iload_n 1, 1) := by decide +kernel
theorem dX8_draft_33 : decode cX8_draft 33 = .ok (.iastore, 1) := by decide +kernel
theorem dX8_draft_34 : decode cX8_draft 34 = .ok (.aload_n 0, 1) := by decide +kernel
theorem dX8_draft_35 : decode cX8_draft 35 = .ok (.dup, 1) := by decide +kernel
theorem dX8_draft_36 : decode cX8_draft 36 = .ok (.getfield 239, 3) := by decide +kernel
theorem dX8_draft_39 : decode cX8_draft 39 = .ok (.iconst 1, 1) := by decide +kernel
theorem dX8_draft_40 : decode cX8_draft 40 = .ok (.iadd, 1) := by decide +kernel
theorem dX8_draft_41 : decode cX8_draft 41 = .ok (.putfield 239, 3) := by decide +kernel
theorem dX8_draft_44 : decode cX8_draft 44 = .ok (.aload_n 0, 1) := by decide +kernel
theorem dX8_draft_45 : decode cX8_draft 45 = .ok (.getfield 239, 3) := by decide +kernel
theorem dX8_draft_48 : decode cX8_draft 48 = .ok (.ireturn, 1) := by decide +kernel
set_option maxRecDepth 20000 in
theorem ggX8_check_X8_begin : GoodIn wsX8_check wsX8_begin := goodIn_r _ [7, 8, 9, 10, 11, 6, 12, 13, 14, 15, 16, 17, 18, 19, 20, 21, 22, 23, 24, 25, 26, 27, 28, 29, 30, 31, 32, 33, 34, 35, 36, 37, 38, 39, 40, 41, 42, 43, 44, 45, 46, 47, 48, 49, 50, 51, 52, 53, 54, 55, 56, 57, 58, 59, 60, 61, 62, 63, 64, 65, 66, 67, 68, 69, 70, 71, 72, 73, 74, 75, 76, 77, 106, 107, 108, 109, 110, 111, 112, 113, 114, 115, 116, 117, 118, 119, 120, 121, 122, 123, 124, 125, 126, 127, 128, 129, 130, 131, 132, 133, 134, 135, 136, 137, 138] (by decide +kernel) (by decide +kernel)
set_option maxRecDepth 20000 in
theorem gX8_check_X8_begin : GoodIn wsX8_check (wsV RX8 199 RX8 yX8_begin wsX8_begin) := goodIn_app (goodIn_of _ (by decide +kernel)) ggX8_check_X8_begin
set_option maxRecDepth 20000 in
theorem ggX8_check_X8_beginning : GoodIn wsX8_check wsX8_beginning := goodIn_r _ [81, 82, 83, 84, 6, 85, 106, 107, 108, 109, 110, 111, 112, 113, 114, 115, 116, 117, 118, 119, 120, 121, 122, 123, 124, 125, 126, 127, 128, 129, 130, 131, 132, 133, 134, 135, 136, 137, 138] (by decide +kernel) (by decide +kernel)
set_option maxRecDepth 20000 in
theorem gX8_check_X8_beginning : GoodIn wsX8_check (wsV RX8 218 RX8 yX8_beginning wsX8_beginning) := goodIn_app (goodIn_of _ (by decide +kernel)) ggX8_check_X8_beginning
set_option maxRecDepth 20000 in
theorem ggX8_check_X8_isFree : GoodIn wsX8_check wsX8_isFree := goodIn_r _ [89, 31, 8, 106, 107, 108, 109, 110, 111, 112, 113, 114, 115, 116, 117, 118, 119, 120, 121, 122, 123, 124, 125, 126, 127, 128, 129, 130, 131, 132, 133, 134, 135, 136, 137, 138] (by decide +kernel) (by decide +kernel)
set_option maxRecDepth 20000 in
theorem gX8_check_X8_isFree : GoodIn wsX8_check (wsV RX8 186 RX8 yX8_isFree wsX8_isFree) := goodIn_app (goodIn_of _ (by decide +kernel)) ggX8_check_X8_isFree
set_option maxRecDepth 20000 in
theorem ggX8_check_X8_led : GoodIn wsX8_check wsX8_led := goodIn_r _ [93, 94, 95, 96, 6, 97, 29, 28, 83, 84, 85, 86, 87, 88, 89, 31, 8, 98, 99, 100, 101, 30, 106, 107, 108, 109, 110, 111, 112, 113, 114, 115, 116, 117, 118, 119, 120, 121, 122, 123, 124, 125, 126, 127, 128, 129, 130, 131, 132, 133, 134, 135, 136, 137, 138] (by decide +kernel) (by decide +kernel)
set_option maxRecDepth 20000 in
theorem gX8_check_X8_led : GoodIn wsX8_check (wsV RX8 202 RX8 yX8_led wsX8_led) := goodIn_app (goodIn_of _ (by decide +kernel)) ggX8_check_X8_led
set_option maxRecDepth 20000 in
theorem ggX8_check_X8_goal : GoodIn wsX8_check wsX8_goal := goodIn_r _ [105, 82, 83, 84, 6, 85, 106, 107, 108, 109, 110, 111, 112, 113, 114, 115, 116, 117, 118, 119, 120, 121, 122, 123, 124, 125, 126, 127, 128, 129, 130, 131, 132, 133, 134, 135, 136, 137, 138] (by decide +kernel) (by decide +kernel)
set_option maxRecDepth 20000 in
theorem gX8_check_X8_goal : GoodIn wsX8_check (wsV RX8 228 RX8 yX8_goal wsX8_goal) := goodIn_app (goodIn_of _ (by decide +kernel)) ggX8_check_X8_goal
theorem dX8_check_0 : decode cX8_check 0 = .ok (.aload_n 0, 1) := by decide +kernel
theorem dX8_check_1 : decode cX8_check 1 = .ok (.getfield 239, 3) := by decide +kernel
theorem dX8_check_4 : decode cX8_check 4 = .ok (.istore_n 1, 1) := by decide +kernel
theorem dX8_check_5 : decode cX8_check 5 = .ok (.aload_n 0, 1) := by decide +kernel
theorem dX8_check_6 : decode cX8_check 6 = .ok (.iconst 0, 1) := by decide +kernel
theorem dX8_check_7 : decode cX8_check 7 = .ok (.putfield 239, 3) := by decide +kernel
theorem dX8_check_10 : decode cX8_check 10 = .ok (.aload_n 0, 1) := by decide +kernel
theorem dX8_check_11 : decode cX8_check 11 = .ok (.invokevirtual 199, 3) := by decide +kernel
theorem dX8_check_14 : decode cX8_check 14 = .ok (.ifCond .ne 6, 3) := by decide +kernel
theorem dX8_check_17 : decode cX8_check 17 = .ok (.bipush (-4), 2) := by decide +kernel
theorem dX8_check_19 : decode cX8_check 19 = .ok (.ireturn, 1) := by decide +kernel
theorem dX8_check_20 : decode cX8_check 20 = .ok (.aload_n 0, 1) := by decide +kernel
theorem dX8_check_21 : decode cX8_check 21 = .ok (.invokevirtual 218, 3) := by decide +kernel
theorem dX8_check_24 : decode cX8_check 24 = .ok (.istore_n 2, 1) := by decide +kernel
theorem dX8_check_25 : decode cX8_check 25 = .ok (.aload_n 0, 1) := by decide +kernel
theorem dX8_check_26 : decode cX8_check 26 = .ok (.iload_n 2, 1) := by decide +kernel
theorem dX8_check_27 : decode cX8_check 27 = .ok (.invokevirtual 186, 3) := by decide +kernel
theorem dX8_check_30 : decode cX8_check 30 = .ok (.istore_n 3, 1) := by decide +kernel
theorem dX8_check_31 : decode cX8_check 31 = .ok (.iconst 0, 1) := by decide +kernel
theorem dX8_check_32 : decode cX8_check 32 = .ok (.istore 4, 2) := by decide +kernel
theorem dX8_check_34 : decode cX8_check 34 = .ok (.iload 4, 2) := by decide +kernel
theorem dX8_check_36 : decode cX8_check 36 = .ok (.iload_n 1, 1) := by decide +kernel
theorem dX8_check_37 : decode cX8_check 37 = .ok (.if_icmp .ge 46, 3) := by decide +kernel
theorem dX8_check_40 : decode cX8_check 40 = .ok (.iload_n 3, 1) := by decide +kernel
theorem dX8_check_41 : decode cX8_check 41 = .ok (.ifCond .eq 18, 3) := by decide +kernel
theorem dX8_check_44 : decode cX8_check 44 = .ok (.aload_n 0, 1) := by decide +kernel
theorem dX8_check_45 : decode cX8_check 45 = .ok (.iload_n 2, 1) := by decide +kernel
theorem dX8_check_46 : decode cX8_check 46 = .ok (.aload_n 0, 1) := by decide +kernel
theorem dX8_check_47 : decode cX8_check 47 = .ok (.getfield 75, 3) := by decide +kernel
theorem dX8_check_50 : decode cX8_check 50 = .ok (.iload 4, 2) := by decide +kernel
theorem dX8_check_52 : decode cX8_check 52 = .ok (.iaload, 1) := by decide +kernel
theorem dX8_check_53 : decode cX8_check 53 = .ok (.invokevirtual 202, 3) := by decide +kernel
theorem dX8_check_56 : decode cX8_check 56 = .ok (.goto 5, 3) := by decide +kernel
theorem dX8_check_59 : decode cX8_check 59 = .ok (.bipush (-9), 2) := by decide +kernel
theorem dX8_check_61 : decode cX8_check 61 = .ok (.istore 5, 2) := by decide +kernel
theorem dX8_check_63 : decode cX8_check 63 = .ok (.iload 5, 2) := by decide +kernel
theorem dX8_check_65 : decode cX8_check 65 = .ok (.ifCond .ge 9, 3) := by decide +kernel
theorem dX8_check_68 : decode cX8_check 68 = .ok (.bipush (-10), 2) := by decide +kernel
theorem dX8_check_70 : decode cX8_check 70 = .ok (.iload 4, 2) := by decide +kernel
theorem dX8_check_72 : decode cX8_check 72 = .ok (.isub, 1) := by decide +kernel
theorem dX8_check_73 : decode cX8_check 73 = .ok (.ireturn, 1) := by decide +kernel
theorem dX8_check_74 : decode cX8_check 74 = .ok (.iload 5, 2) := by decide +kernel
theorem dX8_check_76 : decode cX8_check 76 = .ok (.istore_n 2, 1) := by decide +kernel
theorem dX8_check_77 : decode cX8_check 77 = .ok (.iinc 4 1, 3) := by decide +kernel
theorem dX8_check_80 : decode cX8_check 80 = .ok (.goto (-46), 3) := by decide +kernel
theorem dX8_check_83 : decode cX8_check 83 = .ok (.iload_n 3, 1) := by decide +kernel
theorem dX8_check_84 : decode cX8_check 84 = .ok (.ifCond .eq 15, 3) := by decide +kernel
theorem dX8_check_87 : decode cX8_check 87 = .ok (.iload_n 2, 1) := by decide +kernel
theorem dX8_check_88 : decode cX8_check 88 = .ok (.aload_n 0, 1) := by decide +kernel
theorem dX8_check_89 : decode cX8_check 89 = .ok (.invokevirtual 228, 3) := by decide +kernel
theorem dX8_check_92 : decode cX8_check 92 = .ok (.if_icmp .ne 7, 3) := by decide +kernel
theorem dX8_check_95 : decode cX8_check 95 = .ok (.iconst 1, 1) := by decide +kernel
theorem dX8_check_96 : decode cX8_check 96 = .ok (.goto 7, 3) := by decide +kernel
theorem dX8_check_99 : decode cX8_check 99 = .ok (.bipush (-10), 2) := by decide +kernel
theorem dX8_check_101 : decode cX8_check 101 = .ok (.iload_n 1, 1) := by decide +kernel
theorem dX8_check_102 : decode cX8_check 102 = .ok (.isub, 1) := by decide +kernel
theorem dX8_check_103 : decode cX8_check 103 = .ok (.ireturn, 1) := by decide +kernel
theorem dX8_many_0 : decode cX8_many 0 = .ok (.iload_n 1, 1) := by decide +kernel
theorem dX8_many_1 : decode cX8_many 1 = .ok (.tableswitch 60 0 4 #[35, 40, 45, 50, 55], 35) := by decide +kernel
theorem dX8_many_36 : decode cX8_many 36 = .ok (.aload_n 0, 1) := by decide +kernel
theorem dX8_many_37 : decode cX8_many 37 = .ok (.getfield 13, 3) := by decide +kernel
theorem dX8_many_40 : decode cX8_many 40 = .ok (.ireturn, 1) := by decide +kernel
theorem dX8_many_41 : decode cX8_many 41 = .ok (.aload_n 0, 1) := by decide +kernel
theorem dX8_many_42 : decode cX8_many 42 = .ok (.getfield 17, 3) := by decide +kernel
theorem dX8_many_45 : decode cX8_many 45 = .ok (.ireturn, 1) := by decide +kernel
theorem dX8_many_46 : decode cX8_many 46 = .ok (.aload_n 0, 1) := by decide +kernel
theorem dX8_many_47 : decode cX8_many 47 = .ok (.getfield 85, 3) := by decide +kernel
theorem dX8_many_50 : decode cX8_many 50 = .ok (.ireturn, 1) := by decide +kernel
theorem dX8_many_51 : decode cX8_many 51 = .ok (.aload_n 0, 1) := by decide +kernel
theorem dX8_many_52 : decode cX8_many 52 = .ok (.getfield 94, 3) := by decide +kernel
theorem dX8_many_55 : decode cX8_many 55 = .ok (.ireturn, 1) := by decide +kernel
theorem dX8_many_56 : decode cX8_many 56 = .ok (.aload_n 0, 1) := by decide +kernel
theorem dX8_many_57 : decode cX8_many 57 = .ok (.getfield 239, 3) := by decide +kernel
theorem dX8_many_60 : decode cX8_many 60 = .ok (.ireturn, 1) := by decide +kernel
theorem dX8_many_61 : decode cX8_many 61 = .ok (.iconst (-1), 1) := by decide +kernel
theorem dX8_many_62 : decode cX8_many 62 = .ok (.ireturn, 1) := by decide +kernel
theorem dX8_finding_0 : decode cX8_finding 0 = .ok (.aload_n 0, 1) := by decide +kernel
theorem dX8_finding_1 : decode cX8_finding 1 = .ok (.getfield 78, 3) := by decide +kernel
theorem dX8_finding_4 : decode cX8_finding 4 = .ok (.ireturn, 1) := by decide +kernel
set_option maxRecDepth 20000 in
theorem ggX8_findings_X8_in : GoodIn wsX8_findings wsX8_in := goodIn_r _ [5] (by decide +kernel) (by decide +kernel)
set_option maxRecDepth 20000 in
theorem gX8_findings_X8_in : GoodIn wsX8_findings (va_wsS RX8 81 yX8_in wsX8_in) := goodIn_app (goodIn_of _ (by decide +kernel)) ggX8_findings_X8_in
theorem dX8_findings_0 : decode cX8_findings 0 = .ok (.iload_n 1, 1) := by decide +kernel
theorem dX8_findings_1 : decode cX8_findings 1 = .ok (.iconst 1, 1) := by decide +kernel
theorem dX8_findings_2 : decode cX8_findings 2 = .ok (.iconst 4, 1) := by decide +kernel
theorem dX8_findings_3 : decode cX8_findings 3 = .ok (.invokestatic 81, 3) := by decide +kernel
theorem dX8_findings_6 : decode cX8_findings 6 = .ok (.ifCond .eq 12, 3) := by decide +kernel
theorem dX8_findings_9 : decode cX8_findings 9 = .ok (.aload_n 0, 1) := by decide +kernel
theorem dX8_findings_10 : decode cX8_findings 10 = .ok (.getfield 7, 3) := by decide +kernel
theorem dX8_findings_13 : decode cX8_findings 13 = .ok (.iload_n 1, 1) := by decide +kernel
theorem dX8_findings_14 : decode cX8_findings 14 = .ok (.iaload, 1) := by decide +kernel
theorem dX8_findings_15 : decode cX8_findings 15 = .ok (.goto 4, 3) := by decide +kernel
theorem dX8_findings_18 : decode cX8_findings 18 = .ok (.iconst (-1), 1) := by decide +kernel
theorem dX8_findings_19 : decode cX8_findings 19 = .ok (.ireturn, 1) := by decide +kernel
set_option maxRecDepth 20000 in
theorem ggX8_digest_X8_leastOn : GoodIn wsX8_digest wsX8_leastOn := goodIn_r _ [17, 5, 18, 7, 19, 20, 21, 22, 23, 24, 25, 26, 27, 28, 29, 30, 31, 32, 33, 34, 35, 36, 37, 38, 39, 40, 41, 42, 43, 44, 45, 46, 47, 48, 49, 50, 51] (by decide +kernel) (by decide +kernel)
set_option maxRecDepth 20000 in
theorem gX8_digest_X8_leastOn : GoodIn wsX8_digest (wsV RX8 112 RX8 yX8_leastOn wsX8_leastOn) := goodIn_app (goodIn_of _ (by decide +kernel)) ggX8_digest_X8_leastOn
theorem dX8_digest_0 : decode cX8_digest 0 = .ok (.ldc2_w 242, 3) := by decide +kernel
theorem dX8_digest_3 : decode cX8_digest 3 = .ok (.ldc2_w 244, 3) := by decide +kernel
theorem dX8_digest_6 : decode cX8_digest 6 = .ok (.aload_n 0, 1) := by decide +kernel
theorem dX8_digest_7 : decode cX8_digest 7 = .ok (.getfield 13, 3) := by decide +kernel
theorem dX8_digest_10 : decode cX8_digest 10 = .ok (.i2l, 1) := by decide +kernel
theorem dX8_digest_11 : decode cX8_digest 11 = .ok (.ladd, 1) := by decide +kernel
theorem dX8_digest_12 : decode cX8_digest 12 = .ok (.lmul, 1) := by decide +kernel
theorem dX8_digest_13 : decode cX8_digest 13 = .ok (.aload_n 0, 1) := by decide +kernel
theorem dX8_digest_14 : decode cX8_digest 14 = .ok (.getfield 17, 3) := by decide +kernel
theorem dX8_digest_17 : decode cX8_digest 17 = .ok (.i2l, 1) := by decide +kernel
theorem dX8_digest_18 : decode cX8_digest 18 = .ok (.ladd, 1) := by decide +kernel
theorem dX8_digest_19 : decode cX8_digest 19 = .ok (.lstore_n 1, 1) := by decide +kernel
theorem dX8_digest_20 : decode cX8_digest 20 = .ok (.iconst 0, 1) := by decide +kernel
theorem dX8_digest_21 : decode cX8_digest 21 = .ok (.istore_n 3, 1) := by decide +kernel
theorem dX8_digest_22 : decode cX8_digest 22 = .ok (.iload_n 3, 1) := by decide +kernel
theorem dX8_digest_23 : decode cX8_digest 23 = .ok (.aload_n 0, 1) := by decide +kernel
theorem dX8_digest_24 : decode cX8_digest 24 = .ok (.getfield 17, 3) := by decide +kernel
theorem dX8_digest_27 : decode cX8_digest 27 = .ok (.if_icmp .ge 42, 3) := by decide +kernel
theorem dX8_digest_30 : decode cX8_digest 30 = .ok (.iconst 0, 1) := by decide +kernel
theorem dX8_digest_31 : decode cX8_digest 31 = .ok (.istore 4, 2) := by decide +kernel
theorem dX8_digest_33 : decode cX8_digest 33 = .ok (.iload 4, 2) := by decide +kernel
theorem dX8_digest_35 : decode cX8_digest 35 = .ok (.aload_n 0, 1) := by decide +kernel
theorem dX8_digest_36 : decode cX8_digest 36 = .ok (.getfield 13, 3) := by decide +kernel
theorem dX8_digest_39 : decode cX8_digest 39 = .ok (.if_icmp .ge 24, 3) := by decide +kernel
theorem dX8_digest_42 : decode cX8_digest 42 = .ok (.ldc2_w 242, 3) := by decide +kernel
theorem dX8_digest_45 : decode cX8_digest 45 = .ok (.lload_n 1, 1) := by decide +kernel
theorem dX8_digest_46 : decode cX8_digest 46 = .ok (.lmul, 1) := by decide +kernel
theorem dX8_digest_47 : decode cX8_digest 47 = .ok (.aload_n 0, 1) := by decide +kernel
theorem dX8_digest_48 : decode cX8_digest 48 = .ok (.iload 4, 2) := by decide +kernel
theorem dX8_digest_50 : decode cX8_digest 50 = .ok (.iload_n 3, 1) := by decide +kernel
theorem dX8_digest_51 : decode cX8_digest 51 = .ok (.invokevirtual 112, 3) := by decide +kernel
theorem dX8_digest_54 : decode cX8_digest 54 = .ok (.i2l, 1) := by decide +kernel
theorem dX8_digest_55 : decode cX8_digest 55 = .ok (.ladd, 1) := by decide +kernel
theorem dX8_digest_56 : decode cX8_digest 56 = .ok (.lstore_n 1, 1) := by decide +kernel
theorem dX8_digest_57 : decode cX8_digest 57 = .ok (.iinc 4 1, 3) := by decide +kernel
theorem dX8_digest_60 : decode cX8_digest 60 = .ok (.goto (-27), 3) := by decide +kernel
theorem dX8_digest_63 : decode cX8_digest 63 = .ok (.iinc 3 1, 3) := by decide +kernel
theorem dX8_digest_66 : decode cX8_digest 66 = .ok (.goto (-44), 3) := by decide +kernel
theorem dX8_digest_69 : decode cX8_digest 69 = .ok (.iconst 0, 1) := by decide +kernel
theorem dX8_digest_70 : decode cX8_digest 70 = .ok (.istore_n 3, 1) := by decide +kernel
theorem dX8_digest_71 : decode cX8_digest 71 = .ok (.iload_n 3, 1) := by decide +kernel
theorem dX8_digest_72 : decode cX8_digest 72 = .ok (.aload_n 0, 1) := by decide +kernel
theorem dX8_digest_73 : decode cX8_digest 73 = .ok (.getfield 85, 3) := by decide +kernel
theorem dX8_digest_76 : decode cX8_digest 76 = .ok (.if_icmp .ge 39, 3) := by decide +kernel
theorem dX8_digest_79 : decode cX8_digest 79 = .ok (.ldc2_w 242, 3) := by decide +kernel
theorem dX8_digest_82 : decode cX8_digest 82 = .ok (.ldc2_w 242, 3) := by decide +kernel
theorem dX8_digest_85 : decode cX8_digest 85 = .ok (.lload_n 1, 1) := by decide +kernel
theorem dX8_digest_86 : decode cX8_digest 86 = .ok (.lmul, 1) := by decide +kernel
theorem dX8_digest_87 : decode cX8_digest 87 = .ok (.aload_n 0, 1) := by decide +kernel
theorem dX8_digest_88 : decode cX8_digest 88 = .ok (.getfield 88, 3) := by decide +kernel
theorem dX8_digest_91 : decode cX8_digest 91 = .ok (.iload_n 3, 1) := by decide +kernel
theorem dX8_digest_92 : decode cX8_digest 92 = .ok (.ishr, 1) := by decide +kernel
theorem dX8_digest_93 : decode cX8_digest 93 = .ok (.iconst 1, 1) := by decide +kernel
theorem dX8_digest_94 : decode cX8_digest 94 = .ok (.iand, 1) := by decide +kernel
theorem dX8_digest_95 : decode cX8_digest 95 = .ok (.i2l, 1) := by decide +kernel
theorem dX8_digest_96 : decode cX8_digest 96 = .ok (.ladd, 1) := by decide +kernel
theorem dX8_digest_97 : decode cX8_digest 97 = .ok (.lmul, 1) := by decide +kernel
theorem dX8_digest_98 : decode cX8_digest 98 = .ok (.aload_n 0, 1) := by decide +kernel
theorem dX8_digest_99 : decode cX8_digest 99 = .ok (.getfield 91, 3) := by decide +kernel
theorem dX8_digest_102 : decode cX8_digest 102 = .ok (.iload_n 3, 1) := by decide +kernel
theorem dX8_digest_103 : decode cX8_digest 103 = .ok (.ishr, 1) := by decide +kernel
theorem dX8_digest_104 : decode cX8_digest 104 = .ok (.iconst 1, 1) := by decide +kernel
theorem dX8_digest_105 : decode cX8_digest 105 = .ok (.iand, 1) := by decide +kernel
theorem dX8_digest_106 : decode cX8_digest 106 = .ok (.i2l, 1) := by decide +kernel
theorem dX8_digest_107 : decode cX8_digest 107 = .ok (.ladd, 1) := by decide +kernel
theorem dX8_digest_108 : decode cX8_digest 108 = .ok (.lstore_n 1, 1) := by decide +kernel
theorem dX8_digest_109 : decode cX8_digest 109 = .ok (.iinc 3 1, 3) := by decide +kernel
theorem dX8_digest_112 : decode cX8_digest 112 = .ok (.goto (-41), 3) := by decide +kernel
theorem dX8_digest_115 : decode cX8_digest 115 = .ok (.iconst 0, 1) := by decide +kernel
theorem dX8_digest_116 : decode cX8_digest 116 = .ok (.istore_n 3, 1) := by decide +kernel
theorem dX8_digest_117 : decode cX8_digest 117 = .ok (.iload_n 3, 1) := by decide +kernel
theorem dX8_digest_118 : decode cX8_digest 118 = .ok (.aload_n 0, 1) := by decide +kernel
theorem dX8_digest_119 : decode cX8_digest 119 = .ok (.getfield 119, 3) := by decide +kernel
theorem dX8_digest_122 : decode cX8_digest 122 = .ok (.if_icmp .ge 23, 3) := by decide +kernel
theorem dX8_digest_125 : decode cX8_digest 125 = .ok (.ldc2_w 242, 3) := by decide +kernel
theorem dX8_digest_128 : decode cX8_digest 128 = .ok (.lload_n 1, 1) := by decide +kernel
theorem dX8_digest_129 : decode cX8_digest 129 = .ok (.lmul, 1) := by decide +kernel
theorem dX8_digest_130 : decode cX8_digest 130 = .ok (.aload_n 0, 1) := by decide +kernel
theorem dX8_digest_131 : decode cX8_digest 131 = .ok (.getfield 38, 3) := by decide +kernel
theorem dX8_digest_134 : decode cX8_digest 134 = .ok (.iload_n 3, 1) := by decide +kernel
theorem dX8_digest_135 : decode cX8_digest 135 = .ok (.iaload, 1) := by decide +kernel
theorem dX8_digest_136 : decode cX8_digest 136 = .ok (.i2l, 1) := by decide +kernel
theorem dX8_digest_137 : decode cX8_digest 137 = .ok (.ladd, 1) := by decide +kernel
theorem dX8_digest_138 : decode cX8_digest 138 = .ok (.lstore_n 1, 1) := by decide +kernel
theorem dX8_digest_139 : decode cX8_digest 139 = .ok (.iinc 3 1, 3) := by decide +kernel
theorem dX8_digest_142 : decode cX8_digest 142 = .ok (.goto (-25), 3) := by decide +kernel
theorem dX8_digest_145 : decode cX8_digest 145 = .ok (.ldc2_w 242, 3) := by decide +kernel
theorem dX8_digest_148 : decode cX8_digest 148 = .ok (.ldc2_w 242, 3) := by decide +kernel
theorem dX8_digest_151 : decode cX8_digest 151 = .ok (.lload_n 1, 1) := by decide +kernel
theorem dX8_digest_152 : decode cX8_digest 152 = .ok (.lmul, 1) := by decide +kernel
theorem dX8_digest_153 : decode cX8_digest 153 = .ok (.aload_n 0, 1) := by decide +kernel
theorem dX8_digest_154 : decode cX8_digest 154 = .ok (.getfield 125, 3) := by decide +kernel
theorem dX8_digest_157 : decode cX8_digest 157 = .ok (.i2l, 1) := by decide +kernel
theorem dX8_digest_158 : decode cX8_digest 158 = .ok (.ladd, 1) := by decide +kernel
theorem dX8_digest_159 : decode cX8_digest 159 = .ok (.lmul, 1) := by decide +kernel
theorem dX8_digest_160 : decode cX8_digest 160 = .ok (.aload_n 0, 1) := by decide +kernel
theorem dX8_digest_161 : decode cX8_digest 161 = .ok (.getfield 128, 3) := by decide +kernel
theorem dX8_digest_164 : decode cX8_digest 164 = .ok (.i2l, 1) := by decide +kernel
theorem dX8_digest_165 : decode cX8_digest 165 = .ok (.ladd, 1) := by decide +kernel
theorem dX8_digest_166 : decode cX8_digest 166 = .ok (.lstore_n 1, 1) := by decide +kernel
theorem dX8_digest_167 : decode cX8_digest 167 = .ok (.iconst 0, 1) := by decide +kernel
theorem dX8_digest_168 : decode cX8_digest 168 = .ok (.istore_n 3, 1) := by decide +kernel
theorem dX8_digest_169 : decode cX8_digest 169 = .ok (.iload_n 3, 1) := by decide +kernel
theorem dX8_digest_170 : decode cX8_digest 170 = .ok (.bipush 6, 2) := by decide +kernel
theorem dX8_digest_172 : decode cX8_digest 172 = .ok (.if_icmp .ge 23, 3) := by decide +kernel
theorem dX8_digest_175 : decode cX8_digest 175 = .ok (.ldc2_w 242, 3) := by decide +kernel
theorem dX8_digest_178 : decode cX8_digest 178 = .ok (.lload_n 1, 1) := by decide +kernel
theorem dX8_digest_179 : decode cX8_digest 179 = .ok (.lmul, 1) := by decide +kernel
theorem dX8_digest_180 : decode cX8_digest 180 = .ok (.aload_n 0, 1) := by decide +kernel
theorem dX8_digest_181 : decode cX8_digest 181 = .ok (.getfield 35, 3) := by decide +kernel
theorem dX8_digest_184 : decode cX8_digest 184 = .ok (.iload_n 3, 1) := by decide +kernel
theorem dX8_digest_185 : decode cX8_digest 185 = .ok (.iaload, 1) := by decide +kernel
theorem dX8_digest_186 : decode cX8_digest 186 = .ok (.i2l, 1) := by decide +kernel
theorem dX8_digest_187 : decode cX8_digest 187 = .ok (.ladd, 1) := by decide +kernel
theorem dX8_digest_188 : decode cX8_digest 188 = .ok (.lstore_n 1, 1) := by decide +kernel
theorem dX8_digest_189 : decode cX8_digest 189 = .ok (.iinc 3 1, 3) := by decide +kernel
theorem dX8_digest_192 : decode cX8_digest 192 = .ok (.goto (-23), 3) := by decide +kernel
theorem dX8_digest_195 : decode cX8_digest 195 = .ok (.lload_n 1, 1) := by decide +kernel
theorem dX8_digest_196 : decode cX8_digest 196 = .ok (.lreturn, 1) := by decide +kernel
