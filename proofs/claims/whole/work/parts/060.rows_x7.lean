set_option maxRecDepth 20000 in
theorem ggX7_init_X0_init : GoodIn wsX7_init wsX0_init := goodIn_r _ [36, 37, 2, 3, 38, 39, 32, 40, 41, 42, 43, 44, 80, 81, 82, 83, 84, 85, 86, 87, 88, 89, 90, 91] (by decide +kernel) (by decide +kernel)
set_option maxRecDepth 20000 in
theorem gX7_init_X0_init_n11 : GoodIn wsX7_init (wsX0_init) := ggX7_init_X0_init
set_option maxRecDepth 20000 in
theorem ggX7_init_X2_init : GoodIn wsX7_init wsX2_init := goodIn_r _ [46, 47, 2, 3, 32, 48, 49, 105, 106, 107, 108, 109] (by decide +kernel) (by decide +kernel)
set_option maxRecDepth 20000 in
theorem gX7_init_X2_init_n18 : GoodIn wsX7_init (wsX2_init) := ggX7_init_X2_init
set_option maxRecDepth 20000 in
theorem ggX7_init_X6_init : GoodIn wsX7_init wsX6_init := goodIn_r _ [51, 52, 2, 3, 32, 53, 54, 55, 110, 111, 112] (by decide +kernel) (by decide +kernel)
set_option maxRecDepth 20000 in
theorem gX7_init_X6_init_n25 : GoodIn wsX7_init (wsX6_init) := ggX7_init_X6_init
set_option maxRecDepth 20000 in
theorem ggX7_init_X1_init : GoodIn wsX7_init wsX1_init := goodIn_r _ [57, 58, 2, 3, 32, 59, 60, 61, 113, 114, 115, 116, 117] (by decide +kernel) (by decide +kernel)
set_option maxRecDepth 20000 in
theorem gX7_init_X1_init_n32 : GoodIn wsX7_init (wsX1_init) := ggX7_init_X1_init
set_option maxRecDepth 20000 in
theorem ggX7_init_X5_init : GoodIn wsX7_init wsX5_init := goodIn_r _ [63, 64, 2, 3, 32, 65, 66, 67, 68, 69, 118, 119, 120, 121, 122, 123, 124] (by decide +kernel) (by decide +kernel)
set_option maxRecDepth 20000 in
theorem gX7_init_X5_init_n39 : GoodIn wsX7_init (wsX5_init) := ggX7_init_X5_init
set_option maxRecDepth 20000 in
theorem ggX7_init_X3_init : GoodIn wsX7_init wsX3_init := goodIn_r _ [71, 72, 2, 3, 32, 73, 74, 125, 126, 127, 128] (by decide +kernel) (by decide +kernel)
set_option maxRecDepth 20000 in
theorem gX7_init_X3_init_n46 : GoodIn wsX7_init (wsX3_init) := ggX7_init_X3_init
set_option maxRecDepth 20000 in
theorem ggX7_init_X4_init : GoodIn wsX7_init wsX4_init := goodIn_r _ [76, 77, 2, 3, 78, 32, 79, 129, 130] (by decide +kernel) (by decide +kernel)
set_option maxRecDepth 20000 in
theorem gX7_init_X4_init_n53 : GoodIn wsX7_init (wsX4_init) := ggX7_init_X4_init
theorem dX7_init_0 : decode cX7_init 0 = .ok (.aload_n 0, 1) := by decide +kernel
theorem dX7_init_1 : decode cX7_init 1 = .ok (.invokespecial 3, 3) := by decide +kernel
theorem dX7_init_4 : decode cX7_init 4 = .ok (.aload_n 0, 1) := by decide +kernel
theorem dX7_init_5 : decode cX7_init 5 = .ok (.new 9, 3) := by decide +kernel
theorem dX7_init_8 : decode cX7_init 8 = .ok (.dup, 1) := by decide +kernel
theorem dX7_init_9 : decode cX7_init 9 = .ok (.invokespecial 11, 3) := by decide +kernel
theorem dX7_init_12 : decode cX7_init 12 = .ok (.putfield 12, 3) := by decide +kernel
theorem dX7_init_15 : decode cX7_init 15 = .ok (.aload_n 0, 1) := by decide +kernel
theorem dX7_init_16 : decode cX7_init 16 = .ok (.new 16, 3) := by decide +kernel
theorem dX7_init_19 : decode cX7_init 19 = .ok (.dup, 1) := by decide +kernel
theorem dX7_init_20 : decode cX7_init 20 = .ok (.invokespecial 18, 3) := by decide +kernel
theorem dX7_init_23 : decode cX7_init 23 = .ok (.putfield 19, 3) := by decide +kernel
theorem dX7_init_26 : decode cX7_init 26 = .ok (.aload_n 0, 1) := by decide +kernel
theorem dX7_init_27 : decode cX7_init 27 = .ok (.new 23, 3) := by decide +kernel
theorem dX7_init_30 : decode cX7_init 30 = .ok (.dup, 1) := by decide +kernel
theorem dX7_init_31 : decode cX7_init 31 = .ok (.invokespecial 25, 3) := by decide +kernel
theorem dX7_init_34 : decode cX7_init 34 = .ok (.putfield 26, 3) := by decide +kernel
theorem dX7_init_37 : decode cX7_init 37 = .ok (.aload_n 0, 1) := by decide +kernel
theorem dX7_init_38 : decode cX7_init 38 = .ok (.new 30, 3) := by decide +kernel
theorem dX7_init_41 : decode cX7_init 41 = .ok (.dup, 1) := by decide +kernel
theorem dX7_init_42 : decode cX7_init 42 = .ok (.invokespecial 32, 3) := by decide +kernel
theorem dX7_init_45 : decode cX7_init 45 = .ok (.putfield 33, 3) := by decide +kernel
theorem dX7_init_48 : decode cX7_init 48 = .ok (.aload_n 0, 1) := by decide +kernel
theorem dX7_init_49 : decode cX7_init 49 = .ok (.new 37, 3) := by decide +kernel
theorem dX7_init_52 : decode cX7_init 52 = .ok (.dup, 1) := by decide +kernel
theorem dX7_init_53 : decode cX7_init 53 = .ok (.invokespecial 39, 3) := by decide +kernel
theorem dX7_init_56 : decode cX7_init 56 = .ok (.putfield 40, 3) := by decide +kernel
theorem dX7_init_59 : decode cX7_init 59 = .ok (.aload_n 0, 1) := by decide +kernel
theorem dX7_init_60 : decode cX7_init 60 = .ok (.new 44, 3) := by decide +kernel
theorem dX7_init_63 : decode cX7_init 63 = .ok (.dup, 1) := by decide +kernel
theorem dX7_init_64 : decode cX7_init 64 = .ok (.invokespecial 46, 3) := by decide +kernel
theorem dX7_init_67 : decode cX7_init 67 = .ok (.putfield 47, 3) := by decide +kernel
theorem dX7_init_70 : decode cX7_init 70 = .ok (.aload_n 0, 1) := by decide +kernel
theorem dX7_init_71 : decode cX7_init 71 = .ok (.new 51, 3) := by decide +kernel
theorem dX7_init_74 : decode cX7_init 74 = .ok (.dup, 1) := by decide +kernel
theorem dX7_init_75 : decode cX7_init 75 = .ok (.invokespecial 53, 3) := by decide +kernel
theorem dX7_init_78 : decode cX7_init 78 = .ok (.putfield 54, 3) := by decide +kernel
theorem dX7_init_81 : decode cX7_init 81 = .ok (.aload_n 0, 1) := by decide +kernel
theorem dX7_init_82 : decode cX7_init 82 = .ok (.sipush 200, 3) := by decide +kernel
theorem dX7_init_85 : decode cX7_init 85 = .ok (.newarray .int, 2) := by decide +kernel
theorem dX7_init_87 : decode cX7_init 87 = .ok (.putfield 58, 3) := by decide +kernel
theorem dX7_init_90 : decode cX7_init 90 = .ok (.aload_n 0, 1) := by decide +kernel
theorem dX7_init_91 : decode cX7_init 91 = .ok (.iconst 5, 1) := by decide +kernel
theorem dX7_init_92 : decode cX7_init 92 = .ok (.newarray .int, 2) := by decide +kernel
theorem dX7_init_94 : decode cX7_init 94 = .ok (.putfield 62, 3) := by decide +kernel
theorem dX7_init_97 : decode cX7_init 97 = .ok (.return_, 1) := by decide +kernel
set_option maxRecDepth 20000 in
theorem ggX7_house_X7_isWithin : GoodIn wsX7_house wsX7_isWithin := goodIn_r _ [7] (by decide +kernel) (by decide +kernel)
set_option maxRecDepth 20000 in
theorem gX7_house_X7_isWithin : GoodIn wsX7_house (va_wsS RX7 65 yX7_isWithin wsX7_isWithin) := goodIn_app (goodIn_of _ (by decide +kernel)) ggX7_house_X7_isWithin
set_option maxRecDepth 20000 in
theorem ggX7_house_X0_raise : GoodIn wsX7_house wsX0_raise := goodIn_r _ [12, 13, 14, 15, 16, 17, 18, 19, 20, 21, 6, 22, 36, 37, 38, 39, 40, 41, 42, 43, 44, 45, 46, 47] (by decide +kernel) (by decide +kernel)
set_option maxRecDepth 20000 in
theorem gX7_house_X0_raise : GoodIn wsX7_house (wsV RX7 69 RX0 yX0_raise wsX0_raise) := goodIn_app (goodIn_of _ (by decide +kernel)) ggX7_house_X0_raise
theorem dX7_house_0 : decode cX7_house 0 = .ok (.iload_n 1, 1) := by decide +kernel
theorem dX7_house_1 : decode cX7_house 1 = .ok (.iconst 1, 1) := by decide +kernel
theorem dX7_house_2 : decode cX7_house 2 = .ok (.bipush 20, 2) := by decide +kernel
theorem dX7_house_4 : decode cX7_house 4 = .ok (.invokestatic 65, 3) := by decide +kernel
theorem dX7_house_7 : decode cX7_house 7 = .ok (.ifCond .eq 13, 3) := by decide +kernel
theorem dX7_house_10 : decode cX7_house 10 = .ok (.iload_n 2, 1) := by decide +kernel
theorem dX7_house_11 : decode cX7_house 11 = .ok (.iconst 1, 1) := by decide +kernel
theorem dX7_house_12 : decode cX7_house 12 = .ok (.bipush 20, 2) := by decide +kernel
theorem dX7_house_14 : decode cX7_house 14 = .ok (.invokestatic 65, 3) := by decide +kernel
theorem dX7_house_17 : decode cX7_house 17 = .ok (.ifCond .ne 5, 3) := by decide +kernel
theorem dX7_house_20 : decode cX7_house 20 = .ok (.iconst (-1), 1) := by decide +kernel
theorem dX7_house_21 : decode cX7_house 21 = .ok (.ireturn, 1) := by decide +kernel
theorem dX7_house_22 : decode cX7_house 22 = .ok (.aload_n 0, 1) := by decide +kernel
theorem dX7_house_23 : decode cX7_house 23 = .ok (.getfield 12, 3) := by decide +kernel
theorem dX7_house_26 : decode cX7_house 26 = .ok (.iload_n 1, 1) := by decide +kernel
theorem dX7_house_27 : decode cX7_house 27 = .ok (.iload_n 2, 1) := by decide +kernel
theorem dX7_house_28 : decode cX7_house 28 = .ok (.invokevirtual 69, 3) := by decide +kernel
theorem dX7_house_31 : decode cX7_house 31 = .ok (.aload_n 0, 1) := by decide +kernel
theorem dX7_house_32 : decode cX7_house 32 = .ok (.iconst 0, 1) := by decide +kernel
theorem dX7_house_33 : decode cX7_house 33 = .ok (.putfield 73, 3) := by decide +kernel
theorem dX7_house_36 : decode cX7_house 36 = .ok (.aload_n 0, 1) := by decide +kernel
theorem dX7_house_37 : decode cX7_house 37 = .ok (.iconst 0, 1) := by decide +kernel
theorem dX7_house_38 : decode cX7_house 38 = .ok (.putfield 77, 3) := by decide +kernel
theorem dX7_house_41 : decode cX7_house 41 = .ok (.iload_n 1, 1) := by decide +kernel
theorem dX7_house_42 : decode cX7_house 42 = .ok (.iload_n 2, 1) := by decide +kernel
theorem dX7_house_43 : decode cX7_house 43 = .ok (.imul, 1) := by decide +kernel
theorem dX7_house_44 : decode cX7_house 44 = .ok (.ireturn, 1) := by decide +kernel
set_option maxRecDepth 20000 in
theorem ggX7_thing_J6_bitCount_0f7a4 : GoodIn wsX7_thing wsJ6_bitCount_0f7a4 := goodIn_r _ [7, 8, 9, 10] (by decide +kernel) (by decide +kernel)
set_option maxRecDepth 20000 in
theorem gX7_thing_J6_bitCount_0f7a4 : GoodIn wsX7_thing (va_wsS RX7 86 yJ6_bitCount_0f7a4 wsJ6_bitCount_0f7a4) := goodIn_app (goodIn_of _ (by decide +kernel)) ggX7_thing_J6_bitCount_0f7a4
set_option maxRecDepth 20000 in
theorem ggX7_thing_X0_keep : GoodIn wsX7_thing wsX0_keep := goodIn_r _ [15, 16, 17, 18, 19, 20, 21, 22, 23, 24, 25, 26, 27, 28, 29, 30, 31, 32, 50, 51, 52, 53, 54, 55, 56, 57, 58, 59, 60, 61] (by decide +kernel) (by decide +kernel)
set_option maxRecDepth 20000 in
theorem gX7_thing_X0_keep : GoodIn wsX7_thing (wsV RX7 92 RX0 yX0_keep wsX0_keep) := goodIn_app (goodIn_of _ (by decide +kernel)) ggX7_thing_X0_keep
set_option maxRecDepth 20000 in
theorem ggX7_thing_X0_addThing : GoodIn wsX7_thing wsX0_addThing := goodIn_r _ [36, 22, 20, 50, 51, 52, 53, 54, 55, 56, 57, 58, 59, 60, 61] (by decide +kernel) (by decide +kernel)
set_option maxRecDepth 20000 in
theorem gX7_thing_X0_addThing : GoodIn wsX7_thing (wsV RX7 95 RX0 yX0_addThing wsX0_addThing) := goodIn_app (goodIn_of _ (by decide +kernel)) ggX7_thing_X0_addThing
theorem dX7_thing_0 : decode cX7_thing 0 = .ok (.aload_n 0, 1) := by decide +kernel
theorem dX7_thing_1 : decode cX7_thing 1 = .ok (.getfield 12, 3) := by decide +kernel
theorem dX7_thing_4 : decode cX7_thing 4 = .ok (.getfield 80, 3) := by decide +kernel
theorem dX7_thing_7 : decode cX7_thing 7 = .ok (.bipush 12, 2) := by decide +kernel
theorem dX7_thing_9 : decode cX7_thing 9 = .ok (.if_icmp .lt 6, 3) := by decide +kernel
theorem dX7_thing_12 : decode cX7_thing 12 = .ok (.bipush (-2), 2) := by decide +kernel
theorem dX7_thing_14 : decode cX7_thing 14 = .ok (.ireturn, 1) := by decide +kernel
theorem dX7_thing_15 : decode cX7_thing 15 = .ok (.iload_n 1, 1) := by decide +kernel
theorem dX7_thing_16 : decode cX7_thing 16 = .ok (.ifCond .eq 21, 3) := by decide +kernel
theorem dX7_thing_19 : decode cX7_thing 19 = .ok (.aload_n 0, 1) := by decide +kernel
theorem dX7_thing_20 : decode cX7_thing 20 = .ok (.getfield 12, 3) := by decide +kernel
theorem dX7_thing_23 : decode cX7_thing 23 = .ok (.getfield 83, 3) := by decide +kernel
theorem dX7_thing_26 : decode cX7_thing 26 = .ok (.invokestatic 86, 3) := by decide +kernel
theorem dX7_thing_29 : decode cX7_thing 29 = .ok (.bipush 6, 2) := by decide +kernel
theorem dX7_thing_31 : decode cX7_thing 31 = .ok (.if_icmp .lt 6, 3) := by decide +kernel
theorem dX7_thing_34 : decode cX7_thing 34 = .ok (.bipush (-2), 2) := by decide +kernel
theorem dX7_thing_36 : decode cX7_thing 36 = .ok (.ireturn, 1) := by decide +kernel
theorem dX7_thing_37 : decode cX7_thing 37 = .ok (.aload_n 0, 1) := by decide +kernel
theorem dX7_thing_38 : decode cX7_thing 38 = .ok (.getfield 12, 3) := by decide +kernel
theorem dX7_thing_41 : decode cX7_thing 41 = .ok (.invokevirtual 92, 3) := by decide +kernel
theorem dX7_thing_44 : decode cX7_thing 44 = .ok (.aload_n 0, 1) := by decide +kernel
theorem dX7_thing_45 : decode cX7_thing 45 = .ok (.getfield 12, 3) := by decide +kernel
theorem dX7_thing_48 : decode cX7_thing 48 = .ok (.iload_n 1, 1) := by decide +kernel
theorem dX7_thing_49 : decode cX7_thing 49 = .ok (.invokevirtual 95, 3) := by decide +kernel
theorem dX7_thing_52 : decode cX7_thing 52 = .ok (.ireturn, 1) := by decide +kernel
set_option maxRecDepth 20000 in
theorem ggX7_fill_X0_isThing : GoodIn wsX7_fill wsX0_isThing := goodIn_r _ [6, 7, 8, 9, 10, 63, 64, 65, 66, 67, 68, 69, 70, 71, 72, 73, 74] (by decide +kernel) (by decide +kernel)
set_option maxRecDepth 20000 in
theorem gX7_fill_X0_isThing : GoodIn wsX7_fill (wsV RX7 99 RX0 yX0_isThing wsX0_isThing) := goodIn_app (goodIn_of _ (by decide +kernel)) ggX7_fill_X0_isThing
set_option maxRecDepth 20000 in
theorem ggX7_fill_X0_isSquare : GoodIn wsX7_fill wsX0_isSquare := goodIn_r _ [14, 15, 16, 8, 9, 10, 63, 64, 65, 66, 67, 68, 69, 70, 71, 72, 73, 74] (by decide +kernel) (by decide +kernel)
set_option maxRecDepth 20000 in
theorem gX7_fill_X0_isSquare : GoodIn wsX7_fill (wsV RX7 103 RX0 yX0_isSquare wsX0_isSquare) := goodIn_app (goodIn_of _ (by decide +kernel)) ggX7_fill_X0_isSquare
set_option maxRecDepth 20000 in
theorem ggX7_fill_X7_isWithin : GoodIn wsX7_fill wsX7_isWithin := goodIn_r _ [10] (by decide +kernel) (by decide +kernel)
set_option maxRecDepth 20000 in
theorem gX7_fill_X7_isWithin : GoodIn wsX7_fill (va_wsS RX7 65 yX7_isWithin wsX7_isWithin) := goodIn_app (goodIn_of _ (by decide +kernel)) ggX7_fill_X7_isWithin
set_option maxRecDepth 20000 in
theorem ggX7_fill_X0_keep : GoodIn wsX7_fill wsX0_keep := goodIn_r _ [21, 22, 23, 24, 25, 7, 26, 27, 28, 29, 30, 31, 32, 33, 34, 35, 9, 36, 63, 64, 65, 66, 67, 68, 69, 70, 71, 72, 73, 74] (by decide +kernel) (by decide +kernel)
set_option maxRecDepth 20000 in
theorem gX7_fill_X0_keep : GoodIn wsX7_fill (wsV RX7 92 RX0 yX0_keep wsX0_keep) := goodIn_app (goodIn_of _ (by decide +kernel)) ggX7_fill_X0_keep
set_option maxRecDepth 20000 in
theorem ggX7_fill_X0_cover : GoodIn wsX7_fill wsX0_cover := goodIn_r _ [40, 15, 31, 32, 33, 34, 16, 23, 41, 42, 5, 43, 44, 9, 45, 35, 36, 63, 64, 65, 66, 67, 68, 69, 70, 71, 72, 73, 74] (by decide +kernel) (by decide +kernel)
set_option maxRecDepth 20000 in
theorem gX7_fill_X0_cover : GoodIn wsX7_fill (wsV RX7 107 RX0 yX0_cover wsX0_cover) := goodIn_app (goodIn_of _ (by decide +kernel)) ggX7_fill_X0_cover
set_option maxRecDepth 20000 in
theorem ggX7_fill_X0_squaresOf : GoodIn wsX7_fill wsX0_squaresOf := goodIn_r _ [49, 23, 63, 64, 65, 66, 67, 68, 69, 70, 71, 72, 73, 74] (by decide +kernel) (by decide +kernel)
set_option maxRecDepth 20000 in
theorem gX7_fill_X0_squaresOf : GoodIn wsX7_fill (wsV RX7 111 RX0 yX0_squaresOf wsX0_squaresOf) := goodIn_app (goodIn_of _ (by decide +kernel)) ggX7_fill_X0_squaresOf
theorem dX7_fill_0 : decode cX7_fill 0 = .ok (.aload_n 0, 1) := by decide +kernel
theorem dX7_fill_1 : decode cX7_fill 1 = .ok (.getfield 12, 3) := by decide +kernel
theorem dX7_fill_4 : decode cX7_fill 4 = .ok (.iload_n 1, 1) := by decide +kernel
theorem dX7_fill_5 : decode cX7_fill 5 = .ok (.invokevirtual 99, 3) := by decide +kernel
theorem dX7_fill_8 : decode cX7_fill 8 = .ok (.ifCond .eq 15, 3) := by decide +kernel
theorem dX7_fill_11 : decode cX7_fill 11 = .ok (.aload_n 0, 1) := by decide +kernel
theorem dX7_fill_12 : decode cX7_fill 12 = .ok (.getfield 12, 3) := by decide +kernel
theorem dX7_fill_15 : decode cX7_fill 15 = .ok (.iload_n 2, 1) := by decide +kernel
theorem dX7_fill_16 : decode cX7_fill 16 = .ok (.iload_n 3, 1) := by decide +kernel
theorem dX7_fill_17 : decode cX7_fill 17 = .ok (.invokevirtual 103, 3) := by decide +kernel
theorem dX7_fill_20 : decode cX7_fill 20 = .ok (.ifCond .ne 5, 3) := by decide +kernel
theorem dX7_fill_23 : decode cX7_fill 23 = .ok (.iconst (-1), 1) := by decide +kernel
theorem dX7_fill_24 : decode cX7_fill 24 = .ok (.ireturn, 1) := by decide +kernel
theorem dX7_fill_25 : decode cX7_fill 25 = .ok (.iload 4, 2) := by decide +kernel
theorem dX7_fill_27 : decode cX7_fill 27 = .ok (.iconst 1, 1) := by decide +kernel
theorem dX7_fill_28 : decode cX7_fill 28 = .ok (.bipush 20, 2) := by decide +kernel
theorem dX7_fill_30 : decode cX7_fill 30 = .ok (.invokestatic 65, 3) := by decide +kernel
theorem dX7_fill_33 : decode cX7_fill 33 = .ok (.ifCond .eq 14, 3) := by decide +kernel
theorem dX7_fill_36 : decode cX7_fill 36 = .ok (.iload 5, 2) := by decide +kernel
theorem dX7_fill_38 : decode cX7_fill 38 = .ok (.iconst 1, 1) := by decide +kernel
theorem dX7_fill_39 : decode cX7_fill 39 = .ok (.bipush 20, 2) := by decide +kernel
theorem dX7_fill_41 : decode cX7_fill 41 = .ok (.invokestatic 65, 3) := by decide +kernel
theorem dX7_fill_44 : decode cX7_fill 44 = .ok (.ifCond .ne 5, 3) := by decide +kernel
theorem dX7_fill_47 : decode cX7_fill 47 = .ok (.iconst (-1), 1) := by decide +kernel
theorem dX7_fill_48 : decode cX7_fill 48 = .ok (.ireturn, 1) := by decide +kernel
theorem dX7_fill_49 : decode cX7_fill 49 = .ok (.aload_n 0, 1) := by decide +kernel
theorem dX7_fill_50 : decode cX7_fill 50 = .ok (.getfield 12, 3) := by decide +kernel
theorem dX7_fill_53 : decode cX7_fill 53 = .ok (.invokevirtual 92, 3) := by decide +kernel
theorem dX7_fill_56 : decode cX7_fill 56 = .ok (.aload_n 0, 1) := by decide +kernel
theorem dX7_fill_57 : decode cX7_fill 57 = .ok (.getfield 12, 3) := by decide +kernel
theorem dX7_fill_60 : decode cX7_fill 60 = .ok (.iload_n 1, 1) := by decide +kernel
theorem dX7_fill_61 : decode cX7_fill 61 = .ok (.iload_n 2, 1) := by decide +kernel
theorem dX7_fill_62 : decode cX7_fill 62 = .ok (.iload_n 3, 1) := by decide +kernel
theorem dX7_fill_63 : decode cX7_fill 63 = .ok (.iload 4, 2) := by decide +kernel
theorem dX7_fill_65 : decode cX7_fill 65 = .ok (.iload 5, 2) := by decide +kernel
theorem dX7_fill_67 : decode cX7_fill 67 = .ok (.invokevirtual 107, 3) := by decide +kernel
theorem dX7_fill_70 : decode cX7_fill 70 = .ok (.aload_n 0, 1) := by decide +kernel
theorem dX7_fill_71 : decode cX7_fill 71 = .ok (.getfield 12, 3) := by decide +kernel
theorem dX7_fill_74 : decode cX7_fill 74 = .ok (.iload_n 1, 1) := by decide +kernel
theorem dX7_fill_75 : decode cX7_fill 75 = .ok (.invokevirtual 111, 3) := by decide +kernel
theorem dX7_fill_78 : decode cX7_fill 78 = .ok (.ireturn, 1) := by decide +kernel
set_option maxRecDepth 20000 in
theorem ggX7_clear_X0_isThing : GoodIn wsX7_clear wsX0_isThing := goodIn_r _ [6, 7, 8, 9, 10, 58, 59, 60, 61, 62, 63, 64, 65, 66, 67, 68, 69] (by decide +kernel) (by decide +kernel)
set_option maxRecDepth 20000 in
theorem gX7_clear_X0_isThing : GoodIn wsX7_clear (wsV RX7 99 RX0 yX0_isThing wsX0_isThing) := goodIn_app (goodIn_of _ (by decide +kernel)) ggX7_clear_X0_isThing
set_option maxRecDepth 20000 in
theorem ggX7_clear_X0_isSquare : GoodIn wsX7_clear wsX0_isSquare := goodIn_r _ [14, 15, 16, 8, 9, 10, 58, 59, 60, 61, 62, 63, 64, 65, 66, 67, 68, 69] (by decide +kernel) (by decide +kernel)
set_option maxRecDepth 20000 in
theorem gX7_clear_X0_isSquare : GoodIn wsX7_clear (wsV RX7 103 RX0 yX0_isSquare wsX0_isSquare) := goodIn_app (goodIn_of _ (by decide +kernel)) ggX7_clear_X0_isSquare
set_option maxRecDepth 20000 in
theorem ggX7_clear_X0_keep : GoodIn wsX7_clear wsX0_keep := goodIn_r _ [20, 21, 22, 23, 24, 7, 25, 26, 27, 28, 29, 30, 31, 32, 33, 34, 9, 35, 58, 59, 60, 61, 62, 63, 64, 65, 66, 67, 68, 69] (by decide +kernel) (by decide +kernel)
set_option maxRecDepth 20000 in
theorem gX7_clear_X0_keep : GoodIn wsX7_clear (wsV RX7 92 RX0 yX0_keep wsX0_keep) := goodIn_app (goodIn_of _ (by decide +kernel)) ggX7_clear_X0_keep
set_option maxRecDepth 20000 in
theorem ggX7_clear_X0_bare : GoodIn wsX7_clear wsX0_bare := goodIn_r _ [39, 22, 40, 41, 5, 42, 43, 9, 44, 34, 35, 58, 59, 60, 61, 62, 63, 64, 65, 66, 67, 68, 69] (by decide +kernel) (by decide +kernel)
set_option maxRecDepth 20000 in
theorem gX7_clear_X0_bare : GoodIn wsX7_clear (wsV RX7 114 RX0 yX0_bare wsX0_bare) := goodIn_app (goodIn_of _ (by decide +kernel)) ggX7_clear_X0_bare
theorem dX7_clear_0 : decode cX7_clear 0 = .ok (.aload_n 0, 1) := by decide +kernel
theorem dX7_clear_1 : decode cX7_clear 1 = .ok (.getfield 12, 3) := by decide +kernel
theorem dX7_clear_4 : decode cX7_clear 4 = .ok (.iload_n 1, 1) := by decide +kernel
theorem dX7_clear_5 : decode cX7_clear 5 = .ok (.invokevirtual 99, 3) := by decide +kernel
theorem dX7_clear_8 : decode cX7_clear 8 = .ok (.ifCond .eq 15, 3) := by decide +kernel
theorem dX7_clear_11 : decode cX7_clear 11 = .ok (.aload_n 0, 1) := by decide +kernel
theorem dX7_clear_12 : decode cX7_clear 12 = .ok (.getfield 12, 3) := by decide +kernel
theorem dX7_clear_15 : decode cX7_clear 15 = .ok (.iload_n 2, 1) := by decide +kernel
theorem dX7_clear_16 : decode cX7_clear 16 = .ok (.iload_n 3, 1) := by decide +kernel
theorem dX7_clear_17 : decode cX7_clear 17 = .ok (.invokevirtual 103, 3) := by decide +kernel
theorem dX7_clear_20 : decode cX7_clear 20 = .ok (.ifCond .ne 5, 3) := by decide +kernel
theorem dX7_clear_23 : decode cX7_clear 23 = .ok (.iconst (-1), 1) := by decide +kernel
theorem dX7_clear_24 : decode cX7_clear 24 = .ok (.ireturn, 1) := by decide +kernel
theorem dX7_clear_25 : decode cX7_clear 25 = .ok (.aload_n 0, 1) := by decide +kernel
theorem dX7_clear_26 : decode cX7_clear 26 = .ok (.getfield 12, 3) := by decide +kernel
theorem dX7_clear_29 : decode cX7_clear 29 = .ok (.invokevirtual 92, 3) := by decide +kernel
theorem dX7_clear_32 : decode cX7_clear 32 = .ok (.aload_n 0, 1) := by decide +kernel
theorem dX7_clear_33 : decode cX7_clear 33 = .ok (.getfield 12, 3) := by decide +kernel
theorem dX7_clear_36 : decode cX7_clear 36 = .ok (.iload_n 1, 1) := by decide +kernel
theorem dX7_clear_37 : decode cX7_clear 37 = .ok (.iload_n 2, 1) := by decide +kernel
theorem dX7_clear_38 : decode cX7_clear 38 = .ok (.iload_n 3, 1) := by decide +kernel
theorem dX7_clear_39 : decode cX7_clear 39 = .ok (.invokevirtual 114, 3) := by decide +kernel
theorem dX7_clear_42 : decode cX7_clear 42 = .ok (.ifCond .eq 7, 3) := by decide +kernel
theorem dX7_clear_45 : decode cX7_clear 45 = .ok (.iconst 1, 1) := by decide +kernel
theorem dX7_clear_46 : decode cX7_clear 46 = .ok (.goto 4, 3) := by decide +kernel
theorem dX7_clear_49 : decode cX7_clear 49 = .ok (.iconst 0, 1) := by decide +kernel
theorem dX7_clear_50 : decode cX7_clear 50 = .ok (.ireturn, 1) := by decide +kernel
set_option maxRecDepth 20000 in
theorem ggX7_out_X0_isThing : GoodIn wsX7_out wsX0_isThing := goodIn_r _ [6, 7, 8, 9, 10, 51, 52, 53, 54, 55, 56, 57, 58, 59, 60, 61, 62] (by decide +kernel) (by decide +kernel)
set_option maxRecDepth 20000 in
theorem gX7_out_X0_isThing : GoodIn wsX7_out (wsV RX7 99 RX0 yX0_isThing wsX0_isThing) := goodIn_app (goodIn_of _ (by decide +kernel)) ggX7_out_X0_isThing
set_option maxRecDepth 20000 in
theorem ggX7_out_X0_isDoor : GoodIn wsX7_out wsX0_isDoor := goodIn_r _ [14, 15, 51, 52, 53, 54, 55, 56, 57, 58, 59, 60, 61, 62] (by decide +kernel) (by decide +kernel)
set_option maxRecDepth 20000 in
theorem gX7_out_X0_isDoor : GoodIn wsX7_out (wsV RX7 117 RX0 yX0_isDoor wsX0_isDoor) := goodIn_app (goodIn_of _ (by decide +kernel)) ggX7_out_X0_isDoor
set_option maxRecDepth 20000 in
theorem ggX7_out_X0_keep : GoodIn wsX7_out wsX0_keep := goodIn_r _ [19, 20, 21, 22, 23, 7, 24, 15, 25, 26, 27, 28, 29, 30, 31, 32, 9, 33, 51, 52, 53, 54, 55, 56, 57, 58, 59, 60, 61, 62] (by decide +kernel) (by decide +kernel)
set_option maxRecDepth 20000 in
theorem gX7_out_X0_keep : GoodIn wsX7_out (wsV RX7 92 RX0 yX0_keep wsX0_keep) := goodIn_app (goodIn_of _ (by decide +kernel)) ggX7_out_X0_keep
set_option maxRecDepth 20000 in
theorem ggX7_out_X0_putOut : GoodIn wsX7_out wsX0_putOut := goodIn_r _ [37, 26, 51, 52, 53, 54, 55, 56, 57, 58, 59, 60, 61, 62] (by decide +kernel) (by decide +kernel)
set_option maxRecDepth 20000 in
theorem gX7_out_X0_putOut : GoodIn wsX7_out (wsV RX7 120 RX0 yX0_putOut wsX0_putOut) := goodIn_app (goodIn_of _ (by decide +kernel)) ggX7_out_X0_putOut
theorem dX7_out_0 : decode cX7_out 0 = .ok (.aload_n 0, 1) := by decide +kernel
theorem dX7_out_1 : decode cX7_out 1 = .ok (.getfield 12, 3) := by decide +kernel
theorem dX7_out_4 : decode cX7_out 4 = .ok (.iload_n 1, 1) := by decide +kernel
theorem dX7_out_5 : decode cX7_out 5 = .ok (.invokevirtual 99, 3) := by decide +kernel
theorem dX7_out_8 : decode cX7_out 8 = .ok (.ifCond .ne 5, 3) := by decide +kernel
theorem dX7_out_11 : decode cX7_out 11 = .ok (.iconst (-1), 1) := by decide +kernel
theorem dX7_out_12 : decode cX7_out 12 = .ok (.ireturn, 1) := by decide +kernel
theorem dX7_out_13 : decode cX7_out 13 = .ok (.aload_n 0, 1) := by decide +kernel
theorem dX7_out_14 : decode cX7_out 14 = .ok (.getfield 12, 3) := by decide +kernel
theorem dX7_out_17 : decode cX7_out 17 = .ok (.iload_n 1, 1) := by decide +kernel
theorem dX7_out_18 : decode cX7_out 18 = .ok (.invokevirtual 117, 3) := by decide +kernel
theorem dX7_out_21 : decode cX7_out 21 = .ok (.ifCond .ne 6, 3) := by decide +kernel
theorem dX7_out_24 : decode cX7_out 24 = .ok (.bipush (-4), 2) := by decide +kernel
theorem dX7_out_26 : decode cX7_out 26 = .ok (.ireturn, 1) := by decide +kernel
theorem dX7_out_27 : decode cX7_out 27 = .ok (.aload_n 0, 1) := by decide +kernel
theorem dX7_out_28 : decode cX7_out 28 = .ok (.getfield 12, 3) := by decide +kernel
theorem dX7_out_31 : decode cX7_out 31 = .ok (.invokevirtual 92, 3) := by decide +kernel
theorem dX7_out_34 : decode cX7_out 34 = .ok (.aload_n 0, 1) := by decide +kernel
theorem dX7_out_35 : decode cX7_out 35 = .ok (.getfield 12, 3) := by decide +kernel
theorem dX7_out_38 : decode cX7_out 38 = .ok (.iload_n 1, 1) := by decide +kernel
theorem dX7_out_39 : decode cX7_out 39 = .ok (.iload_n 2, 1) := by decide +kernel
theorem dX7_out_40 : decode cX7_out 40 = .ok (.invokevirtual 120, 3) := by decide +kernel
theorem dX7_out_43 : decode cX7_out 43 = .ok (.ifCond .eq 7, 3) := by decide +kernel
theorem dX7_out_46 : decode cX7_out 46 = .ok (.iconst 1, 1) := by decide +kernel
theorem dX7_out_47 : decode cX7_out 47 = .ok (.goto 4, 3) := by decide +kernel
theorem dX7_out_50 : decode cX7_out 50 = .ok (.iconst 0, 1) := by decide +kernel
theorem dX7_out_51 : decode cX7_out 51 = .ok (.ireturn, 1) := by decide +kernel
set_option maxRecDepth 20000 in
theorem ggX7_undo_X0_goBack : GoodIn wsX7_undo wsX0_goBack := goodIn_r _ [7, 8, 9, 10, 11, 12, 13, 14, 15, 16, 17, 18, 19, 20, 34, 35, 36, 37, 38, 39, 40, 41, 42, 43, 44, 45] (by decide +kernel) (by decide +kernel)
set_option maxRecDepth 20000 in
theorem gX7_undo_X0_goBack : GoodIn wsX7_undo (wsV RX7 127 RX0 yX0_goBack wsX0_goBack) := goodIn_app (goodIn_of _ (by decide +kernel)) ggX7_undo_X0_goBack
theorem dX7_undo_0 : decode cX7_undo 0 = .ok (.aload_n 0, 1) := by decide +kernel
theorem dX7_undo_1 : decode cX7_undo 1 = .ok (.getfield 12, 3) := by decide +kernel
theorem dX7_undo_4 : decode cX7_undo 4 = .ok (.getfield 124, 3) := by decide +kernel
theorem dX7_undo_7 : decode cX7_undo 7 = .ok (.ifCond .gt 6, 3) := by decide +kernel
theorem dX7_undo_10 : decode cX7_undo 10 = .ok (.bipush (-4), 2) := by decide +kernel
theorem dX7_undo_12 : decode cX7_undo 12 = .ok (.ireturn, 1) := by decide +kernel
theorem dX7_undo_13 : decode cX7_undo 13 = .ok (.aload_n 0, 1) := by decide +kernel
theorem dX7_undo_14 : decode cX7_undo 14 = .ok (.getfield 12, 3) := by decide +kernel
theorem dX7_undo_17 : decode cX7_undo 17 = .ok (.invokevirtual 127, 3) := by decide +kernel
theorem dX7_undo_20 : decode cX7_undo 20 = .ok (.aload_n 0, 1) := by decide +kernel
theorem dX7_undo_21 : decode cX7_undo 21 = .ok (.getfield 12, 3) := by decide +kernel
theorem dX7_undo_24 : decode cX7_undo 24 = .ok (.getfield 124, 3) := by decide +kernel
theorem dX7_undo_27 : decode cX7_undo 27 = .ok (.ireturn, 1) := by decide +kernel
set_option maxRecDepth 20000 in
theorem ggX7_open_X0_isSquare : GoodIn wsX7_open wsX0_isSquare := goodIn_r _ [6, 7, 8, 9, 10, 11, 37, 38, 39, 40, 41, 42, 43, 44, 45, 46, 47, 48] (by decide +kernel) (by decide +kernel)
set_option maxRecDepth 20000 in
theorem gX7_open_X0_isSquare : GoodIn wsX7_open (wsV RX7 103 RX0 yX0_isSquare wsX0_isSquare) := goodIn_app (goodIn_of _ (by decide +kernel)) ggX7_open_X0_isSquare
set_option maxRecDepth 20000 in
theorem ggX7_open_X0_thingsOn : GoodIn wsX7_open wsX0_thingsOn := goodIn_r _ [15, 16, 17, 18, 3, 4, 5, 6, 7, 8, 9, 10, 11, 19, 20, 21, 22, 23, 37, 38, 39, 40, 41, 42, 43, 44, 45, 46, 47, 48] (by decide +kernel) (by decide +kernel)
set_option maxRecDepth 20000 in
theorem gX7_open_X0_thingsOn : GoodIn wsX7_open (wsV RX7 130 RX0 yX0_thingsOn wsX0_thingsOn) := goodIn_app (goodIn_of _ (by decide +kernel)) ggX7_open_X0_thingsOn
theorem dX7_open_0 : decode cX7_open 0 = .ok (.aload_n 0, 1) := by decide +kernel
theorem dX7_open_1 : decode cX7_open 1 = .ok (.getfield 12, 3) := by decide +kernel
theorem dX7_open_4 : decode cX7_open 4 = .ok (.iload_n 1, 1) := by decide +kernel
theorem dX7_open_5 : decode cX7_open 5 = .ok (.iload_n 2, 1) := by decide +kernel
theorem dX7_open_6 : decode cX7_open 6 = .ok (.invokevirtual 103, 3) := by decide +kernel
theorem dX7_open_9 : decode cX7_open 9 = .ok (.ifCond .ne 5, 3) := by decide +kernel
theorem dX7_open_12 : decode cX7_open 12 = .ok (.iconst (-1), 1) := by decide +kernel
theorem dX7_open_13 : decode cX7_open 13 = .ok (.ireturn, 1) := by decide +kernel
theorem dX7_open_14 : decode cX7_open 14 = .ok (.aload_n 0, 1) := by decide +kernel
theorem dX7_open_15 : decode cX7_open 15 = .ok (.getfield 12, 3) := by decide +kernel
theorem dX7_open_18 : decode cX7_open 18 = .ok (.iload_n 1, 1) := by decide +kernel
theorem dX7_open_19 : decode cX7_open 19 = .ok (.iload_n 2, 1) := by decide +kernel
theorem dX7_open_20 : decode cX7_open 20 = .ok (.invokevirtual 130, 3) := by decide +kernel
theorem dX7_open_23 : decode cX7_open 23 = .ok (.ifCond .ne 7, 3) := by decide +kernel
theorem dX7_open_26 : decode cX7_open 26 = .ok (.iconst 1, 1) := by decide +kernel
theorem dX7_open_27 : decode cX7_open 27 = .ok (.goto 4, 3) := by decide +kernel
theorem dX7_open_30 : decode cX7_open 30 = .ok (.iconst 0, 1) := by decide +kernel
theorem dX7_open_31 : decode cX7_open 31 = .ok (.ireturn, 1) := by decide +kernel
set_option maxRecDepth 20000 in
theorem ggX7_on_X0_isSquare : GoodIn wsX7_on wsX0_isSquare := goodIn_r _ [6, 7, 8, 9, 10, 11, 40, 41, 42, 43, 44, 45, 46, 47, 48, 49, 50, 51] (by decide +kernel) (by decide +kernel)
set_option maxRecDepth 20000 in
theorem gX7_on_X0_isSquare : GoodIn wsX7_on (wsV RX7 103 RX0 yX0_isSquare wsX0_isSquare) := goodIn_app (goodIn_of _ (by decide +kernel)) ggX7_on_X0_isSquare
set_option maxRecDepth 20000 in
theorem ggX7_on_X0_thingsOn : GoodIn wsX7_on wsX0_thingsOn := goodIn_r _ [15, 16, 17, 18, 3, 4, 5, 6, 7, 8, 9, 10, 11, 19, 20, 21, 22, 23, 40, 41, 42, 43, 44, 45, 46, 47, 48, 49, 50, 51] (by decide +kernel) (by decide +kernel)
set_option maxRecDepth 20000 in
theorem gX7_on_X0_thingsOn : GoodIn wsX7_on (wsV RX7 130 RX0 yX0_thingsOn wsX0_thingsOn) := goodIn_app (goodIn_of _ (by decide +kernel)) ggX7_on_X0_thingsOn
set_option maxRecDepth 20000 in
theorem ggX7_on_X7_leastOf : GoodIn wsX7_on wsX7_leastOf := goodIn_r _ [26] (by decide +kernel) (by decide +kernel)
set_option maxRecDepth 20000 in
theorem gX7_on_X7_leastOf : GoodIn wsX7_on (va_wsS RX7 134 yX7_leastOf wsX7_leastOf) := goodIn_app (goodIn_of _ (by decide +kernel)) ggX7_on_X7_leastOf
theorem dX7_on_0 : decode cX7_on 0 = .ok (.aload_n 0, 1) := by decide +kernel
theorem dX7_on_1 : decode cX7_on 1 = .ok (.getfield 12, 3) := by decide +kernel
theorem dX7_on_4 : decode cX7_on 4 = .ok (.iload_n 1, 1) := by decide +kernel
theorem dX7_on_5 : decode cX7_on 5 = .ok (.iload_n 2, 1) := by decide +kernel
theorem dX7_on_6 : decode cX7_on 6 = .ok (.invokevirtual 103, 3) := by decide +kernel
theorem dX7_on_9 : decode cX7_on 9 = .ok (.ifCond .ne 5, 3) := by decide +kernel
theorem dX7_on_12 : decode cX7_on 12 = .ok (.iconst (-1), 1) := by decide +kernel
theorem dX7_on_13 : decode cX7_on 13 = .ok (.ireturn, 1) := by decide +kernel
theorem dX7_on_14 : decode cX7_on 14 = .ok (.aload_n 0, 1) := by decide +kernel
theorem dX7_on_15 : decode cX7_on 15 = .ok (.getfield 12, 3) := by decide +kernel
theorem dX7_on_18 : decode cX7_on 18 = .ok (.iload_n 1, 1) := by decide +kernel
theorem dX7_on_19 : decode cX7_on 19 = .ok (.iload_n 2, 1) := by decide +kernel
theorem dX7_on_20 : decode cX7_on 20 = .ok (.invokevirtual 130, 3) := by decide +kernel
theorem dX7_on_23 : decode cX7_on 23 = .ok (.invokestatic 134, 3) := by decide +kernel
theorem dX7_on_26 : decode cX7_on 26 = .ok (.ireturn, 1) := by decide +kernel
set_option maxRecDepth 20000 in
theorem ggX7_rows_X7_find : GoodIn wsX7_rows wsX7_find := goodIn_r _ [6, 7, 8, 9, 10, 5, 11, 12, 13, 14, 24, 25, 26, 27, 28, 29, 30, 31, 32, 33, 34, 35, 36] (by decide +kernel) (by decide +kernel)
set_option maxRecDepth 20000 in
theorem gX7_rows_X7_find : GoodIn wsX7_rows (wsV RX7 137 RX7 yX7_find wsX7_find) := goodIn_app (goodIn_of _ (by decide +kernel)) ggX7_rows_X7_find
set_option maxRecDepth 20000 in
theorem ggX7_rows_X2_startOver : GoodIn wsX7_rows wsX2_startOver := goodIn_r _ [19, 20, 21, 22, 5, 23, 37, 38, 39, 40, 41] (by decide +kernel) (by decide +kernel)
set_option maxRecDepth 20000 in
theorem gX7_rows_X2_startOver : GoodIn wsX7_rows (wsV RX7 140 RX2 yX2_startOver wsX2_startOver) := goodIn_app (goodIn_of _ (by decide +kernel)) ggX7_rows_X2_startOver
theorem dX7_rows_0 : decode cX7_rows 0 = .ok (.iload_n 1, 1) := by decide +kernel
theorem dX7_rows_1 : decode cX7_rows 1 = .ok (.bipush 6, 2) := by decide +kernel
theorem dX7_rows_3 : decode cX7_rows 3 = .ok (.if_icmp .le 5, 3) := by decide +kernel
theorem dX7_rows_6 : decode cX7_rows 6 = .ok (.iconst (-1), 1) := by decide +kernel
theorem dX7_rows_7 : decode cX7_rows 7 = .ok (.ireturn, 1) := by decide +kernel
theorem dX7_rows_8 : decode cX7_rows 8 = .ok (.iload_n 1, 1) := by decide +kernel
theorem dX7_rows_9 : decode cX7_rows 9 = .ok (.ifCond .ge 9, 3) := by decide +kernel
theorem dX7_rows_12 : decode cX7_rows 12 = .ok (.aload_n 0, 1) := by decide +kernel
theorem dX7_rows_13 : decode cX7_rows 13 = .ok (.iconst 4, 1) := by decide +kernel
theorem dX7_rows_14 : decode cX7_rows 14 = .ok (.invokevirtual 137, 3) := by decide +kernel
theorem dX7_rows_17 : decode cX7_rows 17 = .ok (.ireturn, 1) := by decide +kernel
theorem dX7_rows_18 : decode cX7_rows 18 = .ok (.aload_n 0, 1) := by decide +kernel
theorem dX7_rows_19 : decode cX7_rows 19 = .ok (.getfield 19, 3) := by decide +kernel
theorem dX7_rows_22 : decode cX7_rows 22 = .ok (.iload_n 1, 1) := by decide +kernel
theorem dX7_rows_23 : decode cX7_rows 23 = .ok (.invokevirtual 140, 3) := by decide +kernel
theorem dX7_rows_26 : decode cX7_rows 26 = .ok (.iload_n 1, 1) := by decide +kernel
theorem dX7_rows_27 : decode cX7_rows 27 = .ok (.ireturn, 1) := by decide +kernel
set_option maxRecDepth 20000 in
theorem ggX7_row_X7_isWithin : GoodIn wsX7_row wsX7_isWithin := goodIn_r _ [5] (by decide +kernel) (by decide +kernel)
set_option maxRecDepth 20000 in
theorem gX7_row_X7_isWithin : GoodIn wsX7_row (va_wsS RX7 65 yX7_isWithin wsX7_isWithin) := goodIn_app (goodIn_of _ (by decide +kernel)) ggX7_row_X7_isWithin
set_option maxRecDepth 20000 in
theorem ggX7_row_X2_isRow : GoodIn wsX7_row wsX2_isRow := goodIn_r _ [10, 11, 3, 4, 5, 42, 43, 44, 45, 46] (by decide +kernel) (by decide +kernel)
set_option maxRecDepth 20000 in
theorem gX7_row_X2_isRow : GoodIn wsX7_row (wsV RX7 144 RX2 yX2_isRow wsX2_isRow) := goodIn_app (goodIn_of _ (by decide +kernel)) ggX7_row_X2_isRow
set_option maxRecDepth 20000 in
theorem ggX7_row_X7_find : GoodIn wsX7_row wsX7_find := goodIn_r _ [15, 16, 17, 18, 19, 4, 20, 21, 22, 23, 29, 30, 31, 32, 33, 34, 35, 36, 37, 38, 39, 40, 41] (by decide +kernel) (by decide +kernel)
set_option maxRecDepth 20000 in
theorem gX7_row_X7_find : GoodIn wsX7_row (wsV RX7 137 RX7 yX7_find wsX7_find) := goodIn_app (goodIn_of _ (by decide +kernel)) ggX7_row_X7_find
set_option maxRecDepth 20000 in
theorem ggX7_row_X2_setBits : GoodIn wsX7_row wsX2_setBits := goodIn_r _ [27, 28, 22, 4, 23, 42, 43, 44, 45, 46] (by decide +kernel) (by decide +kernel)
set_option maxRecDepth 20000 in
theorem gX7_row_X2_setBits : GoodIn wsX7_row (wsV RX7 147 RX2 yX2_setBits wsX2_setBits) := goodIn_app (goodIn_of _ (by decide +kernel)) ggX7_row_X2_setBits
theorem dX7_row_0 : decode cX7_row 0 = .ok (.iload_n 2, 1) := by decide +kernel
theorem dX7_row_1 : decode cX7_row 1 = .ok (.iconst 0, 1) := by decide +kernel
theorem dX7_row_2 : decode cX7_row 2 = .ok (.bipush 63, 2) := by decide +kernel
theorem dX7_row_4 : decode cX7_row 4 = .ok (.invokestatic 65, 3) := by decide +kernel
theorem dX7_row_7 : decode cX7_row 7 = .ok (.ifCond .ne 5, 3) := by decide +kernel
theorem dX7_row_10 : decode cX7_row 10 = .ok (.iconst (-1), 1) := by decide +kernel
theorem dX7_row_11 : decode cX7_row 11 = .ok (.ireturn, 1) := by decide +kernel
theorem dX7_row_12 : decode cX7_row 12 = .ok (.aload_n 0, 1) := by decide +kernel
theorem dX7_row_13 : decode cX7_row 13 = .ok (.getfield 19, 3) := by decide +kernel
theorem dX7_row_16 : decode cX7_row 16 = .ok (.iload_n 1, 1) := by decide +kernel
theorem dX7_row_17 : decode cX7_row 17 = .ok (.invokevirtual 144, 3) := by decide +kernel
theorem dX7_row_20 : decode cX7_row 20 = .ok (.ifCond .ne 9, 3) := by decide +kernel
theorem dX7_row_23 : decode cX7_row 23 = .ok (.aload_n 0, 1) := by decide +kernel
theorem dX7_row_24 : decode cX7_row 24 = .ok (.iconst 2, 1) := by decide +kernel
theorem dX7_row_25 : decode cX7_row 25 = .ok (.invokevirtual 137, 3) := by decide +kernel
theorem dX7_row_28 : decode cX7_row 28 = .ok (.ireturn, 1) := by decide +kernel
theorem dX7_row_29 : decode cX7_row 29 = .ok (.aload_n 0, 1) := by decide +kernel
theorem dX7_row_30 : decode cX7_row 30 = .ok (.getfield 19, 3) := by decide +kernel
theorem dX7_row_33 : decode cX7_row 33 = .ok (.iload_n 1, 1) := by decide +kernel
theorem dX7_row_34 : decode cX7_row 34 = .ok (.iload_n 2, 1) := by decide +kernel
theorem dX7_row_35 : decode cX7_row 35 = .ok (.invokevirtual 147, 3) := by decide +kernel
theorem dX7_row_38 : decode cX7_row 38 = .ok (.iconst 1, 1) := by decide +kernel
theorem dX7_row_39 : decode cX7_row 39 = .ok (.ireturn, 1) := by decide +kernel
set_option maxRecDepth 20000 in
theorem ggX7_tear_X2_isRow : GoodIn wsX7_tear wsX2_isRow := goodIn_r _ [6, 7, 8, 9, 10, 45, 46, 47, 48, 49] (by decide +kernel) (by decide +kernel)
set_option maxRecDepth 20000 in
theorem gX7_tear_X2_isRow : GoodIn wsX7_tear (wsV RX7 144 RX2 yX2_isRow wsX2_isRow) := goodIn_app (goodIn_of _ (by decide +kernel)) ggX7_tear_X2_isRow
set_option maxRecDepth 20000 in
theorem ggX7_tear_X7_find : GoodIn wsX7_tear wsX7_find := goodIn_r _ [14, 15, 16, 17, 18, 9, 19, 20, 21, 22, 32, 33, 34, 35, 36, 37, 38, 39, 40, 41, 42, 43, 44] (by decide +kernel) (by decide +kernel)
set_option maxRecDepth 20000 in
theorem gX7_tear_X7_find : GoodIn wsX7_tear (wsV RX7 137 RX7 yX7_find wsX7_find) := goodIn_app (goodIn_of _ (by decide +kernel)) ggX7_tear_X7_find
set_option maxRecDepth 20000 in
theorem ggX7_tear_X2_bitsOf : GoodIn wsX7_tear wsX2_bitsOf := goodIn_r _ [26, 27, 18, 9, 19, 45, 46, 47, 48, 49] (by decide +kernel) (by decide +kernel)
set_option maxRecDepth 20000 in
theorem gX7_tear_X2_bitsOf : GoodIn wsX7_tear (wsV RX7 150 RX2 yX2_bitsOf wsX2_bitsOf) := goodIn_app (goodIn_of _ (by decide +kernel)) ggX7_tear_X2_bitsOf
set_option maxRecDepth 20000 in
theorem ggX7_tear_X2_setBits : GoodIn wsX7_tear wsX2_setBits := goodIn_r _ [31, 27, 21, 9, 22, 45, 46, 47, 48, 49] (by decide +kernel) (by decide +kernel)
set_option maxRecDepth 20000 in
theorem gX7_tear_X2_setBits : GoodIn wsX7_tear (wsV RX7 147 RX2 yX2_setBits wsX2_setBits) := goodIn_app (goodIn_of _ (by decide +kernel)) ggX7_tear_X2_setBits
theorem dX7_tear_0 : decode cX7_tear 0 = .ok (.aload_n 0, 1) := by decide +kernel
theorem dX7_tear_1 : decode cX7_tear 1 = .ok (.getfield 19, 3) := by decide +kernel
theorem dX7_tear_4 : decode cX7_tear 4 = .ok (.iload_n 1, 1) := by decide +kernel
theorem dX7_tear_5 : decode cX7_tear 5 = .ok (.invokevirtual 144, 3) := by decide +kernel
theorem dX7_tear_8 : decode cX7_tear 8 = .ok (.ifCond .ne 9, 3) := by decide +kernel
theorem dX7_tear_11 : decode cX7_tear 11 = .ok (.aload_n 0, 1) := by decide +kernel
theorem dX7_tear_12 : decode cX7_tear 12 = .ok (.iconst 2, 1) := by decide +kernel
theorem dX7_tear_13 : decode cX7_tear 13 = .ok (.invokevirtual 137, 3) := by decide +kernel
theorem dX7_tear_16 : decode cX7_tear 16 = .ok (.ireturn, 1) := by decide +kernel
theorem dX7_tear_17 : decode cX7_tear 17 = .ok (.aload_n 0, 1) := by decide +kernel
theorem dX7_tear_18 : decode cX7_tear 18 = .ok (.getfield 19, 3) := by decide +kernel
theorem dX7_tear_21 : decode cX7_tear 21 = .ok (.iload_n 1, 1) := by decide +kernel
theorem dX7_tear_22 : decode cX7_tear 22 = .ok (.invokevirtual 150, 3) := by decide +kernel
theorem dX7_tear_25 : decode cX7_tear 25 = .ok (.bipush (-9), 2) := by decide +kernel
theorem dX7_tear_27 : decode cX7_tear 27 = .ok (.if_icmp .ne 9, 3) := by decide +kernel
theorem dX7_tear_30 : decode cX7_tear 30 = .ok (.aload_n 0, 1) := by decide +kernel
theorem dX7_tear_31 : decode cX7_tear 31 = .ok (.iconst 1, 1) := by decide +kernel
theorem dX7_tear_32 : decode cX7_tear 32 = .ok (.invokevirtual 137, 3) := by decide +kernel
theorem dX7_tear_35 : decode cX7_tear 35 = .ok (.ireturn, 1) := by decide +kernel
theorem dX7_tear_36 : decode cX7_tear 36 = .ok (.aload_n 0, 1) := by decide +kernel
theorem dX7_tear_37 : decode cX7_tear 37 = .ok (.getfield 19, 3) := by decide +kernel
theorem dX7_tear_40 : decode cX7_tear 40 = .ok (.iload_n 1, 1) := by decide +kernel
theorem dX7_tear_41 : decode cX7_tear 41 = .ok (.bipush (-9), 2) := by decide +kernel
theorem dX7_tear_43 : decode cX7_tear 43 = .ok (.invokevirtual 147, 3) := by decide +kernel
theorem dX7_tear_46 : decode cX7_tear 46 = .ok (.iconst 1, 1) := by decide +kernel
theorem dX7_tear_47 : decode cX7_tear 47 = .ok (.ireturn, 1) := by decide +kernel
set_option maxRecDepth 20000 in
theorem ggX7_copy_X2_hasRun : GoodIn wsX7_copy wsX2_hasRun := goodIn_r _ [6, 7, 8, 9, 10, 46, 47, 48, 49, 50] (by decide +kernel) (by decide +kernel)
set_option maxRecDepth 20000 in
theorem gX7_copy_X2_hasRun : GoodIn wsX7_copy (wsV RX7 153 RX2 yX2_hasRun wsX2_hasRun) := goodIn_app (goodIn_of _ (by decide +kernel)) ggX7_copy_X2_hasRun
set_option maxRecDepth 20000 in
theorem ggX7_copy_X7_find : GoodIn wsX7_copy wsX7_find := goodIn_r _ [14, 15, 16, 17, 18, 9, 19, 20, 21, 22, 33, 34, 35, 36, 37, 38, 39, 40, 41, 42, 43, 44, 45] (by decide +kernel) (by decide +kernel)
set_option maxRecDepth 20000 in
theorem gX7_copy_X7_find : GoodIn wsX7_copy (wsV RX7 137 RX7 yX7_find wsX7_find) := goodIn_app (goodIn_of _ (by decide +kernel)) ggX7_copy_X7_find
set_option maxRecDepth 20000 in
theorem ggX7_copy_X2_copyRun : GoodIn wsX7_copy wsX2_copyRun := goodIn_r _ [26, 27, 28, 29, 30, 31, 5, 32, 18, 9, 19, 21, 22, 46, 47, 48, 49, 50] (by decide +kernel) (by decide +kernel)
set_option maxRecDepth 20000 in
theorem gX7_copy_X2_copyRun : GoodIn wsX7_copy (wsV RX7 156 RX2 yX2_copyRun wsX2_copyRun) := goodIn_app (goodIn_of _ (by decide +kernel)) ggX7_copy_X2_copyRun
theorem dX7_copy_0 : decode cX7_copy 0 = .ok (.aload_n 0, 1) := by decide +kernel
theorem dX7_copy_1 : decode cX7_copy 1 = .ok (.getfield 19, 3) := by decide +kernel
theorem dX7_copy_4 : decode cX7_copy 4 = .ok (.iload_n 1, 1) := by decide +kernel
theorem dX7_copy_5 : decode cX7_copy 5 = .ok (.iload_n 3, 1) := by decide +kernel
theorem dX7_copy_6 : decode cX7_copy 6 = .ok (.invokevirtual 153, 3) := by decide +kernel
theorem dX7_copy_9 : decode cX7_copy 9 = .ok (.ifCond .eq 15, 3) := by decide +kernel
theorem dX7_copy_12 : decode cX7_copy 12 = .ok (.aload_n 0, 1) := by decide +kernel
theorem dX7_copy_13 : decode cX7_copy 13 = .ok (.getfield 19, 3) := by decide +kernel
theorem dX7_copy_16 : decode cX7_copy 16 = .ok (.iload_n 2, 1) := by decide +kernel
theorem dX7_copy_17 : decode cX7_copy 17 = .ok (.iload_n 3, 1) := by decide +kernel
theorem dX7_copy_18 : decode cX7_copy 18 = .ok (.invokevirtual 153, 3) := by decide +kernel
theorem dX7_copy_21 : decode cX7_copy 21 = .ok (.ifCond .ne 9, 3) := by decide +kernel
theorem dX7_copy_24 : decode cX7_copy 24 = .ok (.aload_n 0, 1) := by decide +kernel
theorem dX7_copy_25 : decode cX7_copy 25 = .ok (.iconst 2, 1) := by decide +kernel
theorem dX7_copy_26 : decode cX7_copy 26 = .ok (.invokevirtual 137, 3) := by decide +kernel
theorem dX7_copy_29 : decode cX7_copy 29 = .ok (.ireturn, 1) := by decide +kernel
theorem dX7_copy_30 : decode cX7_copy 30 = .ok (.aload_n 0, 1) := by decide +kernel
theorem dX7_copy_31 : decode cX7_copy 31 = .ok (.getfield 19, 3) := by decide +kernel
theorem dX7_copy_34 : decode cX7_copy 34 = .ok (.iload_n 1, 1) := by decide +kernel
theorem dX7_copy_35 : decode cX7_copy 35 = .ok (.iload_n 2, 1) := by decide +kernel
theorem dX7_copy_36 : decode cX7_copy 36 = .ok (.iload_n 3, 1) := by decide +kernel
theorem dX7_copy_37 : decode cX7_copy 37 = .ok (.invokevirtual 156, 3) := by decide +kernel
theorem dX7_copy_40 : decode cX7_copy 40 = .ok (.iconst 1, 1) := by decide +kernel
theorem dX7_copy_41 : decode cX7_copy 41 = .ok (.ireturn, 1) := by decide +kernel
set_option maxRecDepth 20000 in
theorem ggX7_told_X2_isRow : GoodIn wsX7_told wsX2_isRow := goodIn_r _ [6, 7, 8, 9, 10, 41, 42, 43, 44, 45] (by decide +kernel) (by decide +kernel)
set_option maxRecDepth 20000 in
theorem gX7_told_X2_isRow : GoodIn wsX7_told (wsV RX7 144 RX2 yX2_isRow wsX2_isRow) := goodIn_app (goodIn_of _ (by decide +kernel)) ggX7_told_X2_isRow
set_option maxRecDepth 20000 in
theorem ggX7_told_X7_find : GoodIn wsX7_told wsX7_find := goodIn_r _ [14, 15, 16, 17, 18, 9, 19, 20, 21, 22, 28, 29, 30, 31, 32, 33, 34, 35, 36, 37, 38, 39, 40] (by decide +kernel) (by decide +kernel)
set_option maxRecDepth 20000 in
theorem gX7_told_X7_find : GoodIn wsX7_told (wsV RX7 137 RX7 yX7_find wsX7_find) := goodIn_app (goodIn_of _ (by decide +kernel)) ggX7_told_X7_find
set_option maxRecDepth 20000 in
theorem ggX7_told_X2_bitsOf : GoodIn wsX7_told wsX2_bitsOf := goodIn_r _ [26, 27, 18, 9, 19, 41, 42, 43, 44, 45] (by decide +kernel) (by decide +kernel)
set_option maxRecDepth 20000 in
theorem gX7_told_X2_bitsOf : GoodIn wsX7_told (wsV RX7 150 RX2 yX2_bitsOf wsX2_bitsOf) := goodIn_app (goodIn_of _ (by decide +kernel)) ggX7_told_X2_bitsOf
theorem dX7_told_0 : decode cX7_told 0 = .ok (.aload_n 0, 1) := by decide +kernel
theorem dX7_told_1 : decode cX7_told 1 = .ok (.getfield 19, 3) := by decide +kernel
theorem dX7_told_4 : decode cX7_told 4 = .ok (.iload_n 1, 1) := by decide +kernel
theorem dX7_told_5 : decode cX7_told 5 = .ok (.invokevirtual 144, 3) := by decide +kernel
theorem dX7_told_8 : decode cX7_told 8 = .ok (.ifCond .ne 9, 3) := by decide +kernel
theorem dX7_told_11 : decode cX7_told 11 = .ok (.aload_n 0, 1) := by decide +kernel
theorem dX7_told_12 : decode cX7_told 12 = .ok (.iconst 2, 1) := by decide +kernel
theorem dX7_told_13 : decode cX7_told 13 = .ok (.invokevirtual 137, 3) := by decide +kernel
theorem dX7_told_16 : decode cX7_told 16 = .ok (.ireturn, 1) := by decide +kernel
theorem dX7_told_17 : decode cX7_told 17 = .ok (.aload_n 0, 1) := by decide +kernel
theorem dX7_told_18 : decode cX7_told 18 = .ok (.getfield 19, 3) := by decide +kernel
theorem dX7_told_21 : decode cX7_told 21 = .ok (.iload_n 1, 1) := by decide +kernel
theorem dX7_told_22 : decode cX7_told 22 = .ok (.invokevirtual 150, 3) := by decide +kernel
theorem dX7_told_25 : decode cX7_told 25 = .ok (.istore_n 2, 1) := by decide +kernel
theorem dX7_told_26 : decode cX7_told 26 = .ok (.iload_n 2, 1) := by decide +kernel
theorem dX7_told_27 : decode cX7_told 27 = .ok (.bipush (-9), 2) := by decide +kernel
theorem dX7_told_29 : decode cX7_told 29 = .ok (.if_icmp .ne 11, 3) := by decide +kernel
theorem dX7_told_32 : decode cX7_told 32 = .ok (.aload_n 0, 1) := by decide +kernel
theorem dX7_told_33 : decode cX7_told 33 = .ok (.iconst 1, 1) := by decide +kernel
theorem dX7_told_34 : decode cX7_told 34 = .ok (.invokevirtual 137, 3) := by decide +kernel
theorem dX7_told_37 : decode cX7_told 37 = .ok (.goto 4, 3) := by decide +kernel
theorem dX7_told_40 : decode cX7_told 40 = .ok (.iload_n 2, 1) := by decide +kernel
theorem dX7_told_41 : decode cX7_told 41 = .ok (.ireturn, 1) := by decide +kernel
set_option maxRecDepth 20000 in
theorem ggX7_hold_X7_isWithin : GoodIn wsX7_hold wsX7_isWithin := goodIn_r _ [7] (by decide +kernel) (by decide +kernel)
set_option maxRecDepth 20000 in
theorem gX7_hold_X7_isWithin : GoodIn wsX7_hold (va_wsS RX7 65 yX7_isWithin wsX7_isWithin) := goodIn_app (goodIn_of _ (by decide +kernel)) ggX7_hold_X7_isWithin
theorem dX7_hold_0 : decode cX7_hold 0 = .ok (.iload_n 1, 1) := by decide +kernel
theorem dX7_hold_1 : decode cX7_hold 1 = .ok (.iconst 0, 1) := by decide +kernel
theorem dX7_hold_2 : decode cX7_hold 2 = .ok (.bipush 6, 2) := by decide +kernel
theorem dX7_hold_4 : decode cX7_hold 4 = .ok (.invokestatic 65, 3) := by decide +kernel
theorem dX7_hold_7 : decode cX7_hold 7 = .ok (.ifCond .eq 13, 3) := by decide +kernel
theorem dX7_hold_10 : decode cX7_hold 10 = .ok (.iload_n 2, 1) := by decide +kernel
theorem dX7_hold_11 : decode cX7_hold 11 = .ok (.iconst 0, 1) := by decide +kernel
theorem dX7_hold_12 : decode cX7_hold 12 = .ok (.bipush 6, 2) := by decide +kernel
theorem dX7_hold_14 : decode cX7_hold 14 = .ok (.invokestatic 65, 3) := by decide +kernel
theorem dX7_hold_17 : decode cX7_hold 17 = .ok (.ifCond .ne 5, 3) := by decide +kernel
theorem dX7_hold_20 : decode cX7_hold 20 = .ok (.iconst (-1), 1) := by decide +kernel
theorem dX7_hold_21 : decode cX7_hold 21 = .ok (.ireturn, 1) := by decide +kernel
theorem dX7_hold_22 : decode cX7_hold 22 = .ok (.aload_n 0, 1) := by decide +kernel
theorem dX7_hold_23 : decode cX7_hold 23 = .ok (.getfield 19, 3) := by decide +kernel
theorem dX7_hold_26 : decode cX7_hold 26 = .ok (.iload_n 1, 1) := by decide +kernel
theorem dX7_hold_27 : decode cX7_hold 27 = .ok (.putfield 160, 3) := by decide +kernel
theorem dX7_hold_30 : decode cX7_hold 30 = .ok (.aload_n 0, 1) := by decide +kernel
theorem dX7_hold_31 : decode cX7_hold 31 = .ok (.getfield 19, 3) := by decide +kernel
theorem dX7_hold_34 : decode cX7_hold 34 = .ok (.iload_n 2, 1) := by decide +kernel
theorem dX7_hold_35 : decode cX7_hold 35 = .ok (.putfield 163, 3) := by decide +kernel
theorem dX7_hold_38 : decode cX7_hold 38 = .ok (.iconst 1, 1) := by decide +kernel
theorem dX7_hold_39 : decode cX7_hold 39 = .ok (.ireturn, 1) := by decide +kernel
set_option maxRecDepth 20000 in
theorem ggX7_load_X2_squares : GoodIn wsX7_load wsX2_squares := goodIn_r _ [7, 8, 9, 10, 11, 6, 12, 13, 14, 15, 16, 17, 18, 19, 20, 21, 22, 23, 65, 66, 67, 68, 69] (by decide +kernel) (by decide +kernel)
set_option maxRecDepth 20000 in
theorem gX7_load_X2_squares : GoodIn wsX7_load (wsV RX7 166 RX2 yX2_squares wsX2_squares) := goodIn_app (goodIn_of _ (by decide +kernel)) ggX7_load_X2_squares
set_option maxRecDepth 20000 in
theorem ggX7_load_X2_isWhole : GoodIn wsX7_load wsX2_isWhole := goodIn_r _ [27, 8, 9, 10, 11, 6, 12, 13, 14, 15, 16, 28, 4, 5, 7, 17, 18, 19, 20, 21, 22, 23, 65, 66, 67, 68, 69] (by decide +kernel) (by decide +kernel)
set_option maxRecDepth 20000 in
theorem gX7_load_X2_isWhole : GoodIn wsX7_load (wsV RX7 170 RX2 yX2_isWhole wsX2_isWhole) := goodIn_app (goodIn_of _ (by decide +kernel)) ggX7_load_X2_isWhole
set_option maxRecDepth 20000 in
theorem ggX7_load_X2_farthest : GoodIn wsX7_load wsX2_farthest := goodIn_r _ [32, 8, 33, 34, 35, 36, 37, 38, 39, 40, 41, 42, 43, 44, 6, 45, 9, 10, 11, 12, 13, 14, 15, 16, 46, 47, 48, 49, 50, 51, 65, 66, 67, 68, 69] (by decide +kernel) (by decide +kernel)
set_option maxRecDepth 20000 in
theorem gX7_load_X2_farthest : GoodIn wsX7_load (wsV RX7 174 RX2 yX2_farthest wsX2_farthest) := goodIn_app (goodIn_of _ (by decide +kernel)) ggX7_load_X2_farthest
theorem dX7_load_0 : decode cX7_load 0 = .ok (.iload_n 1, 1) := by decide +kernel
theorem dX7_load_1 : decode cX7_load 1 = .ok (.tableswitch 71 0 3 #[31, 39, 55, 63], 31) := by decide +kernel
theorem dX7_load_32 : decode cX7_load 32 = .ok (.aload_n 0, 1) := by decide +kernel
theorem dX7_load_33 : decode cX7_load 33 = .ok (.getfield 19, 3) := by decide +kernel
theorem dX7_load_36 : decode cX7_load 36 = .ok (.invokevirtual 166, 3) := by decide +kernel
theorem dX7_load_39 : decode cX7_load 39 = .ok (.ireturn, 1) := by decide +kernel
theorem dX7_load_40 : decode cX7_load 40 = .ok (.aload_n 0, 1) := by decide +kernel
theorem dX7_load_41 : decode cX7_load 41 = .ok (.getfield 19, 3) := by decide +kernel
theorem dX7_load_44 : decode cX7_load 44 = .ok (.invokevirtual 170, 3) := by decide +kernel
theorem dX7_load_47 : decode cX7_load 47 = .ok (.ifCond .eq 7, 3) := by decide +kernel
theorem dX7_load_50 : decode cX7_load 50 = .ok (.iconst 1, 1) := by decide +kernel
theorem dX7_load_51 : decode cX7_load 51 = .ok (.goto 4, 3) := by decide +kernel
theorem dX7_load_54 : decode cX7_load 54 = .ok (.iconst 0, 1) := by decide +kernel
theorem dX7_load_55 : decode cX7_load 55 = .ok (.ireturn, 1) := by decide +kernel
theorem dX7_load_56 : decode cX7_load 56 = .ok (.aload_n 0, 1) := by decide +kernel
theorem dX7_load_57 : decode cX7_load 57 = .ok (.getfield 19, 3) := by decide +kernel
theorem dX7_load_60 : decode cX7_load 60 = .ok (.invokevirtual 174, 3) := by decide +kernel
theorem dX7_load_63 : decode cX7_load 63 = .ok (.ireturn, 1) := by decide +kernel
theorem dX7_load_64 : decode cX7_load 64 = .ok (.aload_n 0, 1) := by decide +kernel
theorem dX7_load_65 : decode cX7_load 65 = .ok (.getfield 19, 3) := by decide +kernel
theorem dX7_load_68 : decode cX7_load 68 = .ok (.getfield 177, 3) := by decide +kernel
theorem dX7_load_71 : decode cX7_load 71 = .ok (.ireturn, 1) := by decide +kernel
theorem dX7_load_72 : decode cX7_load 72 = .ok (.iconst (-1), 1) := by decide +kernel
theorem dX7_load_73 : decode cX7_load 73 = .ok (.ireturn, 1) := by decide +kernel
set_option maxRecDepth 20000 in
theorem ggX7_free_X7_isState : GoodIn wsX7_free wsX7_isState := goodIn_r _ [6, 7, 8, 9, 10, 11, 12, 13, 14, 15, 5, 16, 17, 145, 146, 147, 148, 149, 150, 151, 152, 153, 154, 155, 156, 157, 158, 159, 160, 161, 162, 163, 164, 165, 166, 167, 168, 169] (by decide +kernel) (by decide +kernel)
set_option maxRecDepth 20000 in
theorem gX7_free_X7_isState : GoodIn wsX7_free (wsV RX7 180 RX7 yX7_isState wsX7_isState) := goodIn_app (goodIn_of _ (by decide +kernel)) ggX7_free_X7_isState
set_option maxRecDepth 20000 in
theorem ggX7_free_X7_layOut : GoodIn wsX7_free wsX7_layOut := goodIn_r _ [21, 22, 23, 1, 7, 24, 25, 26, 27, 28, 29, 30, 31, 32, 33, 34, 35, 36, 5, 37, 38, 39, 40, 41, 42, 43, 44, 45, 46, 47, 48, 49, 50, 51, 52, 53, 54, 55, 56, 57, 58, 59, 60, 61, 62, 63, 64, 65, 66, 67, 15, 16, 68, 69, 70, 71, 72, 73, 74, 75, 76, 77, 78, 79, 80, 81, 82, 83, 84, 85, 86, 87, 88, 89, 90, 91, 92, 93, 94, 95, 96, 97, 98, 99, 100, 101, 102, 103, 104, 105, 106, 107, 108, 109, 110, 111, 112, 113, 114, 115, 116, 117, 11, 118, 13, 119, 120, 121, 122, 123, 124, 125, 126, 127, 128, 129, 130, 131, 132, 133, 134, 135, 136, 137, 138, 139, 140, 145, 146, 147, 148, 149, 150, 151, 152, 153, 154, 155, 156, 157, 158, 159, 160, 161, 162, 163, 164, 165, 166, 167, 168, 169, 170, 171, 172, 173, 174, 175, 176, 177, 178, 179, 180, 181, 182] (by decide +kernel) (by decide +kernel)
set_option maxRecDepth 20000 in
theorem gX7_free_X7_layOut : GoodIn wsX7_free (wsV RX7 183 RX7 yX7_layOut wsX7_layOut) := goodIn_app (goodIn_of _ (by decide +kernel)) ggX7_free_X7_layOut
set_option maxRecDepth 20000 in
theorem ggX7_free_X1_fits : GoodIn wsX7_free wsX1_fits := goodIn_r _ [144, 111, 113, 127, 36, 5, 37, 178, 179, 180, 181, 182] (by decide +kernel) (by decide +kernel)
set_option maxRecDepth 20000 in
theorem gX7_free_X1_fits : GoodIn wsX7_free (wsV RX7 186 RX1 yX1_fits wsX1_fits) := goodIn_app (goodIn_of _ (by decide +kernel)) ggX7_free_X1_fits
theorem dX7_free_0 : decode cX7_free 0 = .ok (.aload_n 0, 1) := by decide +kernel
theorem dX7_free_1 : decode cX7_free 1 = .ok (.iload_n 1, 1) := by decide +kernel
theorem dX7_free_2 : decode cX7_free 2 = .ok (.iload_n 2, 1) := by decide +kernel
theorem dX7_free_3 : decode cX7_free 3 = .ok (.iload_n 3, 1) := by decide +kernel
theorem dX7_free_4 : decode cX7_free 4 = .ok (.invokevirtual 180, 3) := by decide +kernel
theorem dX7_free_7 : decode cX7_free 7 = .ok (.ifCond .ne 5, 3) := by decide +kernel
theorem dX7_free_10 : decode cX7_free 10 = .ok (.iconst (-1), 1) := by decide +kernel
theorem dX7_free_11 : decode cX7_free 11 = .ok (.ireturn, 1) := by decide +kernel
theorem dX7_free_12 : decode cX7_free 12 = .ok (.aload_n 0, 1) := by decide +kernel
theorem dX7_free_13 : decode cX7_free 13 = .ok (.invokevirtual 183, 3) := by decide +kernel
theorem dX7_free_16 : decode cX7_free 16 = .ok (.ifCond .ne 6, 3) := by decide +kernel
theorem dX7_free_19 : decode cX7_free 19 = .ok (.bipush (-4), 2) := by decide +kernel
theorem dX7_free_21 : decode cX7_free 21 = .ok (.ireturn, 1) := by decide +kernel
theorem dX7_free_22 : decode cX7_free 22 = .ok (.aload_n 0, 1) := by decide +kernel
theorem dX7_free_23 : decode cX7_free 23 = .ok (.getfield 33, 3) := by decide +kernel
theorem dX7_free_26 : decode cX7_free 26 = .ok (.iload_n 3, 1) := by decide +kernel
theorem dX7_free_27 : decode cX7_free 27 = .ok (.iload_n 1, 1) := by decide +kernel
theorem dX7_free_28 : decode cX7_free 28 = .ok (.iload_n 2, 1) := by decide +kernel
theorem dX7_free_29 : decode cX7_free 29 = .ok (.invokevirtual 186, 3) := by decide +kernel
theorem dX7_free_32 : decode cX7_free 32 = .ok (.ifCond .eq 7, 3) := by decide +kernel
theorem dX7_free_35 : decode cX7_free 35 = .ok (.iconst 1, 1) := by decide +kernel
theorem dX7_free_36 : decode cX7_free 36 = .ok (.goto 4, 3) := by decide +kernel
theorem dX7_free_39 : decode cX7_free 39 = .ok (.iconst 0, 1) := by decide +kernel
theorem dX7_free_40 : decode cX7_free 40 = .ok (.ireturn, 1) := by decide +kernel
set_option maxRecDepth 20000 in
theorem ggX7_turning_X0_isPlace : GoodIn wsX7_turning wsX0_isPlace := goodIn_r _ [7, 8, 9, 10, 11, 12, 153, 154, 155, 156, 157, 158, 159, 160, 161, 162, 163, 164] (by decide +kernel) (by decide +kernel)
set_option maxRecDepth 20000 in
theorem gX7_turning_X0_isPlace : GoodIn wsX7_turning (wsV RX7 189 RX0 yX0_isPlace wsX0_isPlace) := goodIn_app (goodIn_of _ (by decide +kernel)) ggX7_turning_X0_isPlace
set_option maxRecDepth 20000 in
theorem ggX7_turning_X7_layOut : GoodIn wsX7_turning wsX7_layOut := goodIn_r _ [16, 17, 18, 2, 1, 19, 20, 21, 22, 23, 24, 25, 26, 27, 28, 29, 30, 31, 11, 32, 33, 34, 35, 36, 37, 38, 39, 40, 41, 42, 43, 44, 45, 46, 47, 48, 49, 50, 51, 52, 53, 54, 55, 56, 57, 58, 59, 60, 61, 62, 10, 12, 63, 64, 65, 66, 67, 68, 69, 70, 71, 72, 73, 74, 75, 76, 77, 78, 79, 80, 81, 82, 83, 84, 85, 86, 87, 88, 89, 90, 91, 92, 93, 94, 95, 96, 97, 98, 99, 100, 101, 102, 103, 104, 105, 106, 107, 108, 109, 110, 111, 112, 6, 113, 8, 114, 115, 116, 117, 118, 119, 120, 121, 122, 123, 124, 125, 126, 127, 128, 129, 130, 131, 132, 133, 134, 135, 140, 141, 142, 143, 144, 145, 146, 147, 148, 149, 150, 151, 152, 153, 154, 155, 156, 157, 158, 159, 160, 161, 162, 163, 164, 165, 166, 167, 168, 169, 170, 171, 172, 173, 174, 175, 176, 177] (by decide +kernel) (by decide +kernel)
set_option maxRecDepth 20000 in
theorem gX7_turning_X7_layOut : GoodIn wsX7_turning (wsV RX7 183 RX7 yX7_layOut wsX7_layOut) := goodIn_app (goodIn_of _ (by decide +kernel)) ggX7_turning_X7_layOut
set_option maxRecDepth 20000 in
theorem ggX7_turning_X1_fits : GoodIn wsX7_turning wsX1_fits := goodIn_r _ [139, 106, 108, 122, 31, 11, 32, 173, 174, 175, 176, 177] (by decide +kernel) (by decide +kernel)
set_option maxRecDepth 20000 in
theorem gX7_turning_X1_fits : GoodIn wsX7_turning (wsV RX7 186 RX1 yX1_fits wsX1_fits) := goodIn_app (goodIn_of _ (by decide +kernel)) ggX7_turning_X1_fits
theorem dX7_turning_0 : decode cX7_turning 0 = .ok (.aload_n 0, 1) := by decide +kernel
theorem dX7_turning_1 : decode cX7_turning 1 = .ok (.getfield 12, 3) := by decide +kernel
theorem dX7_turning_4 : decode cX7_turning 4 = .ok (.iload_n 1, 1) := by decide +kernel
theorem dX7_turning_5 : decode cX7_turning 5 = .ok (.iload_n 2, 1) := by decide +kernel
theorem dX7_turning_6 : decode cX7_turning 6 = .ok (.invokevirtual 189, 3) := by decide +kernel
theorem dX7_turning_9 : decode cX7_turning 9 = .ok (.ifCond .ne 5, 3) := by decide +kernel
theorem dX7_turning_12 : decode cX7_turning 12 = .ok (.iconst (-1), 1) := by decide +kernel
theorem dX7_turning_13 : decode cX7_turning 13 = .ok (.ireturn, 1) := by decide +kernel
theorem dX7_turning_14 : decode cX7_turning 14 = .ok (.aload_n 0, 1) := by decide +kernel
theorem dX7_turning_15 : decode cX7_turning 15 = .ok (.invokevirtual 183, 3) := by decide +kernel
theorem dX7_turning_18 : decode cX7_turning 18 = .ok (.ifCond .ne 6, 3) := by decide +kernel
theorem dX7_turning_21 : decode cX7_turning 21 = .ok (.bipush (-4), 2) := by decide +kernel
theorem dX7_turning_23 : decode cX7_turning 23 = .ok (.ireturn, 1) := by decide +kernel
theorem dX7_turning_24 : decode cX7_turning 24 = .ok (.aload_n 0, 1) := by decide +kernel
theorem dX7_turning_25 : decode cX7_turning 25 = .ok (.getfield 33, 3) := by decide +kernel
theorem dX7_turning_28 : decode cX7_turning 28 = .ok (.iconst 4, 1) := by decide +kernel
theorem dX7_turning_29 : decode cX7_turning 29 = .ok (.iload_n 1, 1) := by decide +kernel
theorem dX7_turning_30 : decode cX7_turning 30 = .ok (.iload_n 2, 1) := by decide +kernel
theorem dX7_turning_31 : decode cX7_turning 31 = .ok (.invokevirtual 186, 3) := by decide +kernel
theorem dX7_turning_34 : decode cX7_turning 34 = .ok (.ifCond .eq 7, 3) := by decide +kernel
theorem dX7_turning_37 : decode cX7_turning 37 = .ok (.iconst 1, 1) := by decide +kernel
theorem dX7_turning_38 : decode cX7_turning 38 = .ok (.goto 4, 3) := by decide +kernel
theorem dX7_turning_41 : decode cX7_turning 41 = .ok (.iconst 0, 1) := by decide +kernel
theorem dX7_turning_42 : decode cX7_turning 42 = .ok (.ireturn, 1) := by decide +kernel
set_option maxRecDepth 20000 in
theorem ggX7_kind_X7_isState : GoodIn wsX7_kind wsX7_isState := goodIn_r _ [6, 7, 8, 9, 10, 11, 12, 13, 14, 15, 5, 16, 17, 165, 166, 167, 168, 169, 170, 171, 172, 173, 174, 175, 176, 177, 178, 179, 180, 181, 182, 183, 184, 185, 186, 187, 188, 189] (by decide +kernel) (by decide +kernel)
set_option maxRecDepth 20000 in
theorem gX7_kind_X7_isState : GoodIn wsX7_kind (wsV RX7 180 RX7 yX7_isState wsX7_isState) := goodIn_app (goodIn_of _ (by decide +kernel)) ggX7_kind_X7_isState
set_option maxRecDepth 20000 in
theorem ggX7_kind_X7_layOut : GoodIn wsX7_kind wsX7_layOut := goodIn_r _ [21, 22, 23, 1, 7, 24, 25, 26, 27, 28, 29, 30, 31, 32, 33, 34, 35, 36, 5, 37, 38, 39, 40, 41, 42, 43, 44, 45, 46, 47, 48, 49, 50, 51, 52, 53, 54, 55, 56, 57, 58, 59, 60, 61, 62, 63, 64, 65, 66, 67, 15, 16, 68, 69, 70, 71, 72, 73, 74, 75, 76, 77, 78, 79, 80, 81, 82, 83, 84, 85, 86, 87, 88, 89, 90, 91, 92, 93, 94, 95, 96, 97, 98, 99, 100, 101, 102, 103, 104, 105, 106, 107, 108, 109, 110, 111, 112, 113, 114, 115, 116, 117, 11, 118, 13, 119, 120, 121, 122, 123, 124, 125, 126, 127, 128, 129, 130, 131, 132, 133, 134, 135, 136, 137, 138, 139, 140, 165, 166, 167, 168, 169, 170, 171, 172, 173, 174, 175, 176, 177, 178, 179, 180, 181, 182, 183, 184, 185, 186, 187, 188, 189, 190, 191, 192, 193, 194, 195, 196, 197, 198, 199, 200, 201, 202] (by decide +kernel) (by decide +kernel)
set_option maxRecDepth 20000 in
theorem gX7_kind_X7_layOut : GoodIn wsX7_kind (wsV RX7 183 RX7 yX7_layOut wsX7_layOut) := goodIn_app (goodIn_of _ (by decide +kernel)) ggX7_kind_X7_layOut
set_option maxRecDepth 20000 in
theorem ggX7_kind_X1_kindOf : GoodIn wsX7_kind wsX1_kindOf := goodIn_r _ [144, 145, 146, 147, 108, 148, 111, 113, 127, 36, 5, 37, 149, 150, 151, 152, 153, 154, 155, 156, 157, 158, 159, 160, 161, 162, 163, 164, 198, 199, 200, 201, 202] (by decide +kernel) (by decide +kernel)
set_option maxRecDepth 20000 in
theorem gX7_kind_X1_kindOf : GoodIn wsX7_kind (wsV RX7 192 RX1 yX1_kindOf wsX1_kindOf) := goodIn_app (goodIn_of _ (by decide +kernel)) ggX7_kind_X1_kindOf
theorem dX7_kind_0 : decode cX7_kind 0 = .ok (.aload_n 0, 1) := by decide +kernel
theorem dX7_kind_1 : decode cX7_kind 1 = .ok (.iload_n 1, 1) := by decide +kernel
theorem dX7_kind_2 : decode cX7_kind 2 = .ok (.iload_n 2, 1) := by decide +kernel
theorem dX7_kind_3 : decode cX7_kind 3 = .ok (.iload_n 3, 1) := by decide +kernel
theorem dX7_kind_4 : decode cX7_kind 4 = .ok (.invokevirtual 180, 3) := by decide +kernel
theorem dX7_kind_7 : decode cX7_kind 7 = .ok (.ifCond .ne 5, 3) := by decide +kernel
theorem dX7_kind_10 : decode cX7_kind 10 = .ok (.iconst (-1), 1) := by decide +kernel
theorem dX7_kind_11 : decode cX7_kind 11 = .ok (.ireturn, 1) := by decide +kernel
theorem dX7_kind_12 : decode cX7_kind 12 = .ok (.aload_n 0, 1) := by decide +kernel
theorem dX7_kind_13 : decode cX7_kind 13 = .ok (.invokevirtual 183, 3) := by decide +kernel
theorem dX7_kind_16 : decode cX7_kind 16 = .ok (.ifCond .ne 6, 3) := by decide +kernel
theorem dX7_kind_19 : decode cX7_kind 19 = .ok (.bipush (-4), 2) := by decide +kernel
theorem dX7_kind_21 : decode cX7_kind 21 = .ok (.ireturn, 1) := by decide +kernel
theorem dX7_kind_22 : decode cX7_kind 22 = .ok (.aload_n 0, 1) := by decide +kernel
theorem dX7_kind_23 : decode cX7_kind 23 = .ok (.getfield 33, 3) := by decide +kernel
theorem dX7_kind_26 : decode cX7_kind 26 = .ok (.iload_n 1, 1) := by decide +kernel
theorem dX7_kind_27 : decode cX7_kind 27 = .ok (.iload_n 2, 1) := by decide +kernel
theorem dX7_kind_28 : decode cX7_kind 28 = .ok (.iload_n 3, 1) := by decide +kernel
theorem dX7_kind_29 : decode cX7_kind 29 = .ok (.invokevirtual 192, 3) := by decide +kernel
theorem dX7_kind_32 : decode cX7_kind 32 = .ok (.ireturn, 1) := by decide +kernel
set_option maxRecDepth 20000 in
theorem ggX7_steps_X7_isState : GoodIn wsX7_steps wsX7_isState := goodIn_r _ [6, 7, 8, 9, 10, 11, 12, 13, 14, 15, 5, 16, 17, 179, 180, 181, 182, 183, 184, 185, 186, 187, 188, 189, 190, 191, 192, 193, 194, 195, 196, 197, 198, 199, 200, 201, 202, 203] (by decide +kernel) (by decide +kernel)
set_option maxRecDepth 20000 in
theorem gX7_steps_X7_isState : GoodIn wsX7_steps (wsV RX7 180 RX7 yX7_isState wsX7_isState) := goodIn_app (goodIn_of _ (by decide +kernel)) ggX7_steps_X7_isState
set_option maxRecDepth 20000 in
theorem ggX7_steps_X7_isWithin : GoodIn wsX7_steps wsX7_isWithin := goodIn_r _ [16] (by decide +kernel) (by decide +kernel)
set_option maxRecDepth 20000 in
theorem gX7_steps_X7_isWithin : GoodIn wsX7_steps (va_wsS RX7 65 yX7_isWithin wsX7_isWithin) := goodIn_app (goodIn_of _ (by decide +kernel)) ggX7_steps_X7_isWithin
set_option maxRecDepth 20000 in
theorem ggX7_steps_X7_layOut : GoodIn wsX7_steps wsX7_layOut := goodIn_r _ [21, 22, 23, 1, 7, 24, 25, 26, 27, 28, 29, 30, 31, 32, 33, 34, 35, 36, 5, 37, 38, 39, 40, 41, 42, 43, 44, 45, 46, 47, 48, 49, 50, 51, 52, 53, 54, 55, 56, 57, 58, 59, 60, 61, 62, 63, 64, 65, 66, 67, 15, 16, 68, 69, 70, 71, 72, 73, 74, 75, 76, 77, 78, 79, 80, 81, 82, 83, 84, 85, 86, 87, 88, 89, 90, 91, 92, 93, 94, 95, 96, 97, 98, 99, 100, 101, 102, 103, 104, 105, 106, 107, 108, 109, 110, 111, 112, 113, 114, 115, 116, 117, 11, 118, 13, 119, 120, 121, 122, 123, 124, 125, 126, 127, 128, 129, 130, 131, 132, 133, 134, 135, 136, 137, 138, 139, 140, 179, 180, 181, 182, 183, 184, 185, 186, 187, 188, 189, 190, 191, 192, 193, 194, 195, 196, 197, 198, 199, 200, 201, 202, 203, 204, 205, 206, 207, 208, 209, 210, 211, 212, 213, 214, 215, 216] (by decide +kernel) (by decide +kernel)
set_option maxRecDepth 20000 in
theorem gX7_steps_X7_layOut : GoodIn wsX7_steps (wsV RX7 183 RX7 yX7_layOut wsX7_layOut) := goodIn_app (goodIn_of _ (by decide +kernel)) ggX7_steps_X7_layOut
set_option maxRecDepth 20000 in
theorem ggX7_steps_X1_kindOf : GoodIn wsX7_steps wsX1_kindOf := goodIn_r _ [144, 145, 146, 147, 108, 148, 111, 113, 127, 36, 5, 37, 149, 150, 151, 152, 153, 154, 155, 156, 157, 158, 159, 160, 161, 162, 163, 164, 212, 213, 214, 215, 216] (by decide +kernel) (by decide +kernel)
set_option maxRecDepth 20000 in
theorem gX7_steps_X1_kindOf : GoodIn wsX7_steps (wsV RX7 192 RX1 yX1_kindOf wsX1_kindOf) := goodIn_app (goodIn_of _ (by decide +kernel)) ggX7_steps_X1_kindOf
set_option maxRecDepth 20000 in
theorem ggX7_steps_X7_isOfKind : GoodIn wsX7_steps wsX7_isOfKind := goodIn_r _ [167] (by decide +kernel) (by decide +kernel)
set_option maxRecDepth 20000 in
theorem gX7_steps_X7_isOfKind : GoodIn wsX7_steps (va_wsS RX7 196 yX7_isOfKind wsX7_isOfKind) := goodIn_app (goodIn_of _ (by decide +kernel)) ggX7_steps_X7_isOfKind
set_option maxRecDepth 20000 in
theorem ggX7_steps_X7_find : GoodIn wsX7_steps wsX7_find := goodIn_r _ [171, 172, 173, 174, 36, 5, 37, 175, 82, 83, 179, 180, 181, 182, 183, 184, 185, 186, 187, 188, 189, 190, 191] (by decide +kernel) (by decide +kernel)
set_option maxRecDepth 20000 in
theorem gX7_steps_X7_find : GoodIn wsX7_steps (wsV RX7 137 RX7 yX7_find wsX7_find) := goodIn_app (goodIn_of _ (by decide +kernel)) ggX7_steps_X7_find
set_option maxRecDepth 20000 in
theorem ggX7_steps_X1_fits : GoodIn wsX7_steps wsX1_fits := goodIn_r _ [148, 111, 113, 127, 36, 5, 37, 212, 213, 214, 215, 216] (by decide +kernel) (by decide +kernel)
set_option maxRecDepth 20000 in
theorem gX7_steps_X1_fits : GoodIn wsX7_steps (wsV RX7 186 RX1 yX1_fits wsX1_fits) := goodIn_app (goodIn_of _ (by decide +kernel)) ggX7_steps_X1_fits
set_option maxRecDepth 20000 in
theorem ggX7_steps_X7_stateOf : GoodIn wsX7_steps wsX7_stateOf := goodIn_r _ [150] (by decide +kernel) (by decide +kernel)
set_option maxRecDepth 20000 in
theorem gX7_steps_X7_stateOf : GoodIn wsX7_steps (va_wsS RX7 199 yX7_stateOf wsX7_stateOf) := goodIn_app (goodIn_of _ (by decide +kernel)) ggX7_steps_X7_stateOf
set_option maxRecDepth 20000 in
theorem ggX7_steps_X1_slidesFrom : GoodIn wsX7_steps wsX1_slidesFrom := goodIn_r _ [154, 155, 156, 157, 108, 158, 159, 5, 160, 161, 162, 163, 164, 145, 146, 147, 148, 111, 113, 127, 36, 37, 149, 150, 212, 213, 214, 215, 216] (by decide +kernel) (by decide +kernel)
set_option maxRecDepth 20000 in
theorem gX7_steps_X1_slidesFrom : GoodIn wsX7_steps (wsV RX7 202 RX1 yX1_slidesFrom wsX1_slidesFrom) := goodIn_app (goodIn_of _ (by decide +kernel)) ggX7_steps_X1_slidesFrom
theorem dX7_steps_0 : decode cX7_steps 0 = .ok (.aload_n 0, 1) := by decide +kernel
theorem dX7_steps_1 : decode cX7_steps 1 = .ok (.iload_n 1, 1) := by decide +kernel
theorem dX7_steps_2 : decode cX7_steps 2 = .ok (.iload_n 2, 1) := by decide +kernel
theorem dX7_steps_3 : decode cX7_steps 3 = .ok (.iload_n 3, 1) := by decide +kernel
theorem dX7_steps_4 : decode cX7_steps 4 = .ok (.invokevirtual 180, 3) := by decide +kernel
theorem dX7_steps_7 : decode cX7_steps 7 = .ok (.ifCond .eq 13, 3) := by decide +kernel
theorem dX7_steps_10 : decode cX7_steps 10 = .ok (.iload 4, 2) := by decide +kernel
theorem dX7_steps_12 : decode cX7_steps 12 = .ok (.iconst 0, 1) := by decide +kernel
theorem dX7_steps_13 : decode cX7_steps 13 = .ok (.iconst 4, 1) := by decide +kernel
theorem dX7_steps_14 : decode cX7_steps 14 = .ok (.invokestatic 65, 3) := by decide +kernel
theorem dX7_steps_17 : decode cX7_steps 17 = .ok (.ifCond .ne 5, 3) := by decide +kernel
theorem dX7_steps_20 : decode cX7_steps 20 = .ok (.iconst (-1), 1) := by decide +kernel
theorem dX7_steps_21 : decode cX7_steps 21 = .ok (.ireturn, 1) := by decide +kernel
theorem dX7_steps_22 : decode cX7_steps 22 = .ok (.aload_n 0, 1) := by decide +kernel
theorem dX7_steps_23 : decode cX7_steps 23 = .ok (.invokevirtual 183, 3) := by decide +kernel
theorem dX7_steps_26 : decode cX7_steps 26 = .ok (.ifCond .ne 6, 3) := by decide +kernel
theorem dX7_steps_29 : decode cX7_steps 29 = .ok (.bipush (-4), 2) := by decide +kernel
theorem dX7_steps_31 : decode cX7_steps 31 = .ok (.ireturn, 1) := by decide +kernel
theorem dX7_steps_32 : decode cX7_steps 32 = .ok (.aload_n 0, 1) := by decide +kernel
theorem dX7_steps_33 : decode cX7_steps 33 = .ok (.getfield 33, 3) := by decide +kernel
theorem dX7_steps_36 : decode cX7_steps 36 = .ok (.iload_n 1, 1) := by decide +kernel
theorem dX7_steps_37 : decode cX7_steps 37 = .ok (.iload_n 2, 1) := by decide +kernel
theorem dX7_steps_38 : decode cX7_steps 38 = .ok (.iload_n 3, 1) := by decide +kernel
theorem dX7_steps_39 : decode cX7_steps 39 = .ok (.invokevirtual 192, 3) := by decide +kernel
theorem dX7_steps_42 : decode cX7_steps 42 = .ok (.iload 4, 2) := by decide +kernel
theorem dX7_steps_44 : decode cX7_steps 44 = .ok (.invokestatic 196, 3) := by decide +kernel
theorem dX7_steps_47 : decode cX7_steps 47 = .ok (.ifCond .ne 9, 3) := by decide +kernel
theorem dX7_steps_50 : decode cX7_steps 50 = .ok (.aload_n 0, 1) := by decide +kernel
theorem dX7_steps_51 : decode cX7_steps 51 = .ok (.iconst 3, 1) := by decide +kernel
theorem dX7_steps_52 : decode cX7_steps 52 = .ok (.invokevirtual 137, 3) := by decide +kernel
theorem dX7_steps_55 : decode cX7_steps 55 = .ok (.ireturn, 1) := by decide +kernel
theorem dX7_steps_56 : decode cX7_steps 56 = .ok (.aload_n 0, 1) := by decide +kernel
theorem dX7_steps_57 : decode cX7_steps 57 = .ok (.getfield 33, 3) := by decide +kernel
theorem dX7_steps_60 : decode cX7_steps 60 = .ok (.iload_n 3, 1) := by decide +kernel
theorem dX7_steps_61 : decode cX7_steps 61 = .ok (.iload_n 1, 1) := by decide +kernel
theorem dX7_steps_62 : decode cX7_steps 62 = .ok (.iload_n 2, 1) := by decide +kernel
theorem dX7_steps_63 : decode cX7_steps 63 = .ok (.invokevirtual 186, 3) := by decide +kernel
theorem dX7_steps_66 : decode cX7_steps 66 = .ok (.ifCond .eq 19, 3) := by decide +kernel
theorem dX7_steps_69 : decode cX7_steps 69 = .ok (.aload_n 0, 1) := by decide +kernel
theorem dX7_steps_70 : decode cX7_steps 70 = .ok (.getfield 33, 3) := by decide +kernel
theorem dX7_steps_73 : decode cX7_steps 73 = .ok (.iload_n 1, 1) := by decide +kernel
theorem dX7_steps_74 : decode cX7_steps 74 = .ok (.iload_n 2, 1) := by decide +kernel
theorem dX7_steps_75 : decode cX7_steps 75 = .ok (.iload_n 3, 1) := by decide +kernel
theorem dX7_steps_76 : decode cX7_steps 76 = .ok (.invokestatic 199, 3) := by decide +kernel
theorem dX7_steps_79 : decode cX7_steps 79 = .ok (.invokevirtual 202, 3) := by decide +kernel
theorem dX7_steps_82 : decode cX7_steps 82 = .ok (.goto 4, 3) := by decide +kernel
theorem dX7_steps_85 : decode cX7_steps 85 = .ok (.iconst 0, 1) := by decide +kernel
theorem dX7_steps_86 : decode cX7_steps 86 = .ok (.ireturn, 1) := by decide +kernel
set_option maxRecDepth 20000 in
theorem ggX7_pieces_X7_isWithin : GoodIn wsX7_pieces wsX7_isWithin := goodIn_r _ [7] (by decide +kernel) (by decide +kernel)
set_option maxRecDepth 20000 in
theorem gX7_pieces_X7_isWithin : GoodIn wsX7_pieces (va_wsS RX7 65 yX7_isWithin wsX7_isWithin) := goodIn_app (goodIn_of _ (by decide +kernel)) ggX7_pieces_X7_isWithin
set_option maxRecDepth 20000 in
theorem ggX7_pieces_X7_layOut : GoodIn wsX7_pieces wsX7_layOut := goodIn_r _ [11, 12, 13, 2, 14, 15, 16, 17, 18, 19, 20, 21, 22, 23, 24, 25, 26, 27, 6, 28, 29, 30, 31, 32, 33, 34, 35, 36, 37, 38, 39, 40, 41, 42, 43, 44, 45, 46, 47, 48, 49, 50, 51, 52, 53, 54, 55, 56, 57, 58, 5, 7, 59, 60, 61, 62, 63, 64, 65, 66, 67, 68, 69, 70, 71, 72, 73, 74, 75, 76, 77, 78, 79, 80, 81, 82, 83, 84, 85, 86, 87, 88, 89, 90, 91, 92, 93, 94, 95, 96, 97, 98, 99, 100, 101, 102, 103, 104, 105, 106, 107, 108, 109, 110, 111, 112, 113, 114, 115, 116, 117, 118, 119, 120, 121, 122, 123, 124, 125, 126, 127, 128, 129, 130, 131, 132, 133, 174, 175, 176, 177, 178, 179, 180, 181, 182, 183, 184, 185, 186, 191, 192, 193, 194, 195, 196, 197, 198, 199, 200, 201, 202, 203, 204, 205, 206, 207, 208, 209, 210, 211, 212, 213, 214, 215] (by decide +kernel) (by decide +kernel)
set_option maxRecDepth 20000 in
theorem gX7_pieces_X7_layOut : GoodIn wsX7_pieces (wsV RX7 183 RX7 yX7_layOut wsX7_layOut) := goodIn_app (goodIn_of _ (by decide +kernel)) ggX7_pieces_X7_layOut
set_option maxRecDepth 20000 in
theorem ggX7_pieces_X3_split : GoodIn wsX7_pieces wsX3_split := goodIn_r _ [138, 139, 140, 141, 142, 49, 6, 50, 143, 144, 145, 99, 146, 102, 104, 120, 27, 28, 147, 148, 149, 137, 150, 151, 152, 153, 154, 155, 156, 157, 158, 159, 160, 161, 162, 73, 74, 163, 164, 165, 166, 167, 168, 169, 170, 171, 172, 173, 187, 188, 189, 190, 211, 212, 213, 214, 215] (by decide +kernel) (by decide +kernel)
set_option maxRecDepth 20000 in
theorem gX7_pieces_X3_split : GoodIn wsX7_pieces (wsV RX7 205 RX3 yX3_split wsX3_split) := goodIn_app (goodIn_of _ (by decide +kernel)) ggX7_pieces_X3_split
theorem dX7_pieces_0 : decode cX7_pieces 0 = .ok (.iload_n 1, 1) := by decide +kernel
theorem dX7_pieces_1 : decode cX7_pieces 1 = .ok (.iconst 0, 1) := by decide +kernel
theorem dX7_pieces_2 : decode cX7_pieces 2 = .ok (.iconst 3, 1) := by decide +kernel
theorem dX7_pieces_3 : decode cX7_pieces 3 = .ok (.invokestatic 65, 3) := by decide +kernel
theorem dX7_pieces_6 : decode cX7_pieces 6 = .ok (.ifCond .ne 5, 3) := by decide +kernel
theorem dX7_pieces_9 : decode cX7_pieces 9 = .ok (.iconst (-1), 1) := by decide +kernel
theorem dX7_pieces_10 : decode cX7_pieces 10 = .ok (.ireturn, 1) := by decide +kernel
theorem dX7_pieces_11 : decode cX7_pieces 11 = .ok (.aload_n 0, 1) := by decide +kernel
theorem dX7_pieces_12 : decode cX7_pieces 12 = .ok (.invokevirtual 183, 3) := by decide +kernel
theorem dX7_pieces_15 : decode cX7_pieces 15 = .ok (.ifCond .ne 6, 3) := by decide +kernel
theorem dX7_pieces_18 : decode cX7_pieces 18 = .ok (.bipush (-4), 2) := by decide +kernel
theorem dX7_pieces_20 : decode cX7_pieces 20 = .ok (.ireturn, 1) := by decide +kernel
theorem dX7_pieces_21 : decode cX7_pieces 21 = .ok (.aload_n 0, 1) := by decide +kernel
theorem dX7_pieces_22 : decode cX7_pieces 22 = .ok (.getfield 47, 3) := by decide +kernel
theorem dX7_pieces_25 : decode cX7_pieces 25 = .ok (.aload_n 0, 1) := by decide +kernel
theorem dX7_pieces_26 : decode cX7_pieces 26 = .ok (.getfield 33, 3) := by decide +kernel
theorem dX7_pieces_29 : decode cX7_pieces 29 = .ok (.iload_n 1, 1) := by decide +kernel
theorem dX7_pieces_30 : decode cX7_pieces 30 = .ok (.invokevirtual 205, 3) := by decide +kernel
theorem dX7_pieces_33 : decode cX7_pieces 33 = .ok (.aload_n 0, 1) := by decide +kernel
theorem dX7_pieces_34 : decode cX7_pieces 34 = .ok (.getfield 47, 3) := by decide +kernel
theorem dX7_pieces_37 : decode cX7_pieces 37 = .ok (.getfield 209, 3) := by decide +kernel
theorem dX7_pieces_40 : decode cX7_pieces 40 = .ok (.ireturn, 1) := by decide +kernel
set_option maxRecDepth 20000 in
theorem ggX7_piece_X7_isState : GoodIn wsX7_piece wsX7_isState := goodIn_r _ [7, 8, 9, 10, 11, 12, 13, 14, 15, 16, 6, 17, 18, 183, 184, 185, 186, 187, 188, 189, 190, 191, 192, 193, 194, 195, 196, 197, 198, 199, 200, 201, 202, 203, 204, 205, 206, 207] (by decide +kernel) (by decide +kernel)
set_option maxRecDepth 20000 in
theorem gX7_piece_X7_isState : GoodIn wsX7_piece (wsV RX7 180 RX7 yX7_isState wsX7_isState) := goodIn_app (goodIn_of _ (by decide +kernel)) ggX7_piece_X7_isState
set_option maxRecDepth 20000 in
theorem ggX7_piece_X7_layOut : GoodIn wsX7_piece wsX7_layOut := goodIn_r _ [22, 23, 24, 2, 8, 25, 26, 27, 28, 29, 30, 31, 32, 33, 34, 35, 36, 37, 6, 38, 39, 40, 41, 42, 43, 44, 45, 46, 47, 48, 49, 50, 51, 52, 53, 54, 55, 56, 57, 58, 59, 60, 61, 62, 63, 64, 65, 66, 67, 68, 16, 17, 69, 70, 71, 72, 73, 74, 75, 76, 77, 78, 79, 80, 81, 82, 83, 84, 85, 86, 87, 88, 89, 90, 91, 92, 93, 94, 95, 96, 97, 98, 99, 100, 101, 102, 103, 104, 105, 106, 107, 108, 109, 110, 111, 112, 113, 114, 115, 116, 117, 118, 12, 119, 14, 120, 121, 122, 123, 124, 125, 126, 127, 128, 129, 130, 131, 132, 133, 134, 135, 136, 137, 138, 139, 140, 141, 183, 184, 185, 186, 187, 188, 189, 190, 191, 192, 193, 194, 195, 196, 197, 198, 199, 200, 201, 202, 203, 204, 205, 206, 207, 208, 209, 210, 211, 212, 213, 214, 215, 216, 217, 218, 219, 220] (by decide +kernel) (by decide +kernel)
set_option maxRecDepth 20000 in
theorem gX7_piece_X7_layOut : GoodIn wsX7_piece (wsV RX7 183 RX7 yX7_layOut wsX7_layOut) := goodIn_app (goodIn_of _ (by decide +kernel)) ggX7_piece_X7_layOut
set_option maxRecDepth 20000 in
theorem ggX7_piece_X3_split : GoodIn wsX7_piece wsX3_split := goodIn_r _ [146, 147, 148, 149, 150, 59, 6, 60, 151, 152, 153, 109, 154, 112, 114, 128, 37, 38, 155, 156, 157, 145, 158, 159, 160, 161, 162, 163, 164, 165, 166, 167, 168, 169, 170, 83, 84, 171, 172, 173, 174, 175, 176, 177, 178, 179, 180, 181, 221, 222, 223, 224, 216, 217, 218, 219, 220] (by decide +kernel) (by decide +kernel)
set_option maxRecDepth 20000 in
theorem gX7_piece_X3_split : GoodIn wsX7_piece (wsV RX7 205 RX3 yX3_split wsX3_split) := goodIn_app (goodIn_of _ (by decide +kernel)) ggX7_piece_X3_split
set_option maxRecDepth 20000 in
theorem ggX7_piece_X3_regionOf : GoodIn wsX7_piece wsX3_regionOf := goodIn_r _ [158, 148, 159, 6, 160, 37, 38, 221, 222, 223, 224] (by decide +kernel) (by decide +kernel)
set_option maxRecDepth 20000 in
theorem gX7_piece_X3_regionOf : GoodIn wsX7_piece (wsV RX7 210 RX3 yX3_regionOf wsX3_regionOf) := goodIn_app (goodIn_of _ (by decide +kernel)) ggX7_piece_X3_regionOf
theorem dX7_piece_0 : decode cX7_piece 0 = .ok (.aload_n 0, 1) := by decide +kernel
theorem dX7_piece_1 : decode cX7_piece 1 = .ok (.iload_n 1, 1) := by decide +kernel
theorem dX7_piece_2 : decode cX7_piece 2 = .ok (.iload_n 2, 1) := by decide +kernel
theorem dX7_piece_3 : decode cX7_piece 3 = .ok (.iload_n 3, 1) := by decide +kernel
theorem dX7_piece_4 : decode cX7_piece 4 = .ok (.invokevirtual 180, 3) := by decide +kernel
theorem dX7_piece_7 : decode cX7_piece 7 = .ok (.ifCond .ne 5, 3) := by decide +kernel
theorem dX7_piece_10 : decode cX7_piece 10 = .ok (.iconst (-1), 1) := by decide +kernel
theorem dX7_piece_11 : decode cX7_piece 11 = .ok (.ireturn, 1) := by decide +kernel
theorem dX7_piece_12 : decode cX7_piece 12 = .ok (.aload_n 0, 1) := by decide +kernel
theorem dX7_piece_13 : decode cX7_piece 13 = .ok (.invokevirtual 183, 3) := by decide +kernel
theorem dX7_piece_16 : decode cX7_piece 16 = .ok (.ifCond .ne 6, 3) := by decide +kernel
theorem dX7_piece_19 : decode cX7_piece 19 = .ok (.bipush (-4), 2) := by decide +kernel
theorem dX7_piece_21 : decode cX7_piece 21 = .ok (.ireturn, 1) := by decide +kernel
theorem dX7_piece_22 : decode cX7_piece 22 = .ok (.aload_n 0, 1) := by decide +kernel
theorem dX7_piece_23 : decode cX7_piece 23 = .ok (.getfield 47, 3) := by decide +kernel
theorem dX7_piece_26 : decode cX7_piece 26 = .ok (.aload_n 0, 1) := by decide +kernel
theorem dX7_piece_27 : decode cX7_piece 27 = .ok (.getfield 33, 3) := by decide +kernel
theorem dX7_piece_30 : decode cX7_piece 30 = .ok (.iload_n 3, 1) := by decide +kernel
theorem dX7_piece_31 : decode cX7_piece 31 = .ok (.invokevirtual 205, 3) := by decide +kernel
theorem dX7_piece_34 : decode cX7_piece 34 = .ok (.aload_n 0, 1) := by decide +kernel
theorem dX7_piece_35 : decode cX7_piece 35 = .ok (.getfield 47, 3) := by decide +kernel
theorem dX7_piece_38 : decode cX7_piece 38 = .ok (.iload_n 1, 1) := by decide +kernel
theorem dX7_piece_39 : decode cX7_piece 39 = .ok (.iload_n 2, 1) := by decide +kernel
theorem dX7_piece_40 : decode cX7_piece 40 = .ok (.invokevirtual 210, 3) := by decide +kernel
theorem dX7_piece_43 : decode cX7_piece 43 = .ok (.ireturn, 1) := by decide +kernel
set_option maxRecDepth 20000 in
theorem ggX7_area_X7_isWithin : GoodIn wsX7_area wsX7_isWithin := goodIn_r _ [7] (by decide +kernel) (by decide +kernel)
set_option maxRecDepth 20000 in
theorem gX7_area_X7_isWithin : GoodIn wsX7_area (va_wsS RX7 65 yX7_isWithin wsX7_isWithin) := goodIn_app (goodIn_of _ (by decide +kernel)) ggX7_area_X7_isWithin
set_option maxRecDepth 20000 in
theorem ggX7_area_X7_layOut : GoodIn wsX7_area wsX7_layOut := goodIn_r _ [11, 12, 13, 2, 14, 15, 16, 17, 18, 19, 20, 21, 22, 23, 24, 25, 26, 27, 6, 28, 29, 30, 31, 32, 33, 34, 35, 36, 37, 38, 39, 40, 41, 42, 43, 44, 45, 46, 47, 48, 49, 50, 51, 52, 53, 54, 55, 56, 57, 58, 5, 7, 59, 60, 61, 62, 63, 64, 65, 66, 67, 68, 69, 70, 71, 72, 73, 74, 75, 76, 77, 78, 79, 80, 81, 82, 83, 84, 85, 86, 87, 88, 89, 90, 91, 92, 93, 94, 95, 96, 97, 98, 99, 100, 101, 102, 103, 104, 105, 106, 107, 108, 109, 110, 111, 112, 113, 114, 115, 116, 117, 118, 119, 120, 121, 122, 123, 124, 125, 126, 127, 128, 129, 130, 131, 132, 133, 186, 187, 188, 189, 190, 191, 192, 193, 194, 195, 196, 197, 198, 203, 204, 205, 206, 207, 208, 209, 210, 211, 212, 213, 214, 215, 216, 217, 218, 219, 220, 221, 222, 223, 224, 225, 226, 227] (by decide +kernel) (by decide +kernel)
set_option maxRecDepth 20000 in
theorem gX7_area_X7_layOut : GoodIn wsX7_area (wsV RX7 183 RX7 yX7_layOut wsX7_layOut) := goodIn_app (goodIn_of _ (by decide +kernel)) ggX7_area_X7_layOut
set_option maxRecDepth 20000 in
theorem ggX7_area_X3_split : GoodIn wsX7_area wsX3_split := goodIn_r _ [138, 139, 140, 141, 142, 49, 6, 50, 143, 144, 145, 99, 146, 102, 104, 120, 27, 28, 147, 148, 149, 137, 150, 151, 152, 153, 154, 155, 156, 157, 158, 159, 160, 161, 162, 73, 74, 163, 164, 165, 166, 167, 168, 169, 170, 171, 172, 173, 199, 200, 201, 202, 223, 224, 225, 226, 227] (by decide +kernel) (by decide +kernel)
set_option maxRecDepth 20000 in
theorem gX7_area_X3_split : GoodIn wsX7_area (wsV RX7 205 RX3 yX3_split wsX3_split) := goodIn_app (goodIn_of _ (by decide +kernel)) ggX7_area_X3_split
set_option maxRecDepth 20000 in
theorem ggX7_area_X3_measure : GoodIn wsX7_area wsX3_measure := goodIn_r _ [177, 141, 142, 147, 148, 149, 137, 150, 140, 151, 6, 152, 27, 28, 178, 179, 180, 167, 168, 169, 170, 143, 144, 145, 99, 146, 102, 104, 120, 181, 182, 183, 184, 185, 164, 165, 166, 171, 172, 173, 223, 224, 225, 226, 227, 199, 200, 201, 202] (by decide +kernel) (by decide +kernel)
set_option maxRecDepth 20000 in
theorem gX7_area_X3_measure : GoodIn wsX7_area (wsV RX7 213 RX3 yX3_measure wsX3_measure) := goodIn_app (goodIn_of _ (by decide +kernel)) ggX7_area_X3_measure
theorem dX7_area_0 : decode cX7_area 0 = .ok (.iload_n 1, 1) := by decide +kernel
theorem dX7_area_1 : decode cX7_area 1 = .ok (.iconst 0, 1) := by decide +kernel
theorem dX7_area_2 : decode cX7_area 2 = .ok (.iconst 3, 1) := by decide +kernel
theorem dX7_area_3 : decode cX7_area 3 = .ok (.invokestatic 65, 3) := by decide +kernel
theorem dX7_area_6 : decode cX7_area 6 = .ok (.ifCond .eq 16, 3) := by decide +kernel
theorem dX7_area_9 : decode cX7_area 9 = .ok (.iload_n 3, 1) := by decide +kernel
theorem dX7_area_10 : decode cX7_area 10 = .ok (.iconst 0, 1) := by decide +kernel
theorem dX7_area_11 : decode cX7_area 11 = .ok (.iconst 2, 1) := by decide +kernel
theorem dX7_area_12 : decode cX7_area 12 = .ok (.invokestatic 65, 3) := by decide +kernel
theorem dX7_area_15 : decode cX7_area 15 = .ok (.ifCond .eq 7, 3) := by decide +kernel
theorem dX7_area_18 : decode cX7_area 18 = .ok (.iload_n 2, 1) := by decide +kernel
theorem dX7_area_19 : decode cX7_area 19 = .ok (.ifCond .ge 5, 3) := by decide +kernel
theorem dX7_area_22 : decode cX7_area 22 = .ok (.iconst (-1), 1) := by decide +kernel
theorem dX7_area_23 : decode cX7_area 23 = .ok (.ireturn, 1) := by decide +kernel
theorem dX7_area_24 : decode cX7_area 24 = .ok (.aload_n 0, 1) := by decide +kernel
theorem dX7_area_25 : decode cX7_area 25 = .ok (.invokevirtual 183, 3) := by decide +kernel
theorem dX7_area_28 : decode cX7_area 28 = .ok (.ifCond .ne 6, 3) := by decide +kernel
theorem dX7_area_31 : decode cX7_area 31 = .ok (.bipush (-4), 2) := by decide +kernel
theorem dX7_area_33 : decode cX7_area 33 = .ok (.ireturn, 1) := by decide +kernel
theorem dX7_area_34 : decode cX7_area 34 = .ok (.aload_n 0, 1) := by decide +kernel
theorem dX7_area_35 : decode cX7_area 35 = .ok (.getfield 47, 3) := by decide +kernel
theorem dX7_area_38 : decode cX7_area 38 = .ok (.aload_n 0, 1) := by decide +kernel
theorem dX7_area_39 : decode cX7_area 39 = .ok (.getfield 33, 3) := by decide +kernel
theorem dX7_area_42 : decode cX7_area 42 = .ok (.iload_n 1, 1) := by decide +kernel
theorem dX7_area_43 : decode cX7_area 43 = .ok (.invokevirtual 205, 3) := by decide +kernel
theorem dX7_area_46 : decode cX7_area 46 = .ok (.iload_n 2, 1) := by decide +kernel
theorem dX7_area_47 : decode cX7_area 47 = .ok (.aload_n 0, 1) := by decide +kernel
theorem dX7_area_48 : decode cX7_area 48 = .ok (.getfield 47, 3) := by decide +kernel
theorem dX7_area_51 : decode cX7_area 51 = .ok (.getfield 209, 3) := by decide +kernel
theorem dX7_area_54 : decode cX7_area 54 = .ok (.if_icmp .lt 5, 3) := by decide +kernel
theorem dX7_area_57 : decode cX7_area 57 = .ok (.iconst (-1), 1) := by decide +kernel
theorem dX7_area_58 : decode cX7_area 58 = .ok (.ireturn, 1) := by decide +kernel
theorem dX7_area_59 : decode cX7_area 59 = .ok (.aload_n 0, 1) := by decide +kernel
theorem dX7_area_60 : decode cX7_area 60 = .ok (.getfield 47, 3) := by decide +kernel
theorem dX7_area_63 : decode cX7_area 63 = .ok (.aload_n 0, 1) := by decide +kernel
theorem dX7_area_64 : decode cX7_area 64 = .ok (.getfield 33, 3) := by decide +kernel
theorem dX7_area_67 : decode cX7_area 67 = .ok (.iload_n 1, 1) := by decide +kernel
theorem dX7_area_68 : decode cX7_area 68 = .ok (.iload_n 2, 1) := by decide +kernel
theorem dX7_area_69 : decode cX7_area 69 = .ok (.iload_n 3, 1) := by decide +kernel
theorem dX7_area_70 : decode cX7_area 70 = .ok (.invokevirtual 213, 3) := by decide +kernel
theorem dX7_area_73 : decode cX7_area 73 = .ok (.ireturn, 1) := by decide +kernel
set_option maxRecDepth 20000 in
theorem ggX7_slide_X7_isState : GoodIn wsX7_slide wsX7_isState := goodIn_r _ [6, 7, 8, 9, 10, 11, 12, 13, 14, 15, 5, 16, 17, 163, 164, 165, 166, 167, 168, 169, 170, 171, 172, 173, 174, 175, 176, 177, 178, 179, 180, 181, 182, 183, 184, 185, 186, 187] (by decide +kernel) (by decide +kernel)
set_option maxRecDepth 20000 in
theorem gX7_slide_X7_isState : GoodIn wsX7_slide (wsV RX7 180 RX7 yX7_isState wsX7_isState) := goodIn_app (goodIn_of _ (by decide +kernel)) ggX7_slide_X7_isState
set_option maxRecDepth 20000 in
theorem ggX7_slide_X7_isWithin : GoodIn wsX7_slide wsX7_isWithin := goodIn_r _ [16] (by decide +kernel) (by decide +kernel)
set_option maxRecDepth 20000 in
theorem gX7_slide_X7_isWithin : GoodIn wsX7_slide (va_wsS RX7 65 yX7_isWithin wsX7_isWithin) := goodIn_app (goodIn_of _ (by decide +kernel)) ggX7_slide_X7_isWithin
set_option maxRecDepth 20000 in
theorem ggX7_slide_X7_layOut : GoodIn wsX7_slide wsX7_layOut := goodIn_r _ [21, 22, 23, 1, 7, 24, 25, 26, 27, 28, 29, 30, 31, 32, 33, 34, 35, 36, 5, 37, 38, 39, 40, 41, 42, 43, 44, 45, 46, 47, 48, 49, 50, 51, 52, 53, 54, 55, 56, 57, 58, 59, 60, 61, 62, 63, 64, 65, 66, 67, 15, 16, 68, 69, 70, 71, 72, 73, 74, 75, 76, 77, 78, 79, 80, 81, 82, 83, 84, 85, 86, 87, 88, 89, 90, 91, 92, 93, 94, 95, 96, 97, 98, 99, 100, 101, 102, 103, 104, 105, 106, 107, 108, 109, 110, 111, 112, 113, 114, 115, 116, 117, 11, 118, 13, 119, 120, 121, 122, 123, 124, 125, 126, 127, 128, 129, 130, 131, 132, 133, 134, 135, 136, 137, 138, 139, 140, 163, 164, 165, 166, 167, 168, 169, 170, 171, 172, 173, 174, 175, 176, 177, 178, 179, 180, 181, 182, 183, 184, 185, 186, 187, 188, 189, 190, 191, 192, 193, 194, 195, 196, 197, 198, 199, 200] (by decide +kernel) (by decide +kernel)
set_option maxRecDepth 20000 in
theorem gX7_slide_X7_layOut : GoodIn wsX7_slide (wsV RX7 183 RX7 yX7_layOut wsX7_layOut) := goodIn_app (goodIn_of _ (by decide +kernel)) ggX7_slide_X7_layOut
set_option maxRecDepth 20000 in
theorem ggX7_slide_X1_fits : GoodIn wsX7_slide wsX1_fits := goodIn_r _ [144, 111, 113, 127, 36, 5, 37, 196, 197, 198, 199, 200] (by decide +kernel) (by decide +kernel)
set_option maxRecDepth 20000 in
theorem gX7_slide_X1_fits : GoodIn wsX7_slide (wsV RX7 186 RX1 yX1_fits wsX1_fits) := goodIn_app (goodIn_of _ (by decide +kernel)) ggX7_slide_X1_fits
set_option maxRecDepth 20000 in
theorem ggX7_slide_X7_stateOf : GoodIn wsX7_slide wsX7_stateOf := goodIn_r _ [147] (by decide +kernel) (by decide +kernel)
set_option maxRecDepth 20000 in
theorem gX7_slide_X7_stateOf : GoodIn wsX7_slide (va_wsS RX7 199 yX7_stateOf wsX7_stateOf) := goodIn_app (goodIn_of _ (by decide +kernel)) ggX7_slide_X7_stateOf
set_option maxRecDepth 20000 in
theorem ggX7_slide_X1_slideLength : GoodIn wsX7_slide wsX1_slideLength := goodIn_r _ [151, 152, 153, 154, 108, 155, 156, 5, 157, 158, 159, 160, 161, 162, 142, 143, 144, 111, 113, 127, 36, 37, 146, 147, 196, 197, 198, 199, 200] (by decide +kernel) (by decide +kernel)
set_option maxRecDepth 20000 in
theorem gX7_slide_X1_slideLength : GoodIn wsX7_slide (wsV RX7 217 RX1 yX1_slideLength wsX1_slideLength) := goodIn_app (goodIn_of _ (by decide +kernel)) ggX7_slide_X1_slideLength
theorem dX7_slide_0 : decode cX7_slide 0 = .ok (.aload_n 0, 1) := by decide +kernel
theorem dX7_slide_1 : decode cX7_slide 1 = .ok (.iload_n 1, 1) := by decide +kernel
theorem dX7_slide_2 : decode cX7_slide 2 = .ok (.iload_n 2, 1) := by decide +kernel
theorem dX7_slide_3 : decode cX7_slide 3 = .ok (.iload_n 3, 1) := by decide +kernel
theorem dX7_slide_4 : decode cX7_slide 4 = .ok (.invokevirtual 180, 3) := by decide +kernel
theorem dX7_slide_7 : decode cX7_slide 7 = .ok (.ifCond .eq 13, 3) := by decide +kernel
theorem dX7_slide_10 : decode cX7_slide 10 = .ok (.iload 4, 2) := by decide +kernel
theorem dX7_slide_12 : decode cX7_slide 12 = .ok (.iconst 0, 1) := by decide +kernel
theorem dX7_slide_13 : decode cX7_slide 13 = .ok (.iconst 3, 1) := by decide +kernel
theorem dX7_slide_14 : decode cX7_slide 14 = .ok (.invokestatic 65, 3) := by decide +kernel
theorem dX7_slide_17 : decode cX7_slide 17 = .ok (.ifCond .ne 5, 3) := by decide +kernel
theorem dX7_slide_20 : decode cX7_slide 20 = .ok (.iconst (-1), 1) := by decide +kernel
theorem dX7_slide_21 : decode cX7_slide 21 = .ok (.ireturn, 1) := by decide +kernel
theorem dX7_slide_22 : decode cX7_slide 22 = .ok (.aload_n 0, 1) := by decide +kernel
theorem dX7_slide_23 : decode cX7_slide 23 = .ok (.invokevirtual 183, 3) := by decide +kernel
theorem dX7_slide_26 : decode cX7_slide 26 = .ok (.ifCond .ne 6, 3) := by decide +kernel
theorem dX7_slide_29 : decode cX7_slide 29 = .ok (.bipush (-4), 2) := by decide +kernel
theorem dX7_slide_31 : decode cX7_slide 31 = .ok (.ireturn, 1) := by decide +kernel
theorem dX7_slide_32 : decode cX7_slide 32 = .ok (.aload_n 0, 1) := by decide +kernel
theorem dX7_slide_33 : decode cX7_slide 33 = .ok (.getfield 33, 3) := by decide +kernel
theorem dX7_slide_36 : decode cX7_slide 36 = .ok (.iload_n 3, 1) := by decide +kernel
theorem dX7_slide_37 : decode cX7_slide 37 = .ok (.iload_n 1, 1) := by decide +kernel
theorem dX7_slide_38 : decode cX7_slide 38 = .ok (.iload_n 2, 1) := by decide +kernel
theorem dX7_slide_39 : decode cX7_slide 39 = .ok (.invokevirtual 186, 3) := by decide +kernel
theorem dX7_slide_42 : decode cX7_slide 42 = .ok (.ifCond .ne 6, 3) := by decide +kernel
theorem dX7_slide_45 : decode cX7_slide 45 = .ok (.bipush (-9), 2) := by decide +kernel
theorem dX7_slide_47 : decode cX7_slide 47 = .ok (.ireturn, 1) := by decide +kernel
theorem dX7_slide_48 : decode cX7_slide 48 = .ok (.aload_n 0, 1) := by decide +kernel
theorem dX7_slide_49 : decode cX7_slide 49 = .ok (.getfield 33, 3) := by decide +kernel
theorem dX7_slide_52 : decode cX7_slide 52 = .ok (.iload_n 1, 1) := by decide +kernel
theorem dX7_slide_53 : decode cX7_slide 53 = .ok (.iload_n 2, 1) := by decide +kernel
theorem dX7_slide_54 : decode cX7_slide 54 = .ok (.iload_n 3, 1) := by decide +kernel
theorem dX7_slide_55 : decode cX7_slide 55 = .ok (.invokestatic 199, 3) := by decide +kernel
theorem dX7_slide_58 : decode cX7_slide 58 = .ok (.iload 4, 2) := by decide +kernel
theorem dX7_slide_60 : decode cX7_slide 60 = .ok (.invokevirtual 217, 3) := by decide +kernel
theorem dX7_slide_63 : decode cX7_slide 63 = .ok (.ireturn, 1) := by decide +kernel
set_option maxRecDepth 20000 in
theorem ggX7_end_X7_isState : GoodIn wsX7_end wsX7_isState := goodIn_r _ [7, 8, 9, 10, 11, 12, 13, 14, 15, 16, 6, 17, 18, 22, 23, 24, 25, 26, 27, 28, 29, 30, 31, 32, 33, 34, 35, 36, 37, 38, 39, 40, 41, 42, 43, 44, 45, 46] (by decide +kernel) (by decide +kernel)
set_option maxRecDepth 20000 in
theorem gX7_end_X7_isState : GoodIn wsX7_end (wsV RX7 180 RX7 yX7_isState wsX7_isState) := goodIn_app (goodIn_of _ (by decide +kernel)) ggX7_end_X7_isState
set_option maxRecDepth 20000 in
theorem ggX7_end_X7_stateOf : GoodIn wsX7_end wsX7_stateOf := goodIn_r _ [21] (by decide +kernel) (by decide +kernel)
set_option maxRecDepth 20000 in
theorem gX7_end_X7_stateOf : GoodIn wsX7_end (va_wsS RX7 199 yX7_stateOf wsX7_stateOf) := goodIn_app (goodIn_of _ (by decide +kernel)) ggX7_end_X7_stateOf
theorem dX7_end_0 : decode cX7_end 0 = .ok (.aload_n 0, 1) := by decide +kernel
theorem dX7_end_1 : decode cX7_end 1 = .ok (.iload_n 2, 1) := by decide +kernel
theorem dX7_end_2 : decode cX7_end 2 = .ok (.iload_n 3, 1) := by decide +kernel
theorem dX7_end_3 : decode cX7_end 3 = .ok (.iload 4, 2) := by decide +kernel
theorem dX7_end_5 : decode cX7_end 5 = .ok (.invokevirtual 180, 3) := by decide +kernel
theorem dX7_end_8 : decode cX7_end 8 = .ok (.ifCond .ne 5, 3) := by decide +kernel
theorem dX7_end_11 : decode cX7_end 11 = .ok (.iconst (-1), 1) := by decide +kernel
theorem dX7_end_12 : decode cX7_end 12 = .ok (.ireturn, 1) := by decide +kernel
theorem dX7_end_13 : decode cX7_end 13 = .ok (.iload_n 1, 1) := by decide +kernel
theorem dX7_end_14 : decode cX7_end 14 = .ok (.ifCond .eq 17, 3) := by decide +kernel
theorem dX7_end_17 : decode cX7_end 17 = .ok (.aload_n 0, 1) := by decide +kernel
theorem dX7_end_18 : decode cX7_end 18 = .ok (.iload_n 2, 1) := by decide +kernel
theorem dX7_end_19 : decode cX7_end 19 = .ok (.iload_n 3, 1) := by decide +kernel
theorem dX7_end_20 : decode cX7_end 20 = .ok (.iload 4, 2) := by decide +kernel
theorem dX7_end_22 : decode cX7_end 22 = .ok (.invokestatic 199, 3) := by decide +kernel
theorem dX7_end_25 : decode cX7_end 25 = .ok (.putfield 77, 3) := by decide +kernel
theorem dX7_end_28 : decode cX7_end 28 = .ok (.goto 14, 3) := by decide +kernel
theorem dX7_end_31 : decode cX7_end 31 = .ok (.aload_n 0, 1) := by decide +kernel
theorem dX7_end_32 : decode cX7_end 32 = .ok (.iload_n 2, 1) := by decide +kernel
theorem dX7_end_33 : decode cX7_end 33 = .ok (.iload_n 3, 1) := by decide +kernel
theorem dX7_end_34 : decode cX7_end 34 = .ok (.iload 4, 2) := by decide +kernel
theorem dX7_end_36 : decode cX7_end 36 = .ok (.invokestatic 199, 3) := by decide +kernel
theorem dX7_end_39 : decode cX7_end 39 = .ok (.putfield 73, 3) := by decide +kernel
theorem dX7_end_42 : decode cX7_end 42 = .ok (.iconst 1, 1) := by decide +kernel
theorem dX7_end_43 : decode cX7_end 43 = .ok (.ireturn, 1) := by decide +kernel
set_option maxRecDepth 20000 in
theorem ggX7_way_X7_layOut : GoodIn wsX7_way wsX7_layOut := goodIn_r _ [11, 12, 13, 2, 14, 15, 16, 17, 18, 19, 20, 21, 22, 23, 24, 25, 26, 27, 10, 28, 29, 30, 31, 32, 33, 34, 35, 36, 37, 38, 39, 40, 41, 42, 43, 44, 45, 46, 47, 48, 49, 50, 51, 52, 53, 54, 55, 56, 57, 58, 59, 60, 61, 62, 63, 64, 65, 66, 67, 68, 69, 70, 71, 72, 73, 74, 75, 76, 77, 78, 79, 80, 81, 82, 83, 84, 85, 86, 87, 88, 89, 90, 91, 92, 93, 94, 95, 96, 97, 98, 99, 100, 101, 102, 103, 104, 105, 106, 107, 108, 109, 110, 111, 112, 113, 114, 115, 116, 117, 118, 119, 120, 121, 122, 123, 124, 125, 126, 127, 128, 129, 130, 131, 132, 133, 134, 135, 206, 207, 208, 209, 210, 211, 212, 213, 214, 215, 216, 217, 218, 221, 222, 223, 224, 225, 226, 227, 228, 229, 230, 231, 232, 233, 234, 235, 236, 237, 238, 239, 240, 241, 242, 243, 244, 245] (by decide +kernel) (by decide +kernel)
set_option maxRecDepth 20000 in
theorem gX7_way_X7_layOut : GoodIn wsX7_way (wsV RX7 183 RX7 yX7_layOut wsX7_layOut) := goodIn_app (goodIn_of _ (by decide +kernel)) ggX7_way_X7_layOut
set_option maxRecDepth 20000 in
theorem ggX7_way_X5_run : GoodIn wsX7_way wsX5_run := goodIn_r _ [140, 141, 142, 143, 49, 10, 50, 144, 145, 146, 101, 147, 148, 149, 150, 151, 152, 153, 154, 155, 156, 157, 104, 106, 122, 27, 28, 158, 159, 160, 139, 161, 162, 163, 75, 76, 164, 165, 166, 167, 168, 169, 170, 171, 172, 173, 174, 175, 176, 177, 178, 179, 180, 181, 182, 183, 184, 185, 186, 187, 188, 189, 190, 191, 246, 247, 248, 249, 250, 251, 252, 241, 242, 243, 244, 245] (by decide +kernel) (by decide +kernel)
set_option maxRecDepth 20000 in
theorem gX7_way_X5_run : GoodIn wsX7_way (wsV RX7 220 RX5 yX5_run wsX5_run) := goodIn_app (goodIn_of _ (by decide +kernel)) ggX7_way_X5_run
set_option maxRecDepth 20000 in
theorem ggX7_way_X4_trace : GoodIn wsX7_way wsX4_trace := goodIn_r _ [196, 197, 198, 199, 200, 189, 190, 139, 191, 143, 27, 10, 28, 201, 202, 203, 204, 169, 178, 179, 180, 101, 181, 150, 151, 152, 153, 148, 149, 154, 155, 156, 157, 104, 106, 122, 182, 183, 188, 75, 76, 205, 219, 220, 246, 247, 248, 249, 250, 251, 252, 241, 242, 243, 244, 245] (by decide +kernel) (by decide +kernel)
set_option maxRecDepth 20000 in
theorem gX7_way_X4_trace : GoodIn wsX7_way (wsV RX7 223 RX4 yX4_trace wsX4_trace) := goodIn_app (goodIn_of _ (by decide +kernel)) ggX7_way_X4_trace
theorem dX7_way_0 : decode cX7_way 0 = .ok (.aload_n 0, 1) := by decide +kernel
theorem dX7_way_1 : decode cX7_way 1 = .ok (.invokevirtual 183, 3) := by decide +kernel
theorem dX7_way_4 : decode cX7_way 4 = .ok (.ifCond .ne 6, 3) := by decide +kernel
theorem dX7_way_7 : decode cX7_way 7 = .ok (.bipush (-4), 2) := by decide +kernel
theorem dX7_way_9 : decode cX7_way 9 = .ok (.ireturn, 1) := by decide +kernel
theorem dX7_way_10 : decode cX7_way 10 = .ok (.aload_n 0, 1) := by decide +kernel
theorem dX7_way_11 : decode cX7_way 11 = .ok (.getfield 40, 3) := by decide +kernel
theorem dX7_way_14 : decode cX7_way 14 = .ok (.aload_n 0, 1) := by decide +kernel
theorem dX7_way_15 : decode cX7_way 15 = .ok (.getfield 33, 3) := by decide +kernel
theorem dX7_way_18 : decode cX7_way 18 = .ok (.aload_n 0, 1) := by decide +kernel
theorem dX7_way_19 : decode cX7_way 19 = .ok (.getfield 73, 3) := by decide +kernel
theorem dX7_way_22 : decode cX7_way 22 = .ok (.invokevirtual 220, 3) := by decide +kernel
theorem dX7_way_25 : decode cX7_way 25 = .ok (.aload_n 0, 1) := by decide +kernel
theorem dX7_way_26 : decode cX7_way 26 = .ok (.getfield 54, 3) := by decide +kernel
theorem dX7_way_29 : decode cX7_way 29 = .ok (.aload_n 0, 1) := by decide +kernel
theorem dX7_way_30 : decode cX7_way 30 = .ok (.getfield 33, 3) := by decide +kernel
theorem dX7_way_33 : decode cX7_way 33 = .ok (.aload_n 0, 1) := by decide +kernel
theorem dX7_way_34 : decode cX7_way 34 = .ok (.getfield 40, 3) := by decide +kernel
theorem dX7_way_37 : decode cX7_way 37 = .ok (.aload_n 0, 1) := by decide +kernel
theorem dX7_way_38 : decode cX7_way 38 = .ok (.getfield 77, 3) := by decide +kernel
theorem dX7_way_41 : decode cX7_way 41 = .ok (.invokevirtual 223, 3) := by decide +kernel
theorem dX7_way_44 : decode cX7_way 44 = .ok (.aload_n 0, 1) := by decide +kernel
theorem dX7_way_45 : decode cX7_way 45 = .ok (.getfield 54, 3) := by decide +kernel
theorem dX7_way_48 : decode cX7_way 48 = .ok (.getfield 227, 3) := by decide +kernel
theorem dX7_way_51 : decode cX7_way 51 = .ok (.ireturn, 1) := by decide +kernel
set_option maxRecDepth 20000 in
theorem ggX7_step_X4_stepAt : GoodIn wsX7_step wsX4_stepAt := goodIn_r _ [6, 7, 8, 9, 10, 11, 12, 13, 27, 28] (by decide +kernel) (by decide +kernel)
set_option maxRecDepth 20000 in
theorem gX7_step_X4_stepAt : GoodIn wsX7_step (wsV RX7 230 RX4 yX4_stepAt wsX4_stepAt) := goodIn_app (goodIn_of _ (by decide +kernel)) ggX7_step_X4_stepAt
theorem dX7_step_0 : decode cX7_step 0 = .ok (.aload_n 0, 1) := by decide +kernel
theorem dX7_step_1 : decode cX7_step 1 = .ok (.getfield 54, 3) := by decide +kernel
theorem dX7_step_4 : decode cX7_step 4 = .ok (.iload_n 1, 1) := by decide +kernel
theorem dX7_step_5 : decode cX7_step 5 = .ok (.invokevirtual 230, 3) := by decide +kernel
theorem dX7_step_8 : decode cX7_step 8 = .ok (.ireturn, 1) := by decide +kernel
set_option maxRecDepth 20000 in
theorem ggX7_count_X7_isWithin : GoodIn wsX7_count wsX7_isWithin := goodIn_r _ [6] (by decide +kernel) (by decide +kernel)
set_option maxRecDepth 20000 in
theorem gX7_count_X7_isWithin : GoodIn wsX7_count (va_wsS RX7 65 yX7_isWithin wsX7_isWithin) := goodIn_app (goodIn_of _ (by decide +kernel)) ggX7_count_X7_isWithin
set_option maxRecDepth 20000 in
theorem ggX7_count_X4_turnCount : GoodIn wsX7_count wsX4_turnCount := goodIn_r _ [11, 12, 13, 14, 15, 10, 16, 17, 4, 5, 6, 18, 19, 37, 38] (by decide +kernel) (by decide +kernel)
set_option maxRecDepth 20000 in
theorem gX7_count_X4_turnCount : GoodIn wsX7_count (wsV RX7 233 RX4 yX4_turnCount wsX4_turnCount) := goodIn_app (goodIn_of _ (by decide +kernel)) ggX7_count_X4_turnCount
set_option maxRecDepth 20000 in
theorem ggX7_count_X4_slideCount : GoodIn wsX7_count wsX4_slideCount := goodIn_r _ [23, 12, 13, 14, 15, 10, 16, 17, 4, 5, 6, 18, 19, 37, 38] (by decide +kernel) (by decide +kernel)
set_option maxRecDepth 20000 in
theorem gX7_count_X4_slideCount : GoodIn wsX7_count (wsV RX7 236 RX4 yX4_slideCount wsX4_slideCount) := goodIn_app (goodIn_of _ (by decide +kernel)) ggX7_count_X4_slideCount
theorem dX7_count_0 : decode cX7_count 0 = .ok (.iload_n 1, 1) := by decide +kernel
theorem dX7_count_1 : decode cX7_count 1 = .ok (.iconst 0, 1) := by decide +kernel
theorem dX7_count_2 : decode cX7_count 2 = .ok (.iconst 1, 1) := by decide +kernel
theorem dX7_count_3 : decode cX7_count 3 = .ok (.invokestatic 65, 3) := by decide +kernel
theorem dX7_count_6 : decode cX7_count 6 = .ok (.ifCond .ne 5, 3) := by decide +kernel
theorem dX7_count_9 : decode cX7_count 9 = .ok (.iconst (-1), 1) := by decide +kernel
theorem dX7_count_10 : decode cX7_count 10 = .ok (.ireturn, 1) := by decide +kernel
theorem dX7_count_11 : decode cX7_count 11 = .ok (.aload_n 0, 1) := by decide +kernel
theorem dX7_count_12 : decode cX7_count 12 = .ok (.getfield 54, 3) := by decide +kernel
theorem dX7_count_15 : decode cX7_count 15 = .ok (.getfield 227, 3) := by decide +kernel
theorem dX7_count_18 : decode cX7_count 18 = .ok (.bipush (-9), 2) := by decide +kernel
theorem dX7_count_20 : decode cX7_count 20 = .ok (.if_icmp .ne 6, 3) := by decide +kernel
theorem dX7_count_23 : decode cX7_count 23 = .ok (.bipush (-9), 2) := by decide +kernel
theorem dX7_count_25 : decode cX7_count 25 = .ok (.ireturn, 1) := by decide +kernel
theorem dX7_count_26 : decode cX7_count 26 = .ok (.iload_n 1, 1) := by decide +kernel
theorem dX7_count_27 : decode cX7_count 27 = .ok (.ifCond .ne 13, 3) := by decide +kernel
theorem dX7_count_30 : decode cX7_count 30 = .ok (.aload_n 0, 1) := by decide +kernel
theorem dX7_count_31 : decode cX7_count 31 = .ok (.getfield 54, 3) := by decide +kernel
theorem dX7_count_34 : decode cX7_count 34 = .ok (.invokevirtual 233, 3) := by decide +kernel
theorem dX7_count_37 : decode cX7_count 37 = .ok (.goto 10, 3) := by decide +kernel
theorem dX7_count_40 : decode cX7_count 40 = .ok (.aload_n 0, 1) := by decide +kernel
theorem dX7_count_41 : decode cX7_count 41 = .ok (.getfield 54, 3) := by decide +kernel
theorem dX7_count_44 : decode cX7_count 44 = .ok (.invokevirtual 236, 3) := by decide +kernel
theorem dX7_count_47 : decode cX7_count 47 = .ok (.ireturn, 1) := by decide +kernel
set_option maxRecDepth 20000 in
theorem ggX7_reached_X7_layOut : GoodIn wsX7_reached wsX7_layOut := goodIn_r _ [9, 10, 11, 2, 12, 13, 14, 15, 16, 17, 18, 19, 20, 21, 22, 23, 24, 25, 8, 26, 27, 28, 29, 30, 31, 32, 33, 34, 35, 36, 37, 38, 39, 40, 41, 42, 43, 44, 45, 46, 47, 48, 49, 50, 51, 52, 53, 54, 55, 56, 57, 58, 59, 60, 61, 62, 63, 64, 65, 66, 67, 68, 69, 70, 71, 72, 73, 74, 75, 76, 77, 78, 79, 80, 81, 82, 83, 84, 85, 86, 87, 88, 89, 90, 91, 92, 93, 94, 95, 96, 97, 98, 99, 100, 101, 102, 103, 104, 105, 106, 107, 108, 109, 110, 111, 112, 113, 114, 115, 116, 117, 118, 119, 120, 121, 122, 123, 124, 125, 126, 127, 128, 129, 130, 131, 132, 133, 190, 191, 192, 193, 194, 195, 196, 197, 198, 199, 200, 201, 202, 210, 211, 212, 213, 214, 215, 216, 217, 218, 219, 220, 221, 222, 223, 224, 225, 226, 227, 228, 229, 230, 231, 232, 233, 234] (by decide +kernel) (by decide +kernel)
set_option maxRecDepth 20000 in
theorem gX7_reached_X7_layOut : GoodIn wsX7_reached (wsV RX7 183 RX7 yX7_layOut wsX7_layOut) := goodIn_app (goodIn_of _ (by decide +kernel)) ggX7_reached_X7_layOut
set_option maxRecDepth 20000 in
theorem ggX7_reached_X5_run : GoodIn wsX7_reached wsX5_run := goodIn_r _ [138, 139, 140, 141, 47, 8, 48, 142, 143, 144, 99, 145, 146, 147, 148, 149, 150, 151, 152, 153, 154, 155, 102, 104, 120, 25, 26, 156, 157, 158, 137, 159, 160, 161, 73, 74, 162, 163, 164, 165, 166, 167, 168, 169, 170, 171, 172, 173, 174, 175, 176, 177, 178, 179, 180, 181, 182, 183, 184, 185, 186, 187, 188, 189, 203, 204, 205, 206, 207, 208, 209, 230, 231, 232, 233, 234] (by decide +kernel) (by decide +kernel)
set_option maxRecDepth 20000 in
theorem gX7_reached_X5_run : GoodIn wsX7_reached (wsV RX7 220 RX5 yX5_run wsX5_run) := goodIn_app (goodIn_of _ (by decide +kernel)) ggX7_reached_X5_run
theorem dX7_reached_0 : decode cX7_reached 0 = .ok (.aload_n 0, 1) := by decide +kernel
theorem dX7_reached_1 : decode cX7_reached 1 = .ok (.invokevirtual 183, 3) := by decide +kernel
theorem dX7_reached_4 : decode cX7_reached 4 = .ok (.ifCond .ne 6, 3) := by decide +kernel
theorem dX7_reached_7 : decode cX7_reached 7 = .ok (.bipush (-4), 2) := by decide +kernel
theorem dX7_reached_9 : decode cX7_reached 9 = .ok (.ireturn, 1) := by decide +kernel
theorem dX7_reached_10 : decode cX7_reached 10 = .ok (.aload_n 0, 1) := by decide +kernel
theorem dX7_reached_11 : decode cX7_reached 11 = .ok (.getfield 40, 3) := by decide +kernel
theorem dX7_reached_14 : decode cX7_reached 14 = .ok (.aload_n 0, 1) := by decide +kernel
theorem dX7_reached_15 : decode cX7_reached 15 = .ok (.getfield 33, 3) := by decide +kernel
theorem dX7_reached_18 : decode cX7_reached 18 = .ok (.aload_n 0, 1) := by decide +kernel
theorem dX7_reached_19 : decode cX7_reached 19 = .ok (.getfield 73, 3) := by decide +kernel
theorem dX7_reached_22 : decode cX7_reached 22 = .ok (.invokevirtual 220, 3) := by decide +kernel
theorem dX7_reached_25 : decode cX7_reached 25 = .ok (.aload_n 0, 1) := by decide +kernel
theorem dX7_reached_26 : decode cX7_reached 26 = .ok (.getfield 40, 3) := by decide +kernel
theorem dX7_reached_29 : decode cX7_reached 29 = .ok (.getfield 239, 3) := by decide +kernel
theorem dX7_reached_32 : decode cX7_reached 32 = .ok (.ireturn, 1) := by decide +kernel
set_option maxRecDepth 20000 in
theorem ggX7_reaches_X7_isState : GoodIn wsX7_reaches wsX7_isState := goodIn_r _ [8, 9, 10, 11, 12, 13, 14, 15, 16, 17, 7, 18, 19, 201, 202, 203, 204, 205, 206, 207, 208, 209, 210, 211, 212, 213, 214, 215, 216, 217, 218, 219, 220, 221, 222, 223, 224, 225] (by decide +kernel) (by decide +kernel)
set_option maxRecDepth 20000 in
theorem gX7_reaches_X7_isState : GoodIn wsX7_reaches (wsV RX7 180 RX7 yX7_isState wsX7_isState) := goodIn_app (goodIn_of _ (by decide +kernel)) ggX7_reaches_X7_isState
set_option maxRecDepth 20000 in
theorem ggX7_reaches_X7_layOut : GoodIn wsX7_reaches wsX7_layOut := goodIn_r _ [23, 24, 25, 2, 9, 26, 27, 28, 29, 30, 31, 32, 33, 34, 35, 36, 37, 38, 7, 39, 40, 41, 42, 43, 44, 45, 46, 47, 48, 49, 50, 51, 52, 53, 54, 55, 56, 57, 58, 59, 60, 61, 62, 63, 64, 65, 66, 67, 68, 69, 17, 18, 70, 71, 72, 73, 74, 75, 76, 77, 78, 79, 80, 81, 82, 83, 84, 85, 86, 87, 88, 89, 90, 91, 92, 93, 94, 95, 96, 97, 98, 99, 100, 101, 102, 103, 104, 105, 106, 107, 108, 109, 110, 111, 112, 113, 114, 115, 116, 117, 118, 119, 13, 120, 15, 121, 122, 123, 124, 125, 126, 127, 128, 129, 130, 131, 132, 133, 134, 135, 136, 137, 138, 139, 140, 141, 142, 201, 202, 203, 204, 205, 206, 207, 208, 209, 210, 211, 212, 213, 214, 215, 216, 217, 218, 219, 220, 221, 222, 223, 224, 225, 226, 227, 228, 229, 230, 231, 232, 233, 234, 235, 236, 237, 238] (by decide +kernel) (by decide +kernel)
set_option maxRecDepth 20000 in
theorem gX7_reaches_X7_layOut : GoodIn wsX7_reaches (wsV RX7 183 RX7 yX7_layOut wsX7_layOut) := goodIn_app (goodIn_of _ (by decide +kernel)) ggX7_reaches_X7_layOut
set_option maxRecDepth 20000 in
theorem ggX7_reaches_X5_run : GoodIn wsX7_reaches wsX5_run := goodIn_r _ [147, 148, 149, 150, 60, 7, 61, 151, 152, 153, 110, 154, 155, 156, 157, 158, 159, 160, 161, 162, 163, 164, 113, 115, 129, 38, 39, 165, 166, 167, 146, 168, 169, 170, 84, 85, 171, 172, 173, 174, 175, 176, 177, 178, 179, 180, 181, 182, 183, 184, 185, 186, 187, 188, 189, 190, 191, 192, 193, 194, 195, 196, 197, 198, 239, 240, 241, 242, 243, 244, 245, 234, 235, 236, 237, 238] (by decide +kernel) (by decide +kernel)
set_option maxRecDepth 20000 in
theorem gX7_reaches_X5_run : GoodIn wsX7_reaches (wsV RX7 220 RX5 yX5_run wsX5_run) := goodIn_app (goodIn_of _ (by decide +kernel)) ggX7_reaches_X5_run
set_option maxRecDepth 20000 in
theorem ggX7_reaches_X7_stateOf : GoodIn wsX7_reaches wsX7_stateOf := goodIn_r _ [190] (by decide +kernel) (by decide +kernel)
set_option maxRecDepth 20000 in
theorem gX7_reaches_X7_stateOf : GoodIn wsX7_reaches (va_wsS RX7 199 yX7_stateOf wsX7_stateOf) := goodIn_app (goodIn_of _ (by decide +kernel)) ggX7_reaches_X7_stateOf
set_option maxRecDepth 20000 in
theorem ggX7_reaches_X5_isReached : GoodIn wsX7_reaches wsX5_isReached := goodIn_r _ [198, 150, 38, 7, 39, 239, 240, 241, 242, 243, 244, 245] (by decide +kernel) (by decide +kernel)
set_option maxRecDepth 20000 in
theorem gX7_reaches_X5_isReached : GoodIn wsX7_reaches (wsV RX7 242 RX5 yX5_isReached wsX5_isReached) := goodIn_app (goodIn_of _ (by decide +kernel)) ggX7_reaches_X5_isReached
theorem dX7_reaches_0 : decode cX7_reaches 0 = .ok (.aload_n 0, 1) := by decide +kernel
theorem dX7_reaches_1 : decode cX7_reaches 1 = .ok (.iload_n 1, 1) := by decide +kernel
theorem dX7_reaches_2 : decode cX7_reaches 2 = .ok (.iload_n 2, 1) := by decide +kernel
theorem dX7_reaches_3 : decode cX7_reaches 3 = .ok (.iload_n 3, 1) := by decide +kernel
theorem dX7_reaches_4 : decode cX7_reaches 4 = .ok (.invokevirtual 180, 3) := by decide +kernel
theorem dX7_reaches_7 : decode cX7_reaches 7 = .ok (.ifCond .ne 5, 3) := by decide +kernel
theorem dX7_reaches_10 : decode cX7_reaches 10 = .ok (.iconst (-1), 1) := by decide +kernel
theorem dX7_reaches_11 : decode cX7_reaches 11 = .ok (.ireturn, 1) := by decide +kernel
theorem dX7_reaches_12 : decode cX7_reaches 12 = .ok (.aload_n 0, 1) := by decide +kernel
theorem dX7_reaches_13 : decode cX7_reaches 13 = .ok (.invokevirtual 183, 3) := by decide +kernel
theorem dX7_reaches_16 : decode cX7_reaches 16 = .ok (.ifCond .ne 6, 3) := by decide +kernel
theorem dX7_reaches_19 : decode cX7_reaches 19 = .ok (.bipush (-4), 2) := by decide +kernel
theorem dX7_reaches_21 : decode cX7_reaches 21 = .ok (.ireturn, 1) := by decide +kernel
theorem dX7_reaches_22 : decode cX7_reaches 22 = .ok (.aload_n 0, 1) := by decide +kernel
theorem dX7_reaches_23 : decode cX7_reaches 23 = .ok (.getfield 40, 3) := by decide +kernel
theorem dX7_reaches_26 : decode cX7_reaches 26 = .ok (.aload_n 0, 1) := by decide +kernel
theorem dX7_reaches_27 : decode cX7_reaches 27 = .ok (.getfield 33, 3) := by decide +kernel
theorem dX7_reaches_30 : decode cX7_reaches 30 = .ok (.aload_n 0, 1) := by decide +kernel
theorem dX7_reaches_31 : decode cX7_reaches 31 = .ok (.getfield 73, 3) := by decide +kernel
theorem dX7_reaches_34 : decode cX7_reaches 34 = .ok (.invokevirtual 220, 3) := by decide +kernel
theorem dX7_reaches_37 : decode cX7_reaches 37 = .ok (.aload_n 0, 1) := by decide +kernel
theorem dX7_reaches_38 : decode cX7_reaches 38 = .ok (.getfield 40, 3) := by decide +kernel
theorem dX7_reaches_41 : decode cX7_reaches 41 = .ok (.iload_n 1, 1) := by decide +kernel
theorem dX7_reaches_42 : decode cX7_reaches 42 = .ok (.iload_n 2, 1) := by decide +kernel
theorem dX7_reaches_43 : decode cX7_reaches 43 = .ok (.iload_n 3, 1) := by decide +kernel
theorem dX7_reaches_44 : decode cX7_reaches 44 = .ok (.invokestatic 199, 3) := by decide +kernel
theorem dX7_reaches_47 : decode cX7_reaches 47 = .ok (.invokevirtual 242, 3) := by decide +kernel
theorem dX7_reaches_50 : decode cX7_reaches 50 = .ok (.ifCond .eq 7, 3) := by decide +kernel
theorem dX7_reaches_53 : decode cX7_reaches 53 = .ok (.iconst 1, 1) := by decide +kernel
theorem dX7_reaches_54 : decode cX7_reaches 54 = .ok (.goto 4, 3) := by decide +kernel
theorem dX7_reaches_57 : decode cX7_reaches 57 = .ok (.iconst 0, 1) := by decide +kernel
theorem dX7_reaches_58 : decode cX7_reaches 58 = .ok (.ireturn, 1) := by decide +kernel
set_option maxRecDepth 20000 in
theorem ggX7_held_X7_layOut : GoodIn wsX7_held wsX7_layOut := goodIn_r _ [8, 9, 10, 11, 12, 13, 14, 15, 16, 17, 18, 19, 20, 21, 22, 23, 24, 25, 7, 26, 27, 28, 29, 30, 31, 32, 33, 34, 35, 36, 37, 38, 39, 40, 41, 42, 43, 44, 45, 46, 47, 48, 49, 50, 51, 52, 53, 54, 55, 56, 57, 58, 59, 60, 61, 62, 63, 64, 65, 66, 67, 68, 69, 70, 71, 72, 73, 74, 75, 76, 77, 78, 79, 80, 81, 82, 83, 84, 85, 86, 87, 88, 89, 90, 91, 92, 93, 94, 95, 96, 97, 98, 99, 100, 101, 102, 103, 104, 105, 106, 107, 108, 109, 110, 111, 112, 113, 114, 115, 116, 117, 118, 119, 120, 121, 122, 123, 124, 125, 126, 127, 128, 129, 130, 131, 132, 133, 229, 230, 231, 232, 233, 234, 235, 236, 237, 238, 239, 240, 241, 249, 250, 251, 252, 253, 254, 255, 256, 257, 258, 259, 260, 261, 262, 263, 264, 265, 266, 267, 268, 269, 270, 271, 272, 273] (by decide +kernel) (by decide +kernel)
set_option maxRecDepth 20000 in
theorem gX7_held_X7_layOut : GoodIn wsX7_held (wsV RX7 183 RX7 yX7_layOut wsX7_layOut) := goodIn_app (goodIn_of _ (by decide +kernel)) ggX7_held_X7_layOut
set_option maxRecDepth 20000 in
theorem ggX7_held_X7_leadsToGoal : GoodIn wsX7_held wsX7_leadsToGoal := goodIn_r _ [137, 1, 11, 138, 139, 140, 141, 142, 143, 144, 145, 146, 147, 47, 7, 48, 148, 149, 150, 99, 151, 152, 153, 154, 155, 156, 157, 158, 159, 160, 161, 102, 104, 120, 25, 26, 162, 163, 164, 165, 166, 167, 73, 74, 168, 169, 170, 171, 172, 173, 174, 175, 176, 177, 178, 179, 180, 181, 182, 183, 184, 185, 186, 187, 188, 189, 190, 191, 192, 193, 194, 195, 196, 229, 230, 231, 232, 233, 234, 235, 236, 237, 238, 239, 240, 241, 242, 243, 244, 245, 246, 247, 248, 269, 270, 271, 272, 273] (by decide +kernel) (by decide +kernel)
set_option maxRecDepth 20000 in
theorem gX7_held_X7_leadsToGoal : GoodIn wsX7_held (wsV RX7 245 RX7 yX7_leadsToGoal wsX7_leadsToGoal) := goodIn_app (goodIn_of _ (by decide +kernel)) ggX7_held_X7_leadsToGoal
set_option maxRecDepth 20000 in
theorem ggX7_held_X7_at : GoodIn wsX7_held wsX7_at := goodIn_r _ [26] (by decide +kernel) (by decide +kernel)
set_option maxRecDepth 20000 in
theorem gX7_held_X7_at : GoodIn wsX7_held (va_wsS RX7 251 yX7_at wsX7_at) := goodIn_app (goodIn_of _ (by decide +kernel)) ggX7_held_X7_at
set_option maxRecDepth 20000 in
theorem ggX7_held_X7_holdersAt : GoodIn wsX7_held wsX7_holdersAt := goodIn_r _ [201, 202, 203, 204, 154, 7, 155, 205, 156, 157, 206, 152, 153, 207, 208, 209, 210, 12, 11, 10, 211, 212, 213, 109, 214, 111, 215, 57, 58, 216, 159, 160, 99, 161, 102, 104, 120, 25, 26, 217, 70, 71, 41, 72, 43, 218, 131, 132, 133, 67, 219, 127, 128, 129, 68, 220, 221, 222, 223, 112, 224, 225, 226, 227, 228, 113, 114, 115, 197, 229, 230, 231, 232, 233, 234, 235, 236, 237, 238, 239, 240, 241, 249, 250, 251, 252, 253, 254, 255, 256, 257, 258, 259, 260, 269, 270, 271, 272, 273, 266, 267, 268] (by decide +kernel) (by decide +kernel)
set_option maxRecDepth 20000 in
theorem gX7_held_X7_holdersAt : GoodIn wsX7_held (wsV RX7 255 RX7 yX7_holdersAt wsX7_holdersAt) := goodIn_app (goodIn_of _ (by decide +kernel)) ggX7_held_X7_holdersAt
theorem dX7_held_0 : decode cX7_held 0 = .ok (.aload_n 0, 1) := by decide +kernel
theorem dX7_held_1 : decode cX7_held 1 = .ok (.invokevirtual 183, 3) := by decide +kernel
theorem dX7_held_4 : decode cX7_held 4 = .ok (.ifCond .ne 6, 3) := by decide +kernel
theorem dX7_held_7 : decode cX7_held 7 = .ok (.bipush (-4), 2) := by decide +kernel
theorem dX7_held_9 : decode cX7_held 9 = .ok (.ireturn, 1) := by decide +kernel
theorem dX7_held_10 : decode cX7_held 10 = .ok (.aload_n 0, 1) := by decide +kernel
theorem dX7_held_11 : decode cX7_held 11 = .ok (.invokevirtual 245, 3) := by decide +kernel
theorem dX7_held_14 : decode cX7_held 14 = .ok (.ifCond .eq 5, 3) := by decide +kernel
theorem dX7_held_17 : decode cX7_held 17 = .ok (.iconst 0, 1) := by decide +kernel
theorem dX7_held_18 : decode cX7_held 18 = .ok (.ireturn, 1) := by decide +kernel
theorem dX7_held_19 : decode cX7_held 19 = .ok (.iconst 0, 1) := by decide +kernel
theorem dX7_held_20 : decode cX7_held 20 = .ok (.istore_n 1, 1) := by decide +kernel
theorem dX7_held_21 : decode cX7_held 21 = .ok (.iconst 0, 1) := by decide +kernel
theorem dX7_held_22 : decode cX7_held 22 = .ok (.istore_n 2, 1) := by decide +kernel
theorem dX7_held_23 : decode cX7_held 23 = .ok (.iload_n 2, 1) := by decide +kernel
theorem dX7_held_24 : decode cX7_held 24 = .ok (.aload_n 0, 1) := by decide +kernel
theorem dX7_held_25 : decode cX7_held 25 = .ok (.getfield 40, 3) := by decide +kernel
theorem dX7_held_28 : decode cX7_held 28 = .ok (.getfield 239, 3) := by decide +kernel
theorem dX7_held_31 : decode cX7_held 31 = .ok (.if_icmp .ge 27, 3) := by decide +kernel
theorem dX7_held_34 : decode cX7_held 34 = .ok (.iload_n 1, 1) := by decide +kernel
theorem dX7_held_35 : decode cX7_held 35 = .ok (.aload_n 0, 1) := by decide +kernel
theorem dX7_held_36 : decode cX7_held 36 = .ok (.aload_n 0, 1) := by decide +kernel
theorem dX7_held_37 : decode cX7_held 37 = .ok (.getfield 40, 3) := by decide +kernel
theorem dX7_held_40 : decode cX7_held 40 = .ok (.getfield 248, 3) := by decide +kernel
theorem dX7_held_43 : decode cX7_held 43 = .ok (.iload_n 2, 1) := by decide +kernel
theorem dX7_held_44 : decode cX7_held 44 = .ok (.invokestatic 251, 3) := by decide +kernel
theorem dX7_held_47 : decode cX7_held 47 = .ok (.invokevirtual 255, 3) := by decide +kernel
theorem dX7_held_50 : decode cX7_held 50 = .ok (.ior, 1) := by decide +kernel
theorem dX7_held_51 : decode cX7_held 51 = .ok (.istore_n 1, 1) := by decide +kernel
theorem dX7_held_52 : decode cX7_held 52 = .ok (.iinc 2 1, 3) := by decide +kernel
theorem dX7_held_55 : decode cX7_held 55 = .ok (.goto (-32), 3) := by decide +kernel
theorem dX7_held_58 : decode cX7_held 58 = .ok (.iload_n 1, 1) := by decide +kernel
theorem dX7_held_59 : decode cX7_held 59 = .ok (.ireturn, 1) := by decide +kernel
set_option maxRecDepth 20000 in
theorem ggX7_doors_X7_layOut : GoodIn wsX7_doors wsX7_layOut := goodIn_r _ [8, 9, 10, 11, 1, 3, 12, 13, 14, 15, 16, 17, 18, 19, 20, 21, 22, 23, 7, 24, 25, 26, 27, 28, 29, 30, 31, 32, 33, 34, 35, 36, 37, 38, 39, 40, 41, 42, 43, 44, 45, 46, 47, 48, 49, 50, 51, 52, 53, 54, 55, 56, 57, 58, 59, 60, 61, 62, 63, 64, 65, 66, 67, 68, 69, 70, 71, 72, 73, 74, 75, 76, 77, 78, 79, 80, 81, 82, 83, 84, 85, 86, 87, 88, 89, 90, 91, 92, 93, 94, 95, 96, 97, 98, 99, 100, 101, 102, 103, 104, 105, 106, 107, 108, 109, 110, 111, 112, 113, 114, 115, 116, 117, 118, 119, 120, 121, 122, 123, 124, 125, 126, 127, 128, 129, 130, 131, 197, 198, 199, 200, 201, 202, 203, 204, 205, 206, 207, 208, 209, 210, 211, 212, 213, 214, 215, 216, 217, 218, 219, 220, 221, 222, 223, 224, 225, 226, 227, 228, 229, 230, 231, 232, 233, 234] (by decide +kernel) (by decide +kernel)
set_option maxRecDepth 20000 in
theorem gX7_doors_X7_layOut : GoodIn wsX7_doors (wsV RX7 183 RX7 yX7_layOut wsX7_layOut) := goodIn_app (goodIn_of _ (by decide +kernel)) ggX7_doors_X7_layOut
set_option maxRecDepth 20000 in
theorem ggX7_doors_X7_opensWay : GoodIn wsX7_doors wsX7_opensWay := goodIn_r _ [135, 11, 1, 3, 10, 136, 137, 138, 94, 95, 96, 97, 98, 99, 100, 101, 102, 103, 45, 7, 46, 104, 105, 106, 107, 108, 109, 110, 111, 112, 113, 23, 24, 71, 72, 114, 115, 116, 117, 118, 119, 120, 121, 122, 123, 68, 69, 39, 70, 41, 124, 125, 126, 127, 66, 128, 129, 130, 131, 65, 139, 140, 141, 142, 143, 144, 145, 146, 147, 148, 149, 150, 151, 152, 153, 154, 155, 156, 157, 158, 159, 160, 161, 162, 163, 164, 165, 166, 167, 168, 169, 170, 171, 172, 173, 174, 175, 176, 177, 178, 179, 180, 181, 182, 183, 184, 185, 186, 187, 188, 189, 190, 191, 192, 193, 194, 195, 197, 198, 199, 200, 201, 202, 203, 204, 205, 206, 207, 208, 209, 210, 211, 212, 213, 214, 215, 216, 217, 218, 219, 220, 221, 230, 231, 232, 233, 234, 227, 228, 229, 235, 236, 237, 238, 239, 240, 241] (by decide +kernel) (by decide +kernel)
set_option maxRecDepth 20000 in
theorem gX7_doors_X7_opensWay : GoodIn wsX7_doors (wsV RX7 261 RX7 yX7_opensWay wsX7_opensWay) := goodIn_app (goodIn_of _ (by decide +kernel)) ggX7_doors_X7_opensWay
set_option maxRecDepth 20000 in
theorem ggX7_doors_J6_bitCount_0f7a4 : GoodIn wsX7_doors wsJ6_bitCount_0f7a4 := goodIn_r _ [32, 33, 34, 35] (by decide +kernel) (by decide +kernel)
set_option maxRecDepth 20000 in
theorem gX7_doors_J6_bitCount_0f7a4 : GoodIn wsX7_doors (va_wsS RX7 86 yJ6_bitCount_0f7a4 wsJ6_bitCount_0f7a4) := goodIn_app (goodIn_of _ (by decide +kernel)) ggX7_doors_J6_bitCount_0f7a4
theorem dX7_doors_0 : decode cX7_doors 0 = .ok (.aload_n 0, 1) := by decide +kernel
theorem dX7_doors_1 : decode cX7_doors 1 = .ok (.invokevirtual 183, 3) := by decide +kernel
theorem dX7_doors_4 : decode cX7_doors 4 = .ok (.ifCond .ne 6, 3) := by decide +kernel
theorem dX7_doors_7 : decode cX7_doors 7 = .ok (.bipush (-4), 2) := by decide +kernel
theorem dX7_doors_9 : decode cX7_doors 9 = .ok (.ireturn, 1) := by decide +kernel
theorem dX7_doors_10 : decode cX7_doors 10 = .ok (.aload_n 0, 1) := by decide +kernel
theorem dX7_doors_11 : decode cX7_doors 11 = .ok (.getfield 12, 3) := by decide +kernel
theorem dX7_doors_14 : decode cX7_doors 14 = .ok (.getfield 83, 3) := by decide +kernel
theorem dX7_doors_17 : decode cX7_doors 17 = .ok (.aload_n 0, 1) := by decide +kernel
theorem dX7_doors_18 : decode cX7_doors 18 = .ok (.getfield 12, 3) := by decide +kernel
theorem dX7_doors_21 : decode cX7_doors 21 = .ok (.getfield 258, 3) := by decide +kernel
theorem dX7_doors_24 : decode cX7_doors 24 = .ok (.iconst (-1), 1) := by decide +kernel
theorem dX7_doors_25 : decode cX7_doors 25 = .ok (.ixor, 1) := by decide +kernel
theorem dX7_doors_26 : decode cX7_doors 26 = .ok (.iand, 1) := by decide +kernel
theorem dX7_doors_27 : decode cX7_doors 27 = .ok (.istore_n 1, 1) := by decide +kernel
theorem dX7_doors_28 : decode cX7_doors 28 = .ok (.aload_n 0, 1) := by decide +kernel
theorem dX7_doors_29 : decode cX7_doors 29 = .ok (.iload_n 1, 1) := by decide +kernel
theorem dX7_doors_30 : decode cX7_doors 30 = .ok (.invokevirtual 261, 3) := by decide +kernel
theorem dX7_doors_33 : decode cX7_doors 33 = .ok (.ifCond .ne 6, 3) := by decide +kernel
theorem dX7_doors_36 : decode cX7_doors 36 = .ok (.bipush (-9), 2) := by decide +kernel
theorem dX7_doors_38 : decode cX7_doors 38 = .ok (.ireturn, 1) := by decide +kernel
theorem dX7_doors_39 : decode cX7_doors 39 = .ok (.iload_n 1, 1) := by decide +kernel
theorem dX7_doors_40 : decode cX7_doors 40 = .ok (.istore_n 2, 1) := by decide +kernel
theorem dX7_doors_41 : decode cX7_doors 41 = .ok (.iconst 0, 1) := by decide +kernel
theorem dX7_doors_42 : decode cX7_doors 42 = .ok (.istore_n 3, 1) := by decide +kernel
theorem dX7_doors_43 : decode cX7_doors 43 = .ok (.iload_n 3, 1) := by decide +kernel
theorem dX7_doors_44 : decode cX7_doors 44 = .ok (.iload_n 1, 1) := by decide +kernel
theorem dX7_doors_45 : decode cX7_doors 45 = .ok (.if_icmp .ge 50, 3) := by decide +kernel
theorem dX7_doors_48 : decode cX7_doors 48 = .ok (.iload_n 3, 1) := by decide +kernel
theorem dX7_doors_49 : decode cX7_doors 49 = .ok (.iload_n 1, 1) := by decide +kernel
theorem dX7_doors_50 : decode cX7_doors 50 = .ok (.iconst (-1), 1) := by decide +kernel
theorem dX7_doors_51 : decode cX7_doors 51 = .ok (.ixor, 1) := by decide +kernel
theorem dX7_doors_52 : decode cX7_doors 52 = .ok (.iand, 1) := by decide +kernel
theorem dX7_doors_53 : decode cX7_doors 53 = .ok (.ifCond .ne 7, 3) := by decide +kernel
theorem dX7_doors_56 : decode cX7_doors 56 = .ok (.iconst 1, 1) := by decide +kernel
theorem dX7_doors_57 : decode cX7_doors 57 = .ok (.goto 4, 3) := by decide +kernel
theorem dX7_doors_60 : decode cX7_doors 60 = .ok (.iconst 0, 1) := by decide +kernel
theorem dX7_doors_61 : decode cX7_doors 61 = .ok (.istore 4, 2) := by decide +kernel
theorem dX7_doors_63 : decode cX7_doors 63 = .ok (.iload 4, 2) := by decide +kernel
theorem dX7_doors_65 : decode cX7_doors 65 = .ok (.ifCond .eq 24, 3) := by decide +kernel
theorem dX7_doors_68 : decode cX7_doors 68 = .ok (.iload_n 3, 1) := by decide +kernel
theorem dX7_doors_69 : decode cX7_doors 69 = .ok (.invokestatic 86, 3) := by decide +kernel
theorem dX7_doors_72 : decode cX7_doors 72 = .ok (.iload_n 2, 1) := by decide +kernel
theorem dX7_doors_73 : decode cX7_doors 73 = .ok (.invokestatic 86, 3) := by decide +kernel
theorem dX7_doors_76 : decode cX7_doors 76 = .ok (.if_icmp .ge 13, 3) := by decide +kernel
theorem dX7_doors_79 : decode cX7_doors 79 = .ok (.aload_n 0, 1) := by decide +kernel
theorem dX7_doors_80 : decode cX7_doors 80 = .ok (.iload_n 3, 1) := by decide +kernel
theorem dX7_doors_81 : decode cX7_doors 81 = .ok (.invokevirtual 261, 3) := by decide +kernel
theorem dX7_doors_84 : decode cX7_doors 84 = .ok (.ifCond .eq 5, 3) := by decide +kernel
theorem dX7_doors_87 : decode cX7_doors 87 = .ok (.iload_n 3, 1) := by decide +kernel
theorem dX7_doors_88 : decode cX7_doors 88 = .ok (.istore_n 2, 1) := by decide +kernel
theorem dX7_doors_89 : decode cX7_doors 89 = .ok (.iinc 3 1, 3) := by decide +kernel
theorem dX7_doors_92 : decode cX7_doors 92 = .ok (.goto (-49), 3) := by decide +kernel
theorem dX7_doors_95 : decode cX7_doors 95 = .ok (.iload_n 2, 1) := by decide +kernel
theorem dX7_doors_96 : decode cX7_doors 96 = .ok (.ireturn, 1) := by decide +kernel
set_option maxRecDepth 20000 in
theorem ggX7_narrow_X7_isWithin : GoodIn wsX7_narrow wsX7_isWithin := goodIn_r _ [6] (by decide +kernel) (by decide +kernel)
set_option maxRecDepth 20000 in
theorem gX7_narrow_X7_isWithin : GoodIn wsX7_narrow (va_wsS RX7 65 yX7_isWithin wsX7_isWithin) := goodIn_app (goodIn_of _ (by decide +kernel)) ggX7_narrow_X7_isWithin
set_option maxRecDepth 20000 in
theorem ggX7_narrow_X7_layOut : GoodIn wsX7_narrow wsX7_layOut := goodIn_r _ [10, 11, 2, 1, 12, 13, 14, 15, 16, 17, 18, 19, 20, 21, 22, 23, 24, 25, 5, 26, 27, 28, 29, 30, 31, 32, 33, 34, 35, 36, 37, 38, 39, 40, 41, 42, 43, 44, 45, 46, 47, 48, 49, 50, 51, 52, 53, 54, 55, 56, 4, 6, 57, 58, 59, 60, 61, 62, 63, 64, 65, 66, 67, 68, 69, 70, 71, 72, 73, 74, 75, 76, 77, 78, 79, 80, 81, 82, 83, 84, 85, 86, 87, 88, 89, 90, 91, 92, 93, 94, 95, 96, 97, 98, 99, 100, 101, 102, 103, 104, 105, 106, 107, 108, 109, 110, 111, 112, 113, 114, 115, 116, 117, 118, 119, 120, 121, 122, 123, 124, 125, 126, 127, 128, 129, 130, 131, 201, 202, 203, 204, 205, 206, 207, 208, 209, 210, 211, 212, 213, 214, 215, 216, 217, 218, 219, 220, 221, 222, 223, 224, 225, 226, 227, 228, 229, 230, 231, 232, 233, 234, 235, 236, 237, 238] (by decide +kernel) (by decide +kernel)
set_option maxRecDepth 20000 in
theorem gX7_narrow_X7_layOut : GoodIn wsX7_narrow (wsV RX7 183 RX7 yX7_layOut wsX7_layOut) := goodIn_app (goodIn_of _ (by decide +kernel)) ggX7_narrow_X7_layOut
set_option maxRecDepth 20000 in
theorem ggX7_narrow_X7_leadsToGoal : GoodIn wsX7_narrow wsX7_leadsToGoal := goodIn_r _ [135, 136, 1, 137, 138, 139, 140, 141, 142, 143, 144, 145, 146, 47, 5, 48, 147, 148, 149, 97, 150, 151, 152, 153, 154, 155, 156, 157, 158, 159, 160, 100, 102, 118, 25, 26, 161, 162, 163, 164, 165, 166, 71, 72, 167, 168, 169, 170, 171, 172, 173, 174, 175, 176, 177, 178, 179, 180, 181, 182, 183, 184, 185, 186, 187, 188, 189, 190, 191, 192, 193, 194, 195, 201, 202, 203, 204, 205, 206, 207, 208, 209, 210, 211, 212, 213, 239, 240, 241, 242, 243, 244, 245, 234, 235, 236, 237, 238] (by decide +kernel) (by decide +kernel)
set_option maxRecDepth 20000 in
theorem gX7_narrow_X7_leadsToGoal : GoodIn wsX7_narrow (wsV RX7 245 RX7 yX7_leadsToGoal wsX7_leadsToGoal) := goodIn_app (goodIn_of _ (by decide +kernel)) ggX7_narrow_X7_leadsToGoal
set_option maxRecDepth 20000 in
theorem ggX7_narrow_X1_grow : GoodIn wsX7_narrow wsX1_grow := goodIn_r _ [199, 200, 103, 25, 5, 26, 71, 72, 234, 235, 236, 237, 238] (by decide +kernel) (by decide +kernel)
set_option maxRecDepth 20000 in
theorem gX7_narrow_X1_grow : GoodIn wsX7_narrow (wsV RX7 264 RX1 yX1_grow wsX1_grow) := goodIn_app (goodIn_of _ (by decide +kernel)) ggX7_narrow_X1_grow
set_option maxRecDepth 20000 in
theorem ggX7_narrow_X1_mark : GoodIn wsX7_narrow wsX1_mark := goodIn_r _ [117, 102, 118, 119, 120, 121, 97, 122, 100, 103, 123, 68, 69, 41, 70, 43, 25, 5, 26, 124, 125, 126, 127, 66, 128, 129, 130, 131, 65, 71, 72, 234, 235, 236, 237, 238, 231, 232, 233] (by decide +kernel) (by decide +kernel)
set_option maxRecDepth 20000 in
theorem gX7_narrow_X1_mark : GoodIn wsX7_narrow (wsV RX7 267 RX1 yX1_mark wsX1_mark) := goodIn_app (goodIn_of _ (by decide +kernel)) ggX7_narrow_X1_mark
theorem dX7_narrow_0 : decode cX7_narrow 0 = .ok (.iload_n 1, 1) := by decide +kernel
theorem dX7_narrow_1 : decode cX7_narrow 1 = .ok (.iconst 0, 1) := by decide +kernel
theorem dX7_narrow_2 : decode cX7_narrow 2 = .ok (.bipush 9, 2) := by decide +kernel
theorem dX7_narrow_4 : decode cX7_narrow 4 = .ok (.invokestatic 65, 3) := by decide +kernel
theorem dX7_narrow_7 : decode cX7_narrow 7 = .ok (.ifCond .ne 5, 3) := by decide +kernel
theorem dX7_narrow_10 : decode cX7_narrow 10 = .ok (.iconst (-1), 1) := by decide +kernel
theorem dX7_narrow_11 : decode cX7_narrow 11 = .ok (.ireturn, 1) := by decide +kernel
theorem dX7_narrow_12 : decode cX7_narrow 12 = .ok (.aload_n 0, 1) := by decide +kernel
theorem dX7_narrow_13 : decode cX7_narrow 13 = .ok (.invokevirtual 183, 3) := by decide +kernel
theorem dX7_narrow_16 : decode cX7_narrow 16 = .ok (.ifCond .ne 6, 3) := by decide +kernel
theorem dX7_narrow_19 : decode cX7_narrow 19 = .ok (.bipush (-4), 2) := by decide +kernel
theorem dX7_narrow_21 : decode cX7_narrow 21 = .ok (.ireturn, 1) := by decide +kernel
theorem dX7_narrow_22 : decode cX7_narrow 22 = .ok (.bipush (-9), 2) := by decide +kernel
theorem dX7_narrow_24 : decode cX7_narrow 24 = .ok (.istore_n 2, 1) := by decide +kernel
theorem dX7_narrow_25 : decode cX7_narrow 25 = .ok (.iconst 0, 1) := by decide +kernel
theorem dX7_narrow_26 : decode cX7_narrow 26 = .ok (.istore_n 3, 1) := by decide +kernel
theorem dX7_narrow_27 : decode cX7_narrow 27 = .ok (.iload_n 3, 1) := by decide +kernel
theorem dX7_narrow_28 : decode cX7_narrow 28 = .ok (.iload_n 1, 1) := by decide +kernel
theorem dX7_narrow_29 : decode cX7_narrow 29 = .ok (.if_icmp .gt 36, 3) := by decide +kernel
theorem dX7_narrow_32 : decode cX7_narrow 32 = .ok (.aload_n 0, 1) := by decide +kernel
theorem dX7_narrow_33 : decode cX7_narrow 33 = .ok (.invokevirtual 245, 3) := by decide +kernel
theorem dX7_narrow_36 : decode cX7_narrow 36 = .ok (.ifCond .eq 29, 3) := by decide +kernel
theorem dX7_narrow_39 : decode cX7_narrow 39 = .ok (.iload_n 3, 1) := by decide +kernel
theorem dX7_narrow_40 : decode cX7_narrow 40 = .ok (.istore_n 2, 1) := by decide +kernel
theorem dX7_narrow_41 : decode cX7_narrow 41 = .ok (.aload_n 0, 1) := by decide +kernel
theorem dX7_narrow_42 : decode cX7_narrow 42 = .ok (.getfield 33, 3) := by decide +kernel
theorem dX7_narrow_45 : decode cX7_narrow 45 = .ok (.invokevirtual 264, 3) := by decide +kernel
theorem dX7_narrow_48 : decode cX7_narrow 48 = .ok (.aload_n 0, 1) := by decide +kernel
theorem dX7_narrow_49 : decode cX7_narrow 49 = .ok (.getfield 33, 3) := by decide +kernel
theorem dX7_narrow_52 : decode cX7_narrow 52 = .ok (.aload_n 0, 1) := by decide +kernel
theorem dX7_narrow_53 : decode cX7_narrow 53 = .ok (.getfield 26, 3) := by decide +kernel
theorem dX7_narrow_56 : decode cX7_narrow 56 = .ok (.invokevirtual 267, 3) := by decide +kernel
theorem dX7_narrow_59 : decode cX7_narrow 59 = .ok (.iinc 3 1, 3) := by decide +kernel
theorem dX7_narrow_62 : decode cX7_narrow 62 = .ok (.goto (-35), 3) := by decide +kernel
theorem dX7_narrow_65 : decode cX7_narrow 65 = .ok (.iload_n 2, 1) := by decide +kernel
theorem dX7_narrow_66 : decode cX7_narrow 66 = .ok (.ireturn, 1) := by decide +kernel
set_option maxRecDepth 20000 in
theorem ggX7_draft_X7_isWithin : GoodIn wsX7_draft wsX7_isWithin := goodIn_r _ [6] (by decide +kernel) (by decide +kernel)
set_option maxRecDepth 20000 in
theorem gX7_draft_X7_isWithin : GoodIn wsX7_draft (va_wsS RX7 65 yX7_isWithin wsX7_isWithin) := goodIn_app (goodIn_of _ (by decide +kernel)) ggX7_draft_X7_isWithin
set_option maxRecDepth 20000 in
theorem ggX7_draft_X7_put : GoodIn wsX7_draft wsX7_put := goodIn_r _ [9] (by decide +kernel) (by decide +kernel)
set_option maxRecDepth 20000 in
theorem gX7_draft_X7_put : GoodIn wsX7_draft (va_wsS RX7 274 yX7_put wsX7_put) := goodIn_app (goodIn_of _ (by decide +kernel)) ggX7_draft_X7_put
theorem dX7_draft_0 : decode cX7_draft 0 = .ok (.iload_n 1, 1) := by decide +kernel
theorem dX7_draft_1 : decode cX7_draft 1 = .ok (.iconst 0, 1) := by decide +kernel
theorem dX7_draft_2 : decode cX7_draft 2 = .ok (.iconst 5, 1) := by decide +kernel
theorem dX7_draft_3 : decode cX7_draft 3 = .ok (.invokestatic 65, 3) := by decide +kernel
theorem dX7_draft_6 : decode cX7_draft 6 = .ok (.ifCond .ne 5, 3) := by decide +kernel
theorem dX7_draft_9 : decode cX7_draft 9 = .ok (.iconst (-1), 1) := by decide +kernel
theorem dX7_draft_10 : decode cX7_draft 10 = .ok (.ireturn, 1) := by decide +kernel
theorem dX7_draft_11 : decode cX7_draft 11 = .ok (.aload_n 0, 1) := by decide +kernel
theorem dX7_draft_12 : decode cX7_draft 12 = .ok (.getfield 271, 3) := by decide +kernel
theorem dX7_draft_15 : decode cX7_draft 15 = .ok (.sipush 200, 3) := by decide +kernel
theorem dX7_draft_18 : decode cX7_draft 18 = .ok (.if_icmp .lt 6, 3) := by decide +kernel
theorem dX7_draft_21 : decode cX7_draft 21 = .ok (.bipush (-2), 2) := by decide +kernel
theorem dX7_draft_23 : decode cX7_draft 23 = .ok (.ireturn, 1) := by decide +kernel
theorem dX7_draft_24 : decode cX7_draft 24 = .ok (.aload_n 0, 1) := by decide +kernel
theorem dX7_draft_25 : decode cX7_draft 25 = .ok (.getfield 58, 3) := by decide +kernel
theorem dX7_draft_28 : decode cX7_draft 28 = .ok (.aload_n 0, 1) := by decide +kernel
theorem dX7_draft_29 : decode cX7_draft 29 = .ok (.getfield 271, 3) := by decide +kernel
theorem dX7_draft_32 : decode cX7_draft 32 = .ok (.iload_n 1, 1) := by decide +kernel
theorem dX7_draft_33 : decode cX7_draft 33 = .ok (.invokestatic 274, 3) := by decide +kernel
theorem dX7_draft_36 : decode cX7_draft 36 = .ok (.aload_n 0, 1) := by decide +kernel
theorem dX7_draft_37 : decode cX7_draft 37 = .ok (.dup, 1) := by decide +kernel
theorem dX7_draft_38 : decode cX7_draft 38 = .ok (.getfield 271, 3) := by decide +kernel
theorem dX7_draft_41 : decode cX7_draft 41 = .ok (.iconst 1, 1) := by decide +kernel
theorem dX7_draft_42 : decode cX7_draft 42 = .ok (.iadd, 1) := by decide +kernel
theorem dX7_draft_43 : decode cX7_draft 43 = .ok (.putfield 271, 3) := by decide +kernel
theorem dX7_draft_46 : decode cX7_draft 46 = .ok (.aload_n 0, 1) := by decide +kernel
theorem dX7_draft_47 : decode cX7_draft 47 = .ok (.getfield 271, 3) := by decide +kernel
theorem dX7_draft_50 : decode cX7_draft 50 = .ok (.ireturn, 1) := by decide +kernel
set_option maxRecDepth 20000 in
theorem ggX7_check_X7_layOut : GoodIn wsX7_check wsX7_layOut := goodIn_r _ [10, 11, 12, 2, 13, 14, 15, 16, 17, 18, 19, 20, 21, 22, 23, 24, 25, 26, 9, 27, 28, 29, 30, 31, 32, 33, 34, 35, 36, 37, 38, 39, 40, 41, 42, 43, 44, 45, 46, 47, 48, 49, 50, 51, 52, 53, 54, 55, 56, 57, 58, 59, 60, 61, 62, 63, 64, 65, 66, 67, 68, 69, 70, 71, 72, 73, 74, 75, 76, 77, 78, 79, 80, 81, 82, 83, 84, 85, 86, 87, 88, 89, 90, 91, 92, 93, 94, 95, 96, 97, 98, 99, 100, 101, 102, 103, 104, 105, 106, 107, 108, 109, 110, 111, 112, 113, 114, 115, 116, 117, 118, 119, 120, 121, 122, 123, 124, 125, 126, 127, 128, 129, 130, 131, 132, 133, 134, 156, 157, 158, 159, 160, 161, 162, 163, 164, 165, 166, 167, 168, 169, 170, 171, 172, 173, 174, 175, 176, 177, 178, 179, 180, 181, 182, 183, 184, 185, 186, 187, 188, 189, 190, 191, 192, 193] (by decide +kernel) (by decide +kernel)
set_option maxRecDepth 20000 in
theorem gX7_check_X7_layOut : GoodIn wsX7_check (wsV RX7 183 RX7 yX7_layOut wsX7_layOut) := goodIn_app (goodIn_of _ (by decide +kernel)) ggX7_check_X7_layOut
set_option maxRecDepth 20000 in
theorem ggX7_check_X1_isFree : GoodIn wsX7_check wsX1_isFree := goodIn_r _ [138, 139, 9, 140, 141, 142, 143, 144, 145, 146, 147, 100, 148, 103, 105, 121, 26, 27, 189, 190, 191, 192, 193] (by decide +kernel) (by decide +kernel)
set_option maxRecDepth 20000 in
theorem gX7_check_X1_isFree : GoodIn wsX7_check (wsV RX7 278 RX1 yX1_isFree wsX1_isFree) := goodIn_app (goodIn_of _ (by decide +kernel)) ggX7_check_X1_isFree
set_option maxRecDepth 20000 in
theorem ggX7_check_X7_at : GoodIn wsX7_check wsX7_at := goodIn_r _ [27] (by decide +kernel) (by decide +kernel)
set_option maxRecDepth 20000 in
theorem gX7_check_X7_at : GoodIn wsX7_check (va_wsS RX7 251 yX7_at wsX7_at) := goodIn_app (goodIn_of _ (by decide +kernel)) ggX7_check_X7_at
set_option maxRecDepth 20000 in
theorem ggX7_check_X1_lead : GoodIn wsX7_check wsX1_lead := goodIn_r _ [153, 141, 9, 142, 143, 144, 139, 140, 145, 146, 147, 100, 148, 103, 105, 121, 26, 27, 154, 155, 189, 190, 191, 192, 193] (by decide +kernel) (by decide +kernel)
set_option maxRecDepth 20000 in
theorem gX7_check_X1_lead : GoodIn wsX7_check (wsV RX7 281 RX1 yX1_lead wsX1_lead) := goodIn_app (goodIn_of _ (by decide +kernel)) ggX7_check_X1_lead
theorem dX7_check_0 : decode cX7_check 0 = .ok (.aload_n 0, 1) := by decide +kernel
theorem dX7_check_1 : decode cX7_check 1 = .ok (.getfield 271, 3) := by decide +kernel
theorem dX7_check_4 : decode cX7_check 4 = .ok (.istore_n 1, 1) := by decide +kernel
theorem dX7_check_5 : decode cX7_check 5 = .ok (.aload_n 0, 1) := by decide +kernel
theorem dX7_check_6 : decode cX7_check 6 = .ok (.iconst 0, 1) := by decide +kernel
theorem dX7_check_7 : decode cX7_check 7 = .ok (.putfield 271, 3) := by decide +kernel
theorem dX7_check_10 : decode cX7_check 10 = .ok (.aload_n 0, 1) := by decide +kernel
theorem dX7_check_11 : decode cX7_check 11 = .ok (.invokevirtual 183, 3) := by decide +kernel
theorem dX7_check_14 : decode cX7_check 14 = .ok (.ifCond .ne 6, 3) := by decide +kernel
theorem dX7_check_17 : decode cX7_check 17 = .ok (.bipush (-4), 2) := by decide +kernel
theorem dX7_check_19 : decode cX7_check 19 = .ok (.ireturn, 1) := by decide +kernel
theorem dX7_check_20 : decode cX7_check 20 = .ok (.aload_n 0, 1) := by decide +kernel
theorem dX7_check_21 : decode cX7_check 21 = .ok (.getfield 33, 3) := by decide +kernel
theorem dX7_check_24 : decode cX7_check 24 = .ok (.aload_n 0, 1) := by decide +kernel
theorem dX7_check_25 : decode cX7_check 25 = .ok (.getfield 73, 3) := by decide +kernel
theorem dX7_check_28 : decode cX7_check 28 = .ok (.invokevirtual 278, 3) := by decide +kernel
theorem dX7_check_31 : decode cX7_check 31 = .ok (.ifCond .ne 6, 3) := by decide +kernel
theorem dX7_check_34 : decode cX7_check 34 = .ok (.bipush (-10), 2) := by decide +kernel
theorem dX7_check_36 : decode cX7_check 36 = .ok (.ireturn, 1) := by decide +kernel
theorem dX7_check_37 : decode cX7_check 37 = .ok (.aload_n 0, 1) := by decide +kernel
theorem dX7_check_38 : decode cX7_check 38 = .ok (.getfield 73, 3) := by decide +kernel
theorem dX7_check_41 : decode cX7_check 41 = .ok (.istore_n 2, 1) := by decide +kernel
theorem dX7_check_42 : decode cX7_check 42 = .ok (.iconst 0, 1) := by decide +kernel
theorem dX7_check_43 : decode cX7_check 43 = .ok (.istore_n 3, 1) := by decide +kernel
theorem dX7_check_44 : decode cX7_check 44 = .ok (.iload_n 3, 1) := by decide +kernel
theorem dX7_check_45 : decode cX7_check 45 = .ok (.iload_n 1, 1) := by decide +kernel
theorem dX7_check_46 : decode cX7_check 46 = .ok (.if_icmp .ge 37, 3) := by decide +kernel
theorem dX7_check_49 : decode cX7_check 49 = .ok (.aload_n 0, 1) := by decide +kernel
theorem dX7_check_50 : decode cX7_check 50 = .ok (.getfield 33, 3) := by decide +kernel
theorem dX7_check_53 : decode cX7_check 53 = .ok (.iload_n 2, 1) := by decide +kernel
theorem dX7_check_54 : decode cX7_check 54 = .ok (.aload_n 0, 1) := by decide +kernel
theorem dX7_check_55 : decode cX7_check 55 = .ok (.getfield 58, 3) := by decide +kernel
theorem dX7_check_58 : decode cX7_check 58 = .ok (.iload_n 3, 1) := by decide +kernel
theorem dX7_check_59 : decode cX7_check 59 = .ok (.invokestatic 251, 3) := by decide +kernel
theorem dX7_check_62 : decode cX7_check 62 = .ok (.invokevirtual 281, 3) := by decide +kernel
theorem dX7_check_65 : decode cX7_check 65 = .ok (.istore_n 2, 1) := by decide +kernel
theorem dX7_check_66 : decode cX7_check 66 = .ok (.iload_n 2, 1) := by decide +kernel
theorem dX7_check_67 : decode cX7_check 67 = .ok (.bipush (-9), 2) := by decide +kernel
theorem dX7_check_69 : decode cX7_check 69 = .ok (.if_icmp .ne 8, 3) := by decide +kernel
theorem dX7_check_72 : decode cX7_check 72 = .ok (.bipush (-10), 2) := by decide +kernel
theorem dX7_check_74 : decode cX7_check 74 = .ok (.iload_n 3, 1) := by decide +kernel
theorem dX7_check_75 : decode cX7_check 75 = .ok (.isub, 1) := by decide +kernel
theorem dX7_check_76 : decode cX7_check 76 = .ok (.ireturn, 1) := by decide +kernel
theorem dX7_check_77 : decode cX7_check 77 = .ok (.iinc 3 1, 3) := by decide +kernel
theorem dX7_check_80 : decode cX7_check 80 = .ok (.goto (-36), 3) := by decide +kernel
theorem dX7_check_83 : decode cX7_check 83 = .ok (.iload_n 2, 1) := by decide +kernel
theorem dX7_check_84 : decode cX7_check 84 = .ok (.aload_n 0, 1) := by decide +kernel
theorem dX7_check_85 : decode cX7_check 85 = .ok (.getfield 77, 3) := by decide +kernel
theorem dX7_check_88 : decode cX7_check 88 = .ok (.if_icmp .ne 7, 3) := by decide +kernel
theorem dX7_check_91 : decode cX7_check 91 = .ok (.iconst 1, 1) := by decide +kernel
theorem dX7_check_92 : decode cX7_check 92 = .ok (.goto 7, 3) := by decide +kernel
theorem dX7_check_95 : decode cX7_check 95 = .ok (.bipush (-10), 2) := by decide +kernel
theorem dX7_check_97 : decode cX7_check 97 = .ok (.iload_n 1, 1) := by decide +kernel
theorem dX7_check_98 : decode cX7_check 98 = .ok (.isub, 1) := by decide +kernel
theorem dX7_check_99 : decode cX7_check 99 = .ok (.ireturn, 1) := by decide +kernel
theorem dX7_many_0 : decode cX7_many 0 = .ok (.iload_n 1, 1) := by decide +kernel
theorem dX7_many_1 : decode cX7_many 1 = .ok (.tableswitch 72 0 4 #[35, 43, 51, 59, 67], 35) := by decide +kernel
theorem dX7_many_36 : decode cX7_many 36 = .ok (.aload_n 0, 1) := by decide +kernel
theorem dX7_many_37 : decode cX7_many 37 = .ok (.getfield 12, 3) := by decide +kernel
theorem dX7_many_40 : decode cX7_many 40 = .ok (.getfield 284, 3) := by decide +kernel
theorem dX7_many_43 : decode cX7_many 43 = .ok (.ireturn, 1) := by decide +kernel
theorem dX7_many_44 : decode cX7_many 44 = .ok (.aload_n 0, 1) := by decide +kernel
theorem dX7_many_45 : decode cX7_many 45 = .ok (.getfield 12, 3) := by decide +kernel
theorem dX7_many_48 : decode cX7_many 48 = .ok (.getfield 287, 3) := by decide +kernel
theorem dX7_many_51 : decode cX7_many 51 = .ok (.ireturn, 1) := by decide +kernel
theorem dX7_many_52 : decode cX7_many 52 = .ok (.aload_n 0, 1) := by decide +kernel
theorem dX7_many_53 : decode cX7_many 53 = .ok (.getfield 12, 3) := by decide +kernel
theorem dX7_many_56 : decode cX7_many 56 = .ok (.getfield 80, 3) := by decide +kernel
theorem dX7_many_59 : decode cX7_many 59 = .ok (.ireturn, 1) := by decide +kernel
theorem dX7_many_60 : decode cX7_many 60 = .ok (.aload_n 0, 1) := by decide +kernel
theorem dX7_many_61 : decode cX7_many 61 = .ok (.getfield 12, 3) := by decide +kernel
theorem dX7_many_64 : decode cX7_many 64 = .ok (.getfield 124, 3) := by decide +kernel
theorem dX7_many_67 : decode cX7_many 67 = .ok (.ireturn, 1) := by decide +kernel
theorem dX7_many_68 : decode cX7_many 68 = .ok (.aload_n 0, 1) := by decide +kernel
theorem dX7_many_69 : decode cX7_many 69 = .ok (.getfield 271, 3) := by decide +kernel
theorem dX7_many_72 : decode cX7_many 72 = .ok (.ireturn, 1) := by decide +kernel
theorem dX7_many_73 : decode cX7_many 73 = .ok (.iconst (-1), 1) := by decide +kernel
theorem dX7_many_74 : decode cX7_many 74 = .ok (.ireturn, 1) := by decide +kernel
theorem dX7_finding_0 : decode cX7_finding 0 = .ok (.aload_n 0, 1) := by decide +kernel
theorem dX7_finding_1 : decode cX7_finding 1 = .ok (.getfield 290, 3) := by decide +kernel
theorem dX7_finding_4 : decode cX7_finding 4 = .ok (.ireturn, 1) := by decide +kernel
set_option maxRecDepth 20000 in
theorem ggX7_findings_X7_isWithin : GoodIn wsX7_findings wsX7_isWithin := goodIn_r _ [5] (by decide +kernel) (by decide +kernel)
set_option maxRecDepth 20000 in
theorem gX7_findings_X7_isWithin : GoodIn wsX7_findings (va_wsS RX7 65 yX7_isWithin wsX7_isWithin) := goodIn_app (goodIn_of _ (by decide +kernel)) ggX7_findings_X7_isWithin
set_option maxRecDepth 20000 in
theorem ggX7_findings_X7_at : GoodIn wsX7_findings wsX7_at := goodIn_r _ [8] (by decide +kernel) (by decide +kernel)
set_option maxRecDepth 20000 in
theorem gX7_findings_X7_at : GoodIn wsX7_findings (va_wsS RX7 251 yX7_at wsX7_at) := goodIn_app (goodIn_of _ (by decide +kernel)) ggX7_findings_X7_at
theorem dX7_findings_0 : decode cX7_findings 0 = .ok (.iload_n 1, 1) := by decide +kernel
theorem dX7_findings_1 : decode cX7_findings 1 = .ok (.iconst 1, 1) := by decide +kernel
theorem dX7_findings_2 : decode cX7_findings 2 = .ok (.iconst 4, 1) := by decide +kernel
theorem dX7_findings_3 : decode cX7_findings 3 = .ok (.invokestatic 65, 3) := by decide +kernel
theorem dX7_findings_6 : decode cX7_findings 6 = .ok (.ifCond .ne 5, 3) := by decide +kernel
theorem dX7_findings_9 : decode cX7_findings 9 = .ok (.iconst (-1), 1) := by decide +kernel
theorem dX7_findings_10 : decode cX7_findings 10 = .ok (.ireturn, 1) := by decide +kernel
theorem dX7_findings_11 : decode cX7_findings 11 = .ok (.aload_n 0, 1) := by decide +kernel
theorem dX7_findings_12 : decode cX7_findings 12 = .ok (.getfield 62, 3) := by decide +kernel
theorem dX7_findings_15 : decode cX7_findings 15 = .ok (.iload_n 1, 1) := by decide +kernel
theorem dX7_findings_16 : decode cX7_findings 16 = .ok (.invokestatic 251, 3) := by decide +kernel
theorem dX7_findings_19 : decode cX7_findings 19 = .ok (.ireturn, 1) := by decide +kernel
set_option maxRecDepth 20000 in
theorem ggX7_digest_X7_mix : GoodIn wsX7_digest wsX7_mix := goodIn_r _ [17, 18] (by decide +kernel) (by decide +kernel)
set_option maxRecDepth 20000 in
theorem gX7_digest_X7_mix : GoodIn wsX7_digest (va_wsS RX7 295 yX7_mix wsX7_mix) := goodIn_app (goodIn_of _ (by decide +kernel)) ggX7_digest_X7_mix
set_option maxRecDepth 20000 in
theorem ggX7_digest_X0_thingsOn : GoodIn wsX7_digest wsX0_thingsOn := goodIn_r _ [23, 24, 25, 26, 27, 28, 22, 29, 30, 31, 32, 16, 33, 34, 35, 36, 37, 38, 73, 74, 75, 76, 77, 78, 79, 80, 81, 82, 83, 84] (by decide +kernel) (by decide +kernel)
set_option maxRecDepth 20000 in
theorem gX7_digest_X0_thingsOn : GoodIn wsX7_digest (wsV RX7 130 RX0 yX0_thingsOn wsX0_thingsOn) := goodIn_app (goodIn_of _ (by decide +kernel)) ggX7_digest_X0_thingsOn
set_option maxRecDepth 20000 in
theorem ggX7_digest_X7_leastOf : GoodIn wsX7_digest wsX7_leastOf := goodIn_r _ [41] (by decide +kernel) (by decide +kernel)
set_option maxRecDepth 20000 in
theorem gX7_digest_X7_leastOf : GoodIn wsX7_digest (va_wsS RX7 134 yX7_leastOf wsX7_leastOf) := goodIn_app (goodIn_of _ (by decide +kernel)) ggX7_digest_X7_leastOf
set_option maxRecDepth 20000 in
theorem ggX7_digest_X2_bitsOf : GoodIn wsX7_digest wsX2_bitsOf := goodIn_r _ [46, 47, 37, 16, 38, 85, 86, 87, 88, 89] (by decide +kernel) (by decide +kernel)
set_option maxRecDepth 20000 in
theorem gX7_digest_X2_bitsOf : GoodIn wsX7_digest (wsV RX7 150 RX2 yX2_bitsOf wsX2_bitsOf) := goodIn_app (goodIn_of _ (by decide +kernel)) ggX7_digest_X2_bitsOf
set_option maxRecDepth 20000 in
theorem ggX7_digest_X7_mixState : GoodIn wsX7_digest wsX7_mixState := goodIn_r _ [50, 51, 52, 16, 53, 14, 15, 17, 18, 54, 55, 56, 57, 58, 59] (by decide +kernel) (by decide +kernel)
set_option maxRecDepth 20000 in
theorem gX7_digest_X7_mixState : GoodIn wsX7_digest (va_wsS RX7 299 yX7_mixState wsX7_mixState) := goodIn_app (goodIn_of _ (by decide +kernel)) ggX7_digest_X7_mixState
theorem dX7_digest_0 : decode cX7_digest 0 = .ok (.ldc2_w 293, 3) := by decide +kernel
theorem dX7_digest_3 : decode cX7_digest 3 = .ok (.aload_n 0, 1) := by decide +kernel
theorem dX7_digest_4 : decode cX7_digest 4 = .ok (.getfield 12, 3) := by decide +kernel
theorem dX7_digest_7 : decode cX7_digest 7 = .ok (.getfield 284, 3) := by decide +kernel
theorem dX7_digest_10 : decode cX7_digest 10 = .ok (.invokestatic 295, 3) := by decide +kernel
theorem dX7_digest_13 : decode cX7_digest 13 = .ok (.aload_n 0, 1) := by decide +kernel
theorem dX7_digest_14 : decode cX7_digest 14 = .ok (.getfield 12, 3) := by decide +kernel
theorem dX7_digest_17 : decode cX7_digest 17 = .ok (.getfield 287, 3) := by decide +kernel
theorem dX7_digest_20 : decode cX7_digest 20 = .ok (.invokestatic 295, 3) := by decide +kernel
theorem dX7_digest_23 : decode cX7_digest 23 = .ok (.lstore_n 1, 1) := by decide +kernel
theorem dX7_digest_24 : decode cX7_digest 24 = .ok (.iconst 0, 1) := by decide +kernel
theorem dX7_digest_25 : decode cX7_digest 25 = .ok (.istore_n 3, 1) := by decide +kernel
theorem dX7_digest_26 : decode cX7_digest 26 = .ok (.iload_n 3, 1) := by decide +kernel
theorem dX7_digest_27 : decode cX7_digest 27 = .ok (.aload_n 0, 1) := by decide +kernel
theorem dX7_digest_28 : decode cX7_digest 28 = .ok (.getfield 12, 3) := by decide +kernel
theorem dX7_digest_31 : decode cX7_digest 31 = .ok (.getfield 287, 3) := by decide +kernel
theorem dX7_digest_34 : decode cX7_digest 34 = .ok (.if_icmp .ge 48, 3) := by decide +kernel
theorem dX7_digest_37 : decode cX7_digest 37 = .ok (.iconst 0, 1) := by decide +kernel
theorem dX7_digest_38 : decode cX7_digest 38 = .ok (.istore 4, 2) := by decide +kernel
theorem dX7_digest_40 : decode cX7_digest 40 = .ok (.iload 4, 2) := by decide +kernel
theorem dX7_digest_42 : decode cX7_digest 42 = .ok (.aload_n 0, 1) := by decide +kernel
theorem dX7_digest_43 : decode cX7_digest 43 = .ok (.getfield 12, 3) := by decide +kernel
theorem dX7_digest_46 : decode cX7_digest 46 = .ok (.getfield 284, 3) := by decide +kernel
theorem dX7_digest_49 : decode cX7_digest 49 = .ok (.if_icmp .ge 27, 3) := by decide +kernel
theorem dX7_digest_52 : decode cX7_digest 52 = .ok (.lload_n 1, 1) := by decide +kernel
theorem dX7_digest_53 : decode cX7_digest 53 = .ok (.aload_n 0, 1) := by decide +kernel
theorem dX7_digest_54 : decode cX7_digest 54 = .ok (.getfield 12, 3) := by decide +kernel
theorem dX7_digest_57 : decode cX7_digest 57 = .ok (.iload 4, 2) := by decide +kernel
theorem dX7_digest_59 : decode cX7_digest 59 = .ok (.iload_n 3, 1) := by decide +kernel
theorem dX7_digest_60 : decode cX7_digest 60 = .ok (.invokevirtual 130, 3) := by decide +kernel
theorem dX7_digest_63 : decode cX7_digest 63 = .ok (.invokestatic 134, 3) := by decide +kernel
theorem dX7_digest_66 : decode cX7_digest 66 = .ok (.invokestatic 295, 3) := by decide +kernel
theorem dX7_digest_69 : decode cX7_digest 69 = .ok (.lstore_n 1, 1) := by decide +kernel
theorem dX7_digest_70 : decode cX7_digest 70 = .ok (.iinc 4 1, 3) := by decide +kernel
theorem dX7_digest_73 : decode cX7_digest 73 = .ok (.goto (-33), 3) := by decide +kernel
theorem dX7_digest_76 : decode cX7_digest 76 = .ok (.iinc 3 1, 3) := by decide +kernel
theorem dX7_digest_79 : decode cX7_digest 79 = .ok (.goto (-53), 3) := by decide +kernel
theorem dX7_digest_82 : decode cX7_digest 82 = .ok (.iconst 0, 1) := by decide +kernel
theorem dX7_digest_83 : decode cX7_digest 83 = .ok (.istore_n 3, 1) := by decide +kernel
theorem dX7_digest_84 : decode cX7_digest 84 = .ok (.iload_n 3, 1) := by decide +kernel
theorem dX7_digest_85 : decode cX7_digest 85 = .ok (.aload_n 0, 1) := by decide +kernel
theorem dX7_digest_86 : decode cX7_digest 86 = .ok (.getfield 12, 3) := by decide +kernel
theorem dX7_digest_89 : decode cX7_digest 89 = .ok (.getfield 80, 3) := by decide +kernel
theorem dX7_digest_92 : decode cX7_digest 92 = .ok (.if_icmp .ge 39, 3) := by decide +kernel
theorem dX7_digest_95 : decode cX7_digest 95 = .ok (.lload_n 1, 1) := by decide +kernel
theorem dX7_digest_96 : decode cX7_digest 96 = .ok (.aload_n 0, 1) := by decide +kernel
theorem dX7_digest_97 : decode cX7_digest 97 = .ok (.getfield 12, 3) := by decide +kernel
theorem dX7_digest_100 : decode cX7_digest 100 = .ok (.getfield 83, 3) := by decide +kernel
theorem dX7_digest_103 : decode cX7_digest 103 = .ok (.iload_n 3, 1) := by decide +kernel
theorem dX7_digest_104 : decode cX7_digest 104 = .ok (.ishr, 1) := by decide +kernel
theorem dX7_digest_105 : decode cX7_digest 105 = .ok (.iconst 1, 1) := by decide +kernel
theorem dX7_digest_106 : decode cX7_digest 106 = .ok (.iand, 1) := by decide +kernel
theorem dX7_digest_107 : decode cX7_digest 107 = .ok (.invokestatic 295, 3) := by decide +kernel
theorem dX7_digest_110 : decode cX7_digest 110 = .ok (.aload_n 0, 1) := by decide +kernel
theorem dX7_digest_111 : decode cX7_digest 111 = .ok (.getfield 12, 3) := by decide +kernel
theorem dX7_digest_114 : decode cX7_digest 114 = .ok (.getfield 258, 3) := by decide +kernel
theorem dX7_digest_117 : decode cX7_digest 117 = .ok (.iload_n 3, 1) := by decide +kernel
theorem dX7_digest_118 : decode cX7_digest 118 = .ok (.ishr, 1) := by decide +kernel
theorem dX7_digest_119 : decode cX7_digest 119 = .ok (.iconst 1, 1) := by decide +kernel
theorem dX7_digest_120 : decode cX7_digest 120 = .ok (.iand, 1) := by decide +kernel
theorem dX7_digest_121 : decode cX7_digest 121 = .ok (.invokestatic 295, 3) := by decide +kernel
theorem dX7_digest_124 : decode cX7_digest 124 = .ok (.lstore_n 1, 1) := by decide +kernel
theorem dX7_digest_125 : decode cX7_digest 125 = .ok (.iinc 3 1, 3) := by decide +kernel
theorem dX7_digest_128 : decode cX7_digest 128 = .ok (.goto (-44), 3) := by decide +kernel
theorem dX7_digest_131 : decode cX7_digest 131 = .ok (.iconst 0, 1) := by decide +kernel
theorem dX7_digest_132 : decode cX7_digest 132 = .ok (.istore_n 3, 1) := by decide +kernel
theorem dX7_digest_133 : decode cX7_digest 133 = .ok (.iload_n 3, 1) := by decide +kernel
theorem dX7_digest_134 : decode cX7_digest 134 = .ok (.aload_n 0, 1) := by decide +kernel
theorem dX7_digest_135 : decode cX7_digest 135 = .ok (.getfield 19, 3) := by decide +kernel
theorem dX7_digest_138 : decode cX7_digest 138 = .ok (.getfield 177, 3) := by decide +kernel
theorem dX7_digest_141 : decode cX7_digest 141 = .ok (.if_icmp .ge 22, 3) := by decide +kernel
theorem dX7_digest_144 : decode cX7_digest 144 = .ok (.lload_n 1, 1) := by decide +kernel
theorem dX7_digest_145 : decode cX7_digest 145 = .ok (.aload_n 0, 1) := by decide +kernel
theorem dX7_digest_146 : decode cX7_digest 146 = .ok (.getfield 19, 3) := by decide +kernel
theorem dX7_digest_149 : decode cX7_digest 149 = .ok (.iload_n 3, 1) := by decide +kernel
theorem dX7_digest_150 : decode cX7_digest 150 = .ok (.invokevirtual 150, 3) := by decide +kernel
theorem dX7_digest_153 : decode cX7_digest 153 = .ok (.invokestatic 295, 3) := by decide +kernel
theorem dX7_digest_156 : decode cX7_digest 156 = .ok (.lstore_n 1, 1) := by decide +kernel
theorem dX7_digest_157 : decode cX7_digest 157 = .ok (.iinc 3 1, 3) := by decide +kernel
theorem dX7_digest_160 : decode cX7_digest 160 = .ok (.goto (-27), 3) := by decide +kernel
theorem dX7_digest_163 : decode cX7_digest 163 = .ok (.lload_n 1, 1) := by decide +kernel
theorem dX7_digest_164 : decode cX7_digest 164 = .ok (.aload_n 0, 1) := by decide +kernel
theorem dX7_digest_165 : decode cX7_digest 165 = .ok (.getfield 19, 3) := by decide +kernel
theorem dX7_digest_168 : decode cX7_digest 168 = .ok (.getfield 160, 3) := by decide +kernel
theorem dX7_digest_171 : decode cX7_digest 171 = .ok (.invokestatic 295, 3) := by decide +kernel
theorem dX7_digest_174 : decode cX7_digest 174 = .ok (.aload_n 0, 1) := by decide +kernel
theorem dX7_digest_175 : decode cX7_digest 175 = .ok (.getfield 19, 3) := by decide +kernel
theorem dX7_digest_178 : decode cX7_digest 178 = .ok (.getfield 163, 3) := by decide +kernel
theorem dX7_digest_181 : decode cX7_digest 181 = .ok (.invokestatic 295, 3) := by decide +kernel
theorem dX7_digest_184 : decode cX7_digest 184 = .ok (.lstore_n 1, 1) := by decide +kernel
theorem dX7_digest_185 : decode cX7_digest 185 = .ok (.lload_n 1, 1) := by decide +kernel
theorem dX7_digest_186 : decode cX7_digest 186 = .ok (.aload_n 0, 1) := by decide +kernel
theorem dX7_digest_187 : decode cX7_digest 187 = .ok (.getfield 73, 3) := by decide +kernel
theorem dX7_digest_190 : decode cX7_digest 190 = .ok (.invokestatic 299, 3) := by decide +kernel
theorem dX7_digest_193 : decode cX7_digest 193 = .ok (.aload_n 0, 1) := by decide +kernel
theorem dX7_digest_194 : decode cX7_digest 194 = .ok (.getfield 77, 3) := by decide +kernel
theorem dX7_digest_197 : decode cX7_digest 197 = .ok (.invokestatic 299, 3) := by decide +kernel
theorem dX7_digest_200 : decode cX7_digest 200 = .ok (.lreturn, 1) := by decide +kernel
set_option maxRecDepth 20000 in
theorem ggX7_find_X7_at : GoodIn wsX7_find wsX7_at := goodIn_r _ [6] (by decide +kernel) (by decide +kernel)
set_option maxRecDepth 20000 in
theorem gX7_find_X7_at : GoodIn wsX7_find (va_wsS RX7 251 yX7_at wsX7_at) := goodIn_app (goodIn_of _ (by decide +kernel)) ggX7_find_X7_at
set_option maxRecDepth 20000 in
theorem ggX7_find_X7_put : GoodIn wsX7_find wsX7_put := goodIn_r _ [9] (by decide +kernel) (by decide +kernel)
set_option maxRecDepth 20000 in
theorem gX7_find_X7_put : GoodIn wsX7_find (va_wsS RX7 274 yX7_put wsX7_put) := goodIn_app (goodIn_of _ (by decide +kernel)) ggX7_find_X7_put
theorem dX7_find_0 : decode cX7_find 0 = .ok (.aload_n 0, 1) := by decide +kernel
theorem dX7_find_1 : decode cX7_find 1 = .ok (.iload_n 1, 1) := by decide +kernel
theorem dX7_find_2 : decode cX7_find 2 = .ok (.putfield 290, 3) := by decide +kernel
theorem dX7_find_5 : decode cX7_find 5 = .ok (.aload_n 0, 1) := by decide +kernel
theorem dX7_find_6 : decode cX7_find 6 = .ok (.getfield 62, 3) := by decide +kernel
theorem dX7_find_9 : decode cX7_find 9 = .ok (.iload_n 1, 1) := by decide +kernel
theorem dX7_find_10 : decode cX7_find 10 = .ok (.aload_n 0, 1) := by decide +kernel
theorem dX7_find_11 : decode cX7_find 11 = .ok (.getfield 62, 3) := by decide +kernel
theorem dX7_find_14 : decode cX7_find 14 = .ok (.iload_n 1, 1) := by decide +kernel
theorem dX7_find_15 : decode cX7_find 15 = .ok (.invokestatic 251, 3) := by decide +kernel
theorem dX7_find_18 : decode cX7_find 18 = .ok (.iconst 1, 1) := by decide +kernel
theorem dX7_find_19 : decode cX7_find 19 = .ok (.iadd, 1) := by decide +kernel
theorem dX7_find_20 : decode cX7_find 20 = .ok (.invokestatic 274, 3) := by decide +kernel
theorem dX7_find_23 : decode cX7_find 23 = .ok (.bipush (-3), 2) := by decide +kernel
theorem dX7_find_25 : decode cX7_find 25 = .ok (.ireturn, 1) := by decide +kernel
set_option maxRecDepth 20000 in
theorem ggX7_layOut_X2_isWhole : GoodIn wsX7_layOut wsX2_isWhole := goodIn_r _ [10, 11, 12, 13, 14, 9, 15, 16, 17, 18, 19, 20, 21, 22, 23, 24, 25, 26, 27, 28, 29, 30, 152, 153, 154, 155, 156] (by decide +kernel) (by decide +kernel)
set_option maxRecDepth 20000 in
theorem gX7_layOut_X2_isWhole : GoodIn wsX7_layOut (wsV RX7 170 RX2 yX2_isWhole wsX2_isWhole) := goodIn_app (goodIn_of _ (by decide +kernel)) ggX7_layOut_X2_isWhole
set_option maxRecDepth 20000 in
theorem ggX7_layOut_X6_take : GoodIn wsX7_layOut wsX6_take := goodIn_r _ [35, 36, 37, 38, 39, 40, 18, 41, 42, 43, 44, 9, 45, 12, 13, 14, 15, 16, 17, 19, 46, 47, 48, 49, 11, 50, 51, 52, 53, 54, 34, 55, 56, 57, 58, 59, 60, 61, 62, 63, 64, 65, 66, 67, 68, 69, 70, 71, 72, 73, 74, 75, 76, 77, 78, 79, 80, 81, 82, 83, 84, 85, 86, 87, 88, 157, 158, 159, 152, 153, 154, 155, 156] (by decide +kernel) (by decide +kernel)
set_option maxRecDepth 20000 in
theorem gX7_layOut_X6_take : GoodIn wsX7_layOut (wsV RX7 302 RX6 yX6_take wsX6_take) := goodIn_app (goodIn_of _ (by decide +kernel)) ggX7_layOut_X6_take
set_option maxRecDepth 20000 in
theorem ggX7_layOut_X1_lay : GoodIn wsX7_layOut wsX1_lay := goodIn_r _ [93, 94, 95, 96, 97, 98, 40, 18, 41, 99, 100, 101, 102, 103, 104, 105, 106, 107, 108, 17, 19, 66, 67, 140, 141, 142, 143, 144, 145, 146, 147, 148, 149, 150, 151, 160, 161, 162, 163, 164] (by decide +kernel) (by decide +kernel)
set_option maxRecDepth 20000 in
theorem gX7_layOut_X1_lay : GoodIn wsX7_layOut (wsV RX7 306 RX1 yX1_lay wsX1_lay) := goodIn_app (goodIn_of _ (by decide +kernel)) ggX7_layOut_X1_lay
set_option maxRecDepth 20000 in
theorem ggX7_layOut_X1_mark : GoodIn wsX7_layOut wsX1_mark := goodIn_r _ [112, 97, 113, 114, 115, 116, 92, 117, 95, 98, 118, 63, 64, 34, 65, 36, 17, 18, 19, 119, 120, 121, 122, 61, 123, 124, 125, 126, 60, 66, 67, 160, 161, 162, 163, 164, 157, 158, 159] (by decide +kernel) (by decide +kernel)
set_option maxRecDepth 20000 in
theorem gX7_layOut_X1_mark : GoodIn wsX7_layOut (wsV RX7 267 RX1 yX1_mark wsX1_mark) := goodIn_app (goodIn_of _ (by decide +kernel)) ggX7_layOut_X1_mark
theorem dX7_layOut_0 : decode cX7_layOut 0 = .ok (.aload_n 0, 1) := by decide +kernel
theorem dX7_layOut_1 : decode cX7_layOut 1 = .ok (.getfield 19, 3) := by decide +kernel
theorem dX7_layOut_4 : decode cX7_layOut 4 = .ok (.invokevirtual 170, 3) := by decide +kernel
theorem dX7_layOut_7 : decode cX7_layOut 7 = .ok (.ifCond .ne 5, 3) := by decide +kernel
theorem dX7_layOut_10 : decode cX7_layOut 10 = .ok (.iconst 0, 1) := by decide +kernel
theorem dX7_layOut_11 : decode cX7_layOut 11 = .ok (.ireturn, 1) := by decide +kernel
theorem dX7_layOut_12 : decode cX7_layOut 12 = .ok (.aload_n 0, 1) := by decide +kernel
theorem dX7_layOut_13 : decode cX7_layOut 13 = .ok (.getfield 26, 3) := by decide +kernel
theorem dX7_layOut_16 : decode cX7_layOut 16 = .ok (.aload_n 0, 1) := by decide +kernel
theorem dX7_layOut_17 : decode cX7_layOut 17 = .ok (.getfield 19, 3) := by decide +kernel
theorem dX7_layOut_20 : decode cX7_layOut 20 = .ok (.invokevirtual 302, 3) := by decide +kernel
theorem dX7_layOut_23 : decode cX7_layOut 23 = .ok (.aload_n 0, 1) := by decide +kernel
theorem dX7_layOut_24 : decode cX7_layOut 24 = .ok (.getfield 33, 3) := by decide +kernel
theorem dX7_layOut_27 : decode cX7_layOut 27 = .ok (.aload_n 0, 1) := by decide +kernel
theorem dX7_layOut_28 : decode cX7_layOut 28 = .ok (.getfield 12, 3) := by decide +kernel
theorem dX7_layOut_31 : decode cX7_layOut 31 = .ok (.aload_n 0, 1) := by decide +kernel
theorem dX7_layOut_32 : decode cX7_layOut 32 = .ok (.getfield 12, 3) := by decide +kernel
theorem dX7_layOut_35 : decode cX7_layOut 35 = .ok (.getfield 258, 3) := by decide +kernel
theorem dX7_layOut_38 : decode cX7_layOut 38 = .ok (.invokevirtual 306, 3) := by decide +kernel
theorem dX7_layOut_41 : decode cX7_layOut 41 = .ok (.aload_n 0, 1) := by decide +kernel
theorem dX7_layOut_42 : decode cX7_layOut 42 = .ok (.getfield 33, 3) := by decide +kernel
theorem dX7_layOut_45 : decode cX7_layOut 45 = .ok (.aload_n 0, 1) := by decide +kernel
theorem dX7_layOut_46 : decode cX7_layOut 46 = .ok (.getfield 26, 3) := by decide +kernel
theorem dX7_layOut_49 : decode cX7_layOut 49 = .ok (.invokevirtual 267, 3) := by decide +kernel
theorem dX7_layOut_52 : decode cX7_layOut 52 = .ok (.iconst 1, 1) := by decide +kernel
theorem dX7_layOut_53 : decode cX7_layOut 53 = .ok (.ireturn, 1) := by decide +kernel
set_option maxRecDepth 20000 in
theorem ggX7_leadsToGoal_X5_run : GoodIn wsX7_leadsToGoal wsX5_run := goodIn_r _ [9, 10, 11, 12, 13, 14, 15, 16, 17, 18, 19, 20, 21, 22, 23, 24, 25, 26, 27, 28, 29, 30, 31, 32, 33, 34, 35, 36, 37, 38, 8, 39, 40, 41, 42, 43, 44, 45, 46, 47, 48, 49, 50, 51, 52, 53, 54, 55, 56, 57, 58, 59, 60, 61, 62, 63, 64, 65, 66, 67, 68, 69, 70, 71, 86, 87, 88, 89, 90, 91, 92, 93, 94, 95, 96, 97] (by decide +kernel) (by decide +kernel)
set_option maxRecDepth 20000 in
theorem gX7_leadsToGoal_X5_run : GoodIn wsX7_leadsToGoal (wsV RX7 220 RX5 yX5_run wsX5_run) := goodIn_app (goodIn_of _ (by decide +kernel)) ggX7_leadsToGoal_X5_run
set_option maxRecDepth 20000 in
theorem ggX7_leadsToGoal_X5_isReached : GoodIn wsX7_leadsToGoal wsX5_isReached := goodIn_r _ [71, 12, 34, 14, 35, 86, 87, 88, 89, 90, 91, 92] (by decide +kernel) (by decide +kernel)
set_option maxRecDepth 20000 in
theorem gX7_leadsToGoal_X5_isReached : GoodIn wsX7_leadsToGoal (wsV RX7 242 RX5 yX5_isReached wsX5_isReached) := goodIn_app (goodIn_of _ (by decide +kernel)) ggX7_leadsToGoal_X5_isReached
theorem dX7_leadsToGoal_0 : decode cX7_leadsToGoal 0 = .ok (.aload_n 0, 1) := by decide +kernel
theorem dX7_leadsToGoal_1 : decode cX7_leadsToGoal 1 = .ok (.getfield 40, 3) := by decide +kernel
theorem dX7_leadsToGoal_4 : decode cX7_leadsToGoal 4 = .ok (.aload_n 0, 1) := by decide +kernel
theorem dX7_leadsToGoal_5 : decode cX7_leadsToGoal 5 = .ok (.getfield 33, 3) := by decide +kernel
theorem dX7_leadsToGoal_8 : decode cX7_leadsToGoal 8 = .ok (.aload_n 0, 1) := by decide +kernel
theorem dX7_leadsToGoal_9 : decode cX7_leadsToGoal 9 = .ok (.getfield 73, 3) := by decide +kernel
theorem dX7_leadsToGoal_12 : decode cX7_leadsToGoal 12 = .ok (.invokevirtual 220, 3) := by decide +kernel
theorem dX7_leadsToGoal_15 : decode cX7_leadsToGoal 15 = .ok (.aload_n 0, 1) := by decide +kernel
theorem dX7_leadsToGoal_16 : decode cX7_leadsToGoal 16 = .ok (.getfield 40, 3) := by decide +kernel
theorem dX7_leadsToGoal_19 : decode cX7_leadsToGoal 19 = .ok (.aload_n 0, 1) := by decide +kernel
theorem dX7_leadsToGoal_20 : decode cX7_leadsToGoal 20 = .ok (.getfield 77, 3) := by decide +kernel
theorem dX7_leadsToGoal_23 : decode cX7_leadsToGoal 23 = .ok (.invokevirtual 242, 3) := by decide +kernel
theorem dX7_leadsToGoal_26 : decode cX7_leadsToGoal 26 = .ok (.ireturn, 1) := by decide +kernel
set_option maxRecDepth 20000 in
theorem ggX7_opensWay_X1_lay : GoodIn wsX7_opensWay wsX1_lay := goodIn_r _ [12, 13, 14, 15, 16, 17, 18, 19, 20, 21, 22, 23, 24, 25, 26, 27, 28, 29, 30, 31, 32, 33, 34, 130, 131, 132, 133, 134, 135, 136, 137, 138, 139, 140, 141, 142, 143, 144, 145, 146] (by decide +kernel) (by decide +kernel)
set_option maxRecDepth 20000 in
theorem gX7_opensWay_X1_lay : GoodIn wsX7_opensWay (wsV RX7 306 RX1 yX1_lay wsX1_lay) := goodIn_app (goodIn_of _ (by decide +kernel)) ggX7_opensWay_X1_lay
set_option maxRecDepth 20000 in
theorem ggX7_opensWay_X1_mark : GoodIn wsX7_opensWay wsX1_mark := goodIn_r _ [38, 16, 39, 40, 41, 42, 11, 43, 14, 17, 44, 45, 46, 47, 48, 49, 31, 19, 32, 50, 51, 52, 53, 54, 55, 56, 57, 58, 59, 33, 34, 142, 143, 144, 145, 146, 147, 148, 149] (by decide +kernel) (by decide +kernel)
set_option maxRecDepth 20000 in
theorem gX7_opensWay_X1_mark : GoodIn wsX7_opensWay (wsV RX7 267 RX1 yX1_mark wsX1_mark) := goodIn_app (goodIn_of _ (by decide +kernel)) ggX7_opensWay_X1_mark
set_option maxRecDepth 20000 in
theorem ggX7_opensWay_X5_run : GoodIn wsX7_opensWay wsX5_run := goodIn_r _ [64, 65, 66, 67, 18, 19, 20, 68, 69, 70, 11, 71, 72, 73, 74, 75, 76, 77, 78, 79, 80, 81, 14, 16, 39, 31, 32, 82, 83, 84, 63, 85, 86, 87, 33, 34, 88, 89, 90, 91, 92, 93, 94, 95, 96, 97, 98, 99, 100, 101, 102, 103, 104, 105, 106, 107, 108, 109, 110, 111, 112, 113, 114, 115, 150, 151, 152, 153, 154, 155, 156, 142, 143, 144, 145, 146] (by decide +kernel) (by decide +kernel)
set_option maxRecDepth 20000 in
theorem gX7_opensWay_X5_run : GoodIn wsX7_opensWay (wsV RX7 220 RX5 yX5_run wsX5_run) := goodIn_app (goodIn_of _ (by decide +kernel)) ggX7_opensWay_X5_run
set_option maxRecDepth 20000 in
theorem ggX7_opensWay_X5_isReached : GoodIn wsX7_opensWay wsX5_isReached := goodIn_r _ [115, 67, 31, 19, 32, 150, 151, 152, 153, 154, 155, 156] (by decide +kernel) (by decide +kernel)
set_option maxRecDepth 20000 in
theorem gX7_opensWay_X5_isReached : GoodIn wsX7_opensWay (wsV RX7 242 RX5 yX5_isReached wsX5_isReached) := goodIn_app (goodIn_of _ (by decide +kernel)) ggX7_opensWay_X5_isReached
theorem dX7_opensWay_0 : decode cX7_opensWay 0 = .ok (.aload_n 0, 1) := by decide +kernel
theorem dX7_opensWay_1 : decode cX7_opensWay 1 = .ok (.getfield 33, 3) := by decide +kernel
theorem dX7_opensWay_4 : decode cX7_opensWay 4 = .ok (.aload_n 0, 1) := by decide +kernel
theorem dX7_opensWay_5 : decode cX7_opensWay 5 = .ok (.getfield 12, 3) := by decide +kernel
theorem dX7_opensWay_8 : decode cX7_opensWay 8 = .ok (.aload_n 0, 1) := by decide +kernel
theorem dX7_opensWay_9 : decode cX7_opensWay 9 = .ok (.getfield 12, 3) := by decide +kernel
theorem dX7_opensWay_12 : decode cX7_opensWay 12 = .ok (.getfield 258, 3) := by decide +kernel
theorem dX7_opensWay_15 : decode cX7_opensWay 15 = .ok (.iload_n 1, 1) := by decide +kernel
theorem dX7_opensWay_16 : decode cX7_opensWay 16 = .ok (.ior, 1) := by decide +kernel
theorem dX7_opensWay_17 : decode cX7_opensWay 17 = .ok (.invokevirtual 306, 3) := by decide +kernel
theorem dX7_opensWay_20 : decode cX7_opensWay 20 = .ok (.aload_n 0, 1) := by decide +kernel
theorem dX7_opensWay_21 : decode cX7_opensWay 21 = .ok (.getfield 33, 3) := by decide +kernel
theorem dX7_opensWay_24 : decode cX7_opensWay 24 = .ok (.aload_n 0, 1) := by decide +kernel
theorem dX7_opensWay_25 : decode cX7_opensWay 25 = .ok (.getfield 26, 3) := by decide +kernel
theorem dX7_opensWay_28 : decode cX7_opensWay 28 = .ok (.invokevirtual 267, 3) := by decide +kernel
theorem dX7_opensWay_31 : decode cX7_opensWay 31 = .ok (.aload_n 0, 1) := by decide +kernel
theorem dX7_opensWay_32 : decode cX7_opensWay 32 = .ok (.getfield 40, 3) := by decide +kernel
theorem dX7_opensWay_35 : decode cX7_opensWay 35 = .ok (.aload_n 0, 1) := by decide +kernel
theorem dX7_opensWay_36 : decode cX7_opensWay 36 = .ok (.getfield 33, 3) := by decide +kernel
theorem dX7_opensWay_39 : decode cX7_opensWay 39 = .ok (.aload_n 0, 1) := by decide +kernel
theorem dX7_opensWay_40 : decode cX7_opensWay 40 = .ok (.getfield 73, 3) := by decide +kernel
theorem dX7_opensWay_43 : decode cX7_opensWay 43 = .ok (.invokevirtual 220, 3) := by decide +kernel
theorem dX7_opensWay_46 : decode cX7_opensWay 46 = .ok (.aload_n 0, 1) := by decide +kernel
theorem dX7_opensWay_47 : decode cX7_opensWay 47 = .ok (.getfield 40, 3) := by decide +kernel
theorem dX7_opensWay_50 : decode cX7_opensWay 50 = .ok (.aload_n 0, 1) := by decide +kernel
theorem dX7_opensWay_51 : decode cX7_opensWay 51 = .ok (.getfield 77, 3) := by decide +kernel
theorem dX7_opensWay_54 : decode cX7_opensWay 54 = .ok (.invokevirtual 242, 3) := by decide +kernel
theorem dX7_opensWay_57 : decode cX7_opensWay 57 = .ok (.ireturn, 1) := by decide +kernel
set_option maxRecDepth 20000 in
theorem ggX7_holdersAt_X7_xOf : GoodIn wsX7_holdersAt wsX7_xOf := goodIn_r _ [6] (by decide +kernel) (by decide +kernel)
set_option maxRecDepth 20000 in
theorem gX7_holdersAt_X7_xOf : GoodIn wsX7_holdersAt (va_wsS RX7 310 yX7_xOf wsX7_xOf) := goodIn_app (goodIn_of _ (by decide +kernel)) ggX7_holdersAt_X7_xOf
set_option maxRecDepth 20000 in
theorem ggX7_holdersAt_X7_yOf : GoodIn wsX7_holdersAt wsX7_yOf := goodIn_r _ [9] (by decide +kernel) (by decide +kernel)
set_option maxRecDepth 20000 in
theorem gX7_holdersAt_X7_yOf : GoodIn wsX7_holdersAt (va_wsS RX7 313 yX7_yOf wsX7_yOf) := goodIn_app (goodIn_of _ (by decide +kernel)) ggX7_holdersAt_X7_yOf
set_option maxRecDepth 20000 in
theorem ggX7_holdersAt_X7_qOf : GoodIn wsX7_holdersAt wsX7_qOf := goodIn_r _ [12] (by decide +kernel) (by decide +kernel)
set_option maxRecDepth 20000 in
theorem gX7_holdersAt_X7_qOf : GoodIn wsX7_holdersAt (va_wsS RX7 316 yX7_qOf wsX7_qOf) := goodIn_app (goodIn_of _ (by decide +kernel)) ggX7_holdersAt_X7_qOf
set_option maxRecDepth 20000 in
theorem ggX7_holdersAt_X7_thingsUnder : GoodIn wsX7_holdersAt wsX7_thingsUnder := goodIn_r _ [16, 17, 18, 19, 20, 21, 22, 23, 24, 25, 26, 27, 5, 28, 29, 30, 31, 32, 33, 34, 35, 36, 37, 38, 39, 40, 41, 42, 43, 44, 45, 46, 47, 48, 49, 50, 51, 52, 53, 54, 55, 56, 57, 58, 59, 60, 61, 62, 63, 64, 65, 66, 67, 69, 70, 71, 72, 73, 74, 75, 76, 77, 78, 79, 80, 81, 82, 83, 84, 85, 86, 87, 88, 89, 90, 91, 92, 93, 94, 95, 96, 97, 98, 99, 100, 101] (by decide +kernel) (by decide +kernel)
set_option maxRecDepth 20000 in
theorem gX7_holdersAt_X7_thingsUnder : GoodIn wsX7_holdersAt (wsV RX7 319 RX7 yX7_thingsUnder wsX7_thingsUnder) := goodIn_app (goodIn_of _ (by decide +kernel)) ggX7_holdersAt_X7_thingsUnder
set_option maxRecDepth 20000 in
theorem ggX7_holdersAt_X7_at : GoodIn wsX7_holdersAt wsX7_at := goodIn_r _ [38] (by decide +kernel) (by decide +kernel)
set_option maxRecDepth 20000 in
theorem gX7_holdersAt_X7_at : GoodIn wsX7_holdersAt (va_wsS RX7 251 yX7_at wsX7_at) := goodIn_app (goodIn_of _ (by decide +kernel)) ggX7_holdersAt_X7_at
theorem dX7_holdersAt_0 : decode cX7_holdersAt 0 = .ok (.iload_n 1, 1) := by decide +kernel
theorem dX7_holdersAt_1 : decode cX7_holdersAt 1 = .ok (.invokestatic 310, 3) := by decide +kernel
theorem dX7_holdersAt_4 : decode cX7_holdersAt 4 = .ok (.istore_n 2, 1) := by decide +kernel
theorem dX7_holdersAt_5 : decode cX7_holdersAt 5 = .ok (.iload_n 1, 1) := by decide +kernel
theorem dX7_holdersAt_6 : decode cX7_holdersAt 6 = .ok (.invokestatic 313, 3) := by decide +kernel
theorem dX7_holdersAt_9 : decode cX7_holdersAt 9 = .ok (.istore_n 3, 1) := by decide +kernel
theorem dX7_holdersAt_10 : decode cX7_holdersAt 10 = .ok (.iload_n 1, 1) := by decide +kernel
theorem dX7_holdersAt_11 : decode cX7_holdersAt 11 = .ok (.invokestatic 316, 3) := by decide +kernel
theorem dX7_holdersAt_14 : decode cX7_holdersAt 14 = .ok (.istore 4, 2) := by decide +kernel
theorem dX7_holdersAt_16 : decode cX7_holdersAt 16 = .ok (.aload_n 0, 1) := by decide +kernel
theorem dX7_holdersAt_17 : decode cX7_holdersAt 17 = .ok (.iconst 4, 1) := by decide +kernel
theorem dX7_holdersAt_18 : decode cX7_holdersAt 18 = .ok (.iload_n 2, 1) := by decide +kernel
theorem dX7_holdersAt_19 : decode cX7_holdersAt 19 = .ok (.iload_n 3, 1) := by decide +kernel
theorem dX7_holdersAt_20 : decode cX7_holdersAt 20 = .ok (.invokevirtual 319, 3) := by decide +kernel
theorem dX7_holdersAt_23 : decode cX7_holdersAt 23 = .ok (.istore 5, 2) := by decide +kernel
theorem dX7_holdersAt_25 : decode cX7_holdersAt 25 = .ok (.iconst 0, 1) := by decide +kernel
theorem dX7_holdersAt_26 : decode cX7_holdersAt 26 = .ok (.istore 6, 2) := by decide +kernel
theorem dX7_holdersAt_28 : decode cX7_holdersAt 28 = .ok (.iload 6, 2) := by decide +kernel
theorem dX7_holdersAt_30 : decode cX7_holdersAt 30 = .ok (.iconst 4, 1) := by decide +kernel
theorem dX7_holdersAt_31 : decode cX7_holdersAt 31 = .ok (.if_icmp .ge 40, 3) := by decide +kernel
theorem dX7_holdersAt_34 : decode cX7_holdersAt 34 = .ok (.iload 5, 2) := by decide +kernel
theorem dX7_holdersAt_36 : decode cX7_holdersAt 36 = .ok (.aload_n 0, 1) := by decide +kernel
theorem dX7_holdersAt_37 : decode cX7_holdersAt 37 = .ok (.iload 4, 2) := by decide +kernel
theorem dX7_holdersAt_39 : decode cX7_holdersAt 39 = .ok (.iload_n 2, 1) := by decide +kernel
theorem dX7_holdersAt_40 : decode cX7_holdersAt 40 = .ok (.getstatic 322, 3) := by decide +kernel
theorem dX7_holdersAt_43 : decode cX7_holdersAt 43 = .ok (.iload 6, 2) := by decide +kernel
theorem dX7_holdersAt_45 : decode cX7_holdersAt 45 = .ok (.invokestatic 251, 3) := by decide +kernel
theorem dX7_holdersAt_48 : decode cX7_holdersAt 48 = .ok (.iadd, 1) := by decide +kernel
theorem dX7_holdersAt_49 : decode cX7_holdersAt 49 = .ok (.iload_n 3, 1) := by decide +kernel
theorem dX7_holdersAt_50 : decode cX7_holdersAt 50 = .ok (.getstatic 325, 3) := by decide +kernel
theorem dX7_holdersAt_53 : decode cX7_holdersAt 53 = .ok (.iload 6, 2) := by decide +kernel
theorem dX7_holdersAt_55 : decode cX7_holdersAt 55 = .ok (.invokestatic 251, 3) := by decide +kernel
theorem dX7_holdersAt_58 : decode cX7_holdersAt 58 = .ok (.iadd, 1) := by decide +kernel
theorem dX7_holdersAt_59 : decode cX7_holdersAt 59 = .ok (.invokevirtual 319, 3) := by decide +kernel
theorem dX7_holdersAt_62 : decode cX7_holdersAt 62 = .ok (.ior, 1) := by decide +kernel
theorem dX7_holdersAt_63 : decode cX7_holdersAt 63 = .ok (.istore 5, 2) := by decide +kernel
theorem dX7_holdersAt_65 : decode cX7_holdersAt 65 = .ok (.iinc 6 1, 3) := by decide +kernel
theorem dX7_holdersAt_68 : decode cX7_holdersAt 68 = .ok (.goto (-40), 3) := by decide +kernel
theorem dX7_holdersAt_71 : decode cX7_holdersAt 71 = .ok (.iload 5, 2) := by decide +kernel
theorem dX7_holdersAt_73 : decode cX7_holdersAt 73 = .ok (.ireturn, 1) := by decide +kernel
set_option maxRecDepth 20000 in
theorem ggX7_thingsUnder_X0_isPlace : GoodIn wsX7_thingsUnder wsX0_isPlace := goodIn_r _ [8, 9, 10, 11, 12, 13, 66, 67, 68, 69, 70, 71, 72, 73, 74, 75, 76, 77] (by decide +kernel) (by decide +kernel)
set_option maxRecDepth 20000 in
theorem gX7_thingsUnder_X0_isPlace : GoodIn wsX7_thingsUnder (wsV RX7 189 RX0 yX0_isPlace wsX0_isPlace) := goodIn_app (goodIn_of _ (by decide +kernel)) ggX7_thingsUnder_X0_isPlace
set_option maxRecDepth 20000 in
theorem ggX7_thingsUnder_X1_fits : GoodIn wsX7_thingsUnder wsX1_fits := goodIn_r _ [18, 19, 20, 21, 22, 12, 23, 78, 79, 80, 81, 82] (by decide +kernel) (by decide +kernel)
set_option maxRecDepth 20000 in
theorem gX7_thingsUnder_X1_fits : GoodIn wsX7_thingsUnder (wsV RX7 186 RX1 yX1_fits wsX1_fits) := goodIn_app (goodIn_of _ (by decide +kernel)) ggX7_thingsUnder_X1_fits
set_option maxRecDepth 20000 in
theorem ggX7_thingsUnder_X6_sizeOf : GoodIn wsX7_thingsUnder wsX6_sizeOf := goodIn_r _ [28, 29, 22, 12, 23, 83, 84, 85] (by decide +kernel) (by decide +kernel)
set_option maxRecDepth 20000 in
theorem gX7_thingsUnder_X6_sizeOf : GoodIn wsX7_thingsUnder (wsV RX7 328 RX6 yX6_sizeOf wsX6_sizeOf) := goodIn_app (goodIn_of _ (by decide +kernel)) ggX7_thingsUnder_X6_sizeOf
set_option maxRecDepth 20000 in
theorem ggX7_thingsUnder_X6_alongOf : GoodIn wsX7_thingsUnder wsX6_alongOf := goodIn_r _ [33, 34, 22, 12, 23, 83, 84, 85] (by decide +kernel) (by decide +kernel)
set_option maxRecDepth 20000 in
theorem gX7_thingsUnder_X6_alongOf : GoodIn wsX7_thingsUnder (wsV RX7 331 RX6 yX6_alongOf wsX6_alongOf) := goodIn_app (goodIn_of _ (by decide +kernel)) ggX7_thingsUnder_X6_alongOf
set_option maxRecDepth 20000 in
theorem ggX7_thingsUnder_X6_upOf : GoodIn wsX7_thingsUnder wsX6_upOf := goodIn_r _ [38, 39, 22, 12, 23, 83, 84, 85] (by decide +kernel) (by decide +kernel)
set_option maxRecDepth 20000 in
theorem gX7_thingsUnder_X6_upOf : GoodIn wsX7_thingsUnder (wsV RX7 334 RX6 yX6_upOf wsX6_upOf) := goodIn_app (goodIn_of _ (by decide +kernel)) ggX7_thingsUnder_X6_upOf
set_option maxRecDepth 20000 in
theorem ggX7_thingsUnder_X0_thingsOn : GoodIn wsX7_thingsUnder wsX0_thingsOn := goodIn_r _ [43, 44, 45, 46, 47, 48, 7, 49, 9, 10, 11, 12, 13, 50, 51, 52, 22, 23, 66, 67, 68, 69, 70, 71, 72, 73, 74, 75, 76, 77] (by decide +kernel) (by decide +kernel)
set_option maxRecDepth 20000 in
theorem gX7_thingsUnder_X0_thingsOn : GoodIn wsX7_thingsUnder (wsV RX7 130 RX0 yX0_thingsOn wsX0_thingsOn) := goodIn_app (goodIn_of _ (by decide +kernel)) ggX7_thingsUnder_X0_thingsOn
theorem dX7_thingsUnder_0 : decode cX7_thingsUnder 0 = .ok (.aload_n 0, 1) := by decide +kernel
theorem dX7_thingsUnder_1 : decode cX7_thingsUnder 1 = .ok (.getfield 12, 3) := by decide +kernel
theorem dX7_thingsUnder_4 : decode cX7_thingsUnder 4 = .ok (.iload_n 2, 1) := by decide +kernel
theorem dX7_thingsUnder_5 : decode cX7_thingsUnder 5 = .ok (.iload_n 3, 1) := by decide +kernel
theorem dX7_thingsUnder_6 : decode cX7_thingsUnder 6 = .ok (.invokevirtual 189, 3) := by decide +kernel
theorem dX7_thingsUnder_9 : decode cX7_thingsUnder 9 = .ok (.ifCond .eq 16, 3) := by decide +kernel
theorem dX7_thingsUnder_12 : decode cX7_thingsUnder 12 = .ok (.aload_n 0, 1) := by decide +kernel
theorem dX7_thingsUnder_13 : decode cX7_thingsUnder 13 = .ok (.getfield 33, 3) := by decide +kernel
theorem dX7_thingsUnder_16 : decode cX7_thingsUnder 16 = .ok (.iload_n 1, 1) := by decide +kernel
theorem dX7_thingsUnder_17 : decode cX7_thingsUnder 17 = .ok (.iload_n 2, 1) := by decide +kernel
theorem dX7_thingsUnder_18 : decode cX7_thingsUnder 18 = .ok (.iload_n 3, 1) := by decide +kernel
theorem dX7_thingsUnder_19 : decode cX7_thingsUnder 19 = .ok (.invokevirtual 186, 3) := by decide +kernel
theorem dX7_thingsUnder_22 : decode cX7_thingsUnder 22 = .ok (.ifCond .eq 5, 3) := by decide +kernel
theorem dX7_thingsUnder_25 : decode cX7_thingsUnder 25 = .ok (.iconst 0, 1) := by decide +kernel
theorem dX7_thingsUnder_26 : decode cX7_thingsUnder 26 = .ok (.ireturn, 1) := by decide +kernel
theorem dX7_thingsUnder_27 : decode cX7_thingsUnder 27 = .ok (.iconst 0, 1) := by decide +kernel
theorem dX7_thingsUnder_28 : decode cX7_thingsUnder 28 = .ok (.istore 4, 2) := by decide +kernel
theorem dX7_thingsUnder_30 : decode cX7_thingsUnder 30 = .ok (.iconst 0, 1) := by decide +kernel
theorem dX7_thingsUnder_31 : decode cX7_thingsUnder 31 = .ok (.istore 5, 2) := by decide +kernel
theorem dX7_thingsUnder_33 : decode cX7_thingsUnder 33 = .ok (.iload 5, 2) := by decide +kernel
theorem dX7_thingsUnder_35 : decode cX7_thingsUnder 35 = .ok (.aload_n 0, 1) := by decide +kernel
theorem dX7_thingsUnder_36 : decode cX7_thingsUnder 36 = .ok (.getfield 26, 3) := by decide +kernel
theorem dX7_thingsUnder_39 : decode cX7_thingsUnder 39 = .ok (.iload_n 1, 1) := by decide +kernel
theorem dX7_thingsUnder_40 : decode cX7_thingsUnder 40 = .ok (.invokevirtual 328, 3) := by decide +kernel
theorem dX7_thingsUnder_43 : decode cX7_thingsUnder 43 = .ok (.if_icmp .ge 45, 3) := by decide +kernel
theorem dX7_thingsUnder_46 : decode cX7_thingsUnder 46 = .ok (.iload 4, 2) := by decide +kernel
theorem dX7_thingsUnder_48 : decode cX7_thingsUnder 48 = .ok (.aload_n 0, 1) := by decide +kernel
theorem dX7_thingsUnder_49 : decode cX7_thingsUnder 49 = .ok (.getfield 12, 3) := by decide +kernel
theorem dX7_thingsUnder_52 : decode cX7_thingsUnder 52 = .ok (.iload_n 2, 1) := by decide +kernel
theorem dX7_thingsUnder_53 : decode cX7_thingsUnder 53 = .ok (.aload_n 0, 1) := by decide +kernel
theorem dX7_thingsUnder_54 : decode cX7_thingsUnder 54 = .ok (.getfield 26, 3) := by decide +kernel
theorem dX7_thingsUnder_57 : decode cX7_thingsUnder 57 = .ok (.iload_n 1, 1) := by decide +kernel
theorem dX7_thingsUnder_58 : decode cX7_thingsUnder 58 = .ok (.iload 5, 2) := by decide +kernel
theorem dX7_thingsUnder_60 : decode cX7_thingsUnder 60 = .ok (.invokevirtual 331, 3) := by decide +kernel
theorem dX7_thingsUnder_63 : decode cX7_thingsUnder 63 = .ok (.iadd, 1) := by decide +kernel
theorem dX7_thingsUnder_64 : decode cX7_thingsUnder 64 = .ok (.iload_n 3, 1) := by decide +kernel
theorem dX7_thingsUnder_65 : decode cX7_thingsUnder 65 = .ok (.aload_n 0, 1) := by decide +kernel
theorem dX7_thingsUnder_66 : decode cX7_thingsUnder 66 = .ok (.getfield 26, 3) := by decide +kernel
theorem dX7_thingsUnder_69 : decode cX7_thingsUnder 69 = .ok (.iload_n 1, 1) := by decide +kernel
theorem dX7_thingsUnder_70 : decode cX7_thingsUnder 70 = .ok (.iload 5, 2) := by decide +kernel
theorem dX7_thingsUnder_72 : decode cX7_thingsUnder 72 = .ok (.invokevirtual 334, 3) := by decide +kernel
theorem dX7_thingsUnder_75 : decode cX7_thingsUnder 75 = .ok (.iadd, 1) := by decide +kernel
theorem dX7_thingsUnder_76 : decode cX7_thingsUnder 76 = .ok (.invokevirtual 130, 3) := by decide +kernel
theorem dX7_thingsUnder_79 : decode cX7_thingsUnder 79 = .ok (.ior, 1) := by decide +kernel
theorem dX7_thingsUnder_80 : decode cX7_thingsUnder 80 = .ok (.istore 4, 2) := by decide +kernel
theorem dX7_thingsUnder_82 : decode cX7_thingsUnder 82 = .ok (.iinc 5 1, 3) := by decide +kernel
theorem dX7_thingsUnder_85 : decode cX7_thingsUnder 85 = .ok (.goto (-52), 3) := by decide +kernel
theorem dX7_thingsUnder_88 : decode cX7_thingsUnder 88 = .ok (.iload 4, 2) := by decide +kernel
theorem dX7_thingsUnder_90 : decode cX7_thingsUnder 90 = .ok (.ireturn, 1) := by decide +kernel
set_option maxRecDepth 20000 in
theorem ggX7_isState_X0_isPlace : GoodIn wsX7_isState wsX0_isPlace := goodIn_r _ [6, 7, 8, 9, 10, 11, 26, 27, 28, 29, 30, 31, 32, 33, 34, 35, 36, 37] (by decide +kernel) (by decide +kernel)
set_option maxRecDepth 20000 in
theorem gX7_isState_X0_isPlace : GoodIn wsX7_isState (wsV RX7 189 RX0 yX0_isPlace wsX0_isPlace) := goodIn_app (goodIn_of _ (by decide +kernel)) ggX7_isState_X0_isPlace
set_option maxRecDepth 20000 in
theorem ggX7_isState_X7_isWithin : GoodIn wsX7_isState wsX7_isWithin := goodIn_r _ [11] (by decide +kernel) (by decide +kernel)
set_option maxRecDepth 20000 in
theorem gX7_isState_X7_isWithin : GoodIn wsX7_isState (va_wsS RX7 65 yX7_isWithin wsX7_isWithin) := goodIn_app (goodIn_of _ (by decide +kernel)) ggX7_isState_X7_isWithin
theorem dX7_isState_0 : decode cX7_isState 0 = .ok (.aload_n 0, 1) := by decide +kernel
theorem dX7_isState_1 : decode cX7_isState 1 = .ok (.getfield 12, 3) := by decide +kernel
theorem dX7_isState_4 : decode cX7_isState 4 = .ok (.iload_n 1, 1) := by decide +kernel
theorem dX7_isState_5 : decode cX7_isState 5 = .ok (.iload_n 2, 1) := by decide +kernel
theorem dX7_isState_6 : decode cX7_isState 6 = .ok (.invokevirtual 189, 3) := by decide +kernel
theorem dX7_isState_9 : decode cX7_isState 9 = .ok (.ifCond .eq 16, 3) := by decide +kernel
theorem dX7_isState_12 : decode cX7_isState 12 = .ok (.iload_n 3, 1) := by decide +kernel
theorem dX7_isState_13 : decode cX7_isState 13 = .ok (.iconst 0, 1) := by decide +kernel
theorem dX7_isState_14 : decode cX7_isState 14 = .ok (.iconst 3, 1) := by decide +kernel
theorem dX7_isState_15 : decode cX7_isState 15 = .ok (.invokestatic 65, 3) := by decide +kernel
theorem dX7_isState_18 : decode cX7_isState 18 = .ok (.ifCond .eq 7, 3) := by decide +kernel
theorem dX7_isState_21 : decode cX7_isState 21 = .ok (.iconst 1, 1) := by decide +kernel
theorem dX7_isState_22 : decode cX7_isState 22 = .ok (.goto 4, 3) := by decide +kernel
theorem dX7_isState_25 : decode cX7_isState 25 = .ok (.iconst 0, 1) := by decide +kernel
theorem dX7_isState_26 : decode cX7_isState 26 = .ok (.ireturn, 1) := by decide +kernel
theorem dX7_isOfKind_0 : decode cX7_isOfKind 0 = .ok (.iload_n 1, 1) := by decide +kernel
theorem dX7_isOfKind_1 : decode cX7_isOfKind 1 = .ok (.ifCond .eq 8, 3) := by decide +kernel
theorem dX7_isOfKind_4 : decode cX7_isOfKind 4 = .ok (.iload_n 1, 1) := by decide +kernel
theorem dX7_isOfKind_5 : decode cX7_isOfKind 5 = .ok (.iload_n 0, 1) := by decide +kernel
theorem dX7_isOfKind_6 : decode cX7_isOfKind 6 = .ok (.if_icmp .ne 5, 3) := by decide +kernel
theorem dX7_isOfKind_9 : decode cX7_isOfKind 9 = .ok (.iconst 1, 1) := by decide +kernel
theorem dX7_isOfKind_10 : decode cX7_isOfKind 10 = .ok (.ireturn, 1) := by decide +kernel
theorem dX7_isOfKind_11 : decode cX7_isOfKind 11 = .ok (.iload_n 1, 1) := by decide +kernel
theorem dX7_isOfKind_12 : decode cX7_isOfKind 12 = .ok (.iconst 1, 1) := by decide +kernel
theorem dX7_isOfKind_13 : decode cX7_isOfKind 13 = .ok (.if_icmp .ne 17, 3) := by decide +kernel
theorem dX7_isOfKind_16 : decode cX7_isOfKind 16 = .ok (.iload_n 0, 1) := by decide +kernel
theorem dX7_isOfKind_17 : decode cX7_isOfKind 17 = .ok (.iconst 2, 1) := by decide +kernel
theorem dX7_isOfKind_18 : decode cX7_isOfKind 18 = .ok (.if_icmp .eq 8, 3) := by decide +kernel
theorem dX7_isOfKind_21 : decode cX7_isOfKind 21 = .ok (.iload_n 0, 1) := by decide +kernel
theorem dX7_isOfKind_22 : decode cX7_isOfKind 22 = .ok (.iconst 3, 1) := by decide +kernel
theorem dX7_isOfKind_23 : decode cX7_isOfKind 23 = .ok (.if_icmp .ne 7, 3) := by decide +kernel
theorem dX7_isOfKind_26 : decode cX7_isOfKind 26 = .ok (.iconst 1, 1) := by decide +kernel
theorem dX7_isOfKind_27 : decode cX7_isOfKind 27 = .ok (.goto 4, 3) := by decide +kernel
theorem dX7_isOfKind_30 : decode cX7_isOfKind 30 = .ok (.iconst 0, 1) := by decide +kernel
theorem dX7_isOfKind_31 : decode cX7_isOfKind 31 = .ok (.ireturn, 1) := by decide +kernel
theorem dX7_leastOf_0 : decode cX7_leastOf 0 = .ok (.iconst 0, 1) := by decide +kernel
theorem dX7_leastOf_1 : decode cX7_leastOf 1 = .ok (.istore_n 1, 1) := by decide +kernel
theorem dX7_leastOf_2 : decode cX7_leastOf 2 = .ok (.iload_n 1, 1) := by decide +kernel
theorem dX7_leastOf_3 : decode cX7_leastOf 3 = .ok (.bipush 12, 2) := by decide +kernel
theorem dX7_leastOf_5 : decode cX7_leastOf 5 = .ok (.if_icmp .ge 20, 3) := by decide +kernel
theorem dX7_leastOf_8 : decode cX7_leastOf 8 = .ok (.iload_n 0, 1) := by decide +kernel
theorem dX7_leastOf_9 : decode cX7_leastOf 9 = .ok (.iload_n 1, 1) := by decide +kernel
theorem dX7_leastOf_10 : decode cX7_leastOf 10 = .ok (.ishr, 1) := by decide +kernel
theorem dX7_leastOf_11 : decode cX7_leastOf 11 = .ok (.iconst 1, 1) := by decide +kernel
theorem dX7_leastOf_12 : decode cX7_leastOf 12 = .ok (.iand, 1) := by decide +kernel
theorem dX7_leastOf_13 : decode cX7_leastOf 13 = .ok (.iconst 1, 1) := by decide +kernel
theorem dX7_leastOf_14 : decode cX7_leastOf 14 = .ok (.if_icmp .ne 5, 3) := by decide +kernel
theorem dX7_leastOf_17 : decode cX7_leastOf 17 = .ok (.iload_n 1, 1) := by decide +kernel
theorem dX7_leastOf_18 : decode cX7_leastOf 18 = .ok (.ireturn, 1) := by decide +kernel
theorem dX7_leastOf_19 : decode cX7_leastOf 19 = .ok (.iinc 1 1, 3) := by decide +kernel
theorem dX7_leastOf_22 : decode cX7_leastOf 22 = .ok (.goto (-20), 3) := by decide +kernel
theorem dX7_leastOf_25 : decode cX7_leastOf 25 = .ok (.bipush (-9), 2) := by decide +kernel
theorem dX7_leastOf_27 : decode cX7_leastOf 27 = .ok (.ireturn, 1) := by decide +kernel
theorem dX7_mix_0 : decode cX7_mix 0 = .ok (.ldc2_w 337, 3) := by decide +kernel
theorem dX7_mix_3 : decode cX7_mix 3 = .ok (.lload_n 0, 1) := by decide +kernel
theorem dX7_mix_4 : decode cX7_mix 4 = .ok (.lmul, 1) := by decide +kernel
theorem dX7_mix_5 : decode cX7_mix 5 = .ok (.iload_n 2, 1) := by decide +kernel
theorem dX7_mix_6 : decode cX7_mix 6 = .ok (.i2l, 1) := by decide +kernel
theorem dX7_mix_7 : decode cX7_mix 7 = .ok (.ladd, 1) := by decide +kernel
theorem dX7_mix_8 : decode cX7_mix 8 = .ok (.lreturn, 1) := by decide +kernel
set_option maxRecDepth 20000 in
theorem ggX7_mixState_X7_xOf : GoodIn wsX7_mixState wsX7_xOf := goodIn_r _ [4] (by decide +kernel) (by decide +kernel)
set_option maxRecDepth 20000 in
theorem gX7_mixState_X7_xOf : GoodIn wsX7_mixState (va_wsS RX7 310 yX7_xOf wsX7_xOf) := goodIn_app (goodIn_of _ (by decide +kernel)) ggX7_mixState_X7_xOf
set_option maxRecDepth 20000 in
theorem ggX7_mixState_X7_mix : GoodIn wsX7_mixState wsX7_mix := goodIn_r _ [7, 8] (by decide +kernel) (by decide +kernel)
set_option maxRecDepth 20000 in
theorem gX7_mixState_X7_mix : GoodIn wsX7_mixState (va_wsS RX7 295 yX7_mix wsX7_mix) := goodIn_app (goodIn_of _ (by decide +kernel)) ggX7_mixState_X7_mix
set_option maxRecDepth 20000 in
theorem ggX7_mixState_X7_yOf : GoodIn wsX7_mixState wsX7_yOf := goodIn_r _ [11] (by decide +kernel) (by decide +kernel)
set_option maxRecDepth 20000 in
theorem gX7_mixState_X7_yOf : GoodIn wsX7_mixState (va_wsS RX7 313 yX7_yOf wsX7_yOf) := goodIn_app (goodIn_of _ (by decide +kernel)) ggX7_mixState_X7_yOf
set_option maxRecDepth 20000 in
theorem ggX7_mixState_X7_qOf : GoodIn wsX7_mixState wsX7_qOf := goodIn_r _ [14] (by decide +kernel) (by decide +kernel)
set_option maxRecDepth 20000 in
theorem gX7_mixState_X7_qOf : GoodIn wsX7_mixState (va_wsS RX7 316 yX7_qOf wsX7_qOf) := goodIn_app (goodIn_of _ (by decide +kernel)) ggX7_mixState_X7_qOf
theorem dX7_mixState_0 : decode cX7_mixState 0 = .ok (.lload_n 0, 1) := by decide +kernel
theorem dX7_mixState_1 : decode cX7_mixState 1 = .ok (.iload_n 2, 1) := by decide +kernel
theorem dX7_mixState_2 : decode cX7_mixState 2 = .ok (.invokestatic 310, 3) := by decide +kernel
theorem dX7_mixState_5 : decode cX7_mixState 5 = .ok (.invokestatic 295, 3) := by decide +kernel
theorem dX7_mixState_8 : decode cX7_mixState 8 = .ok (.iload_n 2, 1) := by decide +kernel
theorem dX7_mixState_9 : decode cX7_mixState 9 = .ok (.invokestatic 313, 3) := by decide +kernel
theorem dX7_mixState_12 : decode cX7_mixState 12 = .ok (.invokestatic 295, 3) := by decide +kernel
theorem dX7_mixState_15 : decode cX7_mixState 15 = .ok (.iload_n 2, 1) := by decide +kernel
theorem dX7_mixState_16 : decode cX7_mixState 16 = .ok (.invokestatic 316, 3) := by decide +kernel
theorem dX7_mixState_19 : decode cX7_mixState 19 = .ok (.invokestatic 295, 3) := by decide +kernel
theorem dX7_mixState_22 : decode cX7_mixState 22 = .ok (.lreturn, 1) := by decide +kernel
theorem dX7_stateOf_0 : decode cX7_stateOf 0 = .ok (.iload_n 2, 1) := by decide +kernel
theorem dX7_stateOf_1 : decode cX7_stateOf 1 = .ok (.sipush 441, 3) := by decide +kernel
theorem dX7_stateOf_4 : decode cX7_stateOf 4 = .ok (.imul, 1) := by decide +kernel
theorem dX7_stateOf_5 : decode cX7_stateOf 5 = .ok (.iload_n 1, 1) := by decide +kernel
theorem dX7_stateOf_6 : decode cX7_stateOf 6 = .ok (.bipush 21, 2) := by decide +kernel
theorem dX7_stateOf_8 : decode cX7_stateOf 8 = .ok (.imul, 1) := by decide +kernel
theorem dX7_stateOf_9 : decode cX7_stateOf 9 = .ok (.iadd, 1) := by decide +kernel
theorem dX7_stateOf_10 : decode cX7_stateOf 10 = .ok (.iload_n 0, 1) := by decide +kernel
theorem dX7_stateOf_11 : decode cX7_stateOf 11 = .ok (.iadd, 1) := by decide +kernel
theorem dX7_stateOf_12 : decode cX7_stateOf 12 = .ok (.ireturn, 1) := by decide +kernel
theorem dX7_xOf_0 : decode cX7_xOf 0 = .ok (.iload_n 0, 1) := by decide +kernel
theorem dX7_xOf_1 : decode cX7_xOf 1 = .ok (.bipush 21, 2) := by decide +kernel
theorem dX7_xOf_3 : decode cX7_xOf 3 = .ok (.irem, 1) := by decide +kernel
theorem dX7_xOf_4 : decode cX7_xOf 4 = .ok (.ireturn, 1) := by decide +kernel
theorem dX7_yOf_0 : decode cX7_yOf 0 = .ok (.iload_n 0, 1) := by decide +kernel
theorem dX7_yOf_1 : decode cX7_yOf 1 = .ok (.bipush 21, 2) := by decide +kernel
theorem dX7_yOf_3 : decode cX7_yOf 3 = .ok (.idiv, 1) := by decide +kernel
theorem dX7_yOf_4 : decode cX7_yOf 4 = .ok (.bipush 21, 2) := by decide +kernel
theorem dX7_yOf_6 : decode cX7_yOf 6 = .ok (.irem, 1) := by decide +kernel
theorem dX7_yOf_7 : decode cX7_yOf 7 = .ok (.ireturn, 1) := by decide +kernel
theorem dX7_qOf_0 : decode cX7_qOf 0 = .ok (.iload_n 0, 1) := by decide +kernel
theorem dX7_qOf_1 : decode cX7_qOf 1 = .ok (.sipush 441, 3) := by decide +kernel
theorem dX7_qOf_4 : decode cX7_qOf 4 = .ok (.idiv, 1) := by decide +kernel
theorem dX7_qOf_5 : decode cX7_qOf 5 = .ok (.ireturn, 1) := by decide +kernel
theorem dX7_isWithin_0 : decode cX7_isWithin 0 = .ok (.iload_n 0, 1) := by decide +kernel
theorem dX7_isWithin_1 : decode cX7_isWithin 1 = .ok (.iload_n 1, 1) := by decide +kernel
theorem dX7_isWithin_2 : decode cX7_isWithin 2 = .ok (.if_icmp .lt 12, 3) := by decide +kernel
theorem dX7_isWithin_5 : decode cX7_isWithin 5 = .ok (.iload_n 0, 1) := by decide +kernel
theorem dX7_isWithin_6 : decode cX7_isWithin 6 = .ok (.iload_n 2, 1) := by decide +kernel
theorem dX7_isWithin_7 : decode cX7_isWithin 7 = .ok (.if_icmp .gt 7, 3) := by decide +kernel
theorem dX7_isWithin_10 : decode cX7_isWithin 10 = .ok (.iconst 1, 1) := by decide +kernel
theorem dX7_isWithin_11 : decode cX7_isWithin 11 = .ok (.goto 4, 3) := by decide +kernel
theorem dX7_isWithin_14 : decode cX7_isWithin 14 = .ok (.iconst 0, 1) := by decide +kernel
theorem dX7_isWithin_15 : decode cX7_isWithin 15 = .ok (.ireturn, 1) := by decide +kernel
theorem dX7_at_0 : decode cX7_at 0 = .ok (.iload_n 1, 1) := by decide +kernel
theorem dX7_at_1 : decode cX7_at 1 = .ok (.ifCond .lt 15, 3) := by decide +kernel
theorem dX7_at_4 : decode cX7_at 4 = .ok (.iload_n 1, 1) := by decide +kernel
theorem dX7_at_5 : decode cX7_at 5 = .ok (.aload_n 0, 1) := by decide +kernel
theorem dX7_at_6 : decode cX7_at 6 = .ok (.arraylength, 1) := by decide +kernel
theorem dX7_at_7 : decode cX7_at 7 = .ok (.if_icmp .ge 9, 3) := by decide +kernel
theorem dX7_at_10 : decode cX7_at 10 = .ok (.aload_n 0, 1) := by decide +kernel
theorem dX7_at_11 : decode cX7_at 11 = .ok (.iload_n 1, 1) := by decide +kernel
theorem dX7_at_12 : decode cX7_at 12 = .ok (.iaload, 1) := by decide +kernel
theorem dX7_at_13 : decode cX7_at 13 = .ok (.goto 4, 3) := by decide +kernel
theorem dX7_at_16 : decode cX7_at 16 = .ok (.iconst 0, 1) := by decide +kernel
theorem dX7_at_17 : decode cX7_at 17 = .ok (.ireturn, 1) := by decide +kernel
theorem dX7_put_0 : decode cX7_put 0 = .ok (.iload_n 1, 1) := by decide +kernel
theorem dX7_put_1 : decode cX7_put 1 = .ok (.ifCond .lt 13, 3) := by decide +kernel
theorem dX7_put_4 : decode cX7_put 4 = .ok (.iload_n 1, 1) := by decide +kernel
theorem dX7_put_5 : decode cX7_put 5 = .ok (.aload_n 0, 1) := by decide +kernel
theorem dX7_put_6 : decode cX7_put 6 = .ok (.arraylength, 1) := by decide +kernel
theorem dX7_put_7 : decode cX7_put 7 = .ok (.if_icmp .ge 7, 3) := by decide +kernel
theorem dX7_put_10 : decode cX7_put 10 = .ok (.aload_n 0, 1) := by decide +kernel
theorem dX7_put_11 : decode cX7_put 11 = .ok (.iload_n 1, 1) := by decide +kernel
theorem dX7_put_12 : decode cX7_put 12 = .ok (.iload_n 2, 1) := by decide +kernel
theorem dX7_put_13 : decode cX7_put 13 = .ok (.iastore, 1) := by decide +kernel
theorem dX7_put_14 : decode cX7_put 14 = .ok (.return_, 1) := by decide +kernel
theorem dX7_fillWith_0 : decode cX7_fillWith 0 = .ok (.iconst 0, 1) := by decide +kernel
theorem dX7_fillWith_1 : decode cX7_fillWith 1 = .ok (.istore_n 2, 1) := by decide +kernel
theorem dX7_fillWith_2 : decode cX7_fillWith 2 = .ok (.iload_n 2, 1) := by decide +kernel
theorem dX7_fillWith_3 : decode cX7_fillWith 3 = .ok (.aload_n 0, 1) := by decide +kernel
theorem dX7_fillWith_4 : decode cX7_fillWith 4 = .ok (.arraylength, 1) := by decide +kernel
theorem dX7_fillWith_5 : decode cX7_fillWith 5 = .ok (.if_icmp .ge 13, 3) := by decide +kernel
theorem dX7_fillWith_8 : decode cX7_fillWith 8 = .ok (.aload_n 0, 1) := by decide +kernel
theorem dX7_fillWith_9 : decode cX7_fillWith 9 = .ok (.iload_n 2, 1) := by decide +kernel
theorem dX7_fillWith_10 : decode cX7_fillWith 10 = .ok (.iload_n 1, 1) := by decide +kernel
theorem dX7_fillWith_11 : decode cX7_fillWith 11 = .ok (.iastore, 1) := by decide +kernel
theorem dX7_fillWith_12 : decode cX7_fillWith 12 = .ok (.iinc 2 1, 3) := by decide +kernel
theorem dX7_fillWith_15 : decode cX7_fillWith 15 = .ok (.goto (-13), 3) := by decide +kernel
theorem dX7_fillWith_18 : decode cX7_fillWith 18 = .ok (.return_, 1) := by decide +kernel
