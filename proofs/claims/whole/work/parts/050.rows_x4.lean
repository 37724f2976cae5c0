theorem dX4_init_0 : decode cX4_init 0 = .ok (.aload_n 0, 1) := by decide +kernel
theorem dX4_init_1 : decode cX4_init 1 = .ok (.invokespecial 3, 3) := by decide +kernel
theorem dX4_init_4 : decode cX4_init 4 = .ok (.aload_n 0, 1) := by decide +kernel
theorem dX4_init_5 : decode cX4_init 5 = .ok (.bipush (-9), 2) := by decide +kernel
theorem dX4_init_7 : decode cX4_init 7 = .ok (.putfield 9, 3) := by decide +kernel
theorem dX4_init_10 : decode cX4_init 10 = .ok (.aload_n 0, 1) := by decide +kernel
theorem dX4_init_11 : decode cX4_init 11 = .ok (.sipush 1764, 3) := by decide +kernel
theorem dX4_init_14 : decode cX4_init 14 = .ok (.newarray .int, 2) := by decide +kernel
theorem dX4_init_16 : decode cX4_init 16 = .ok (.putfield 15, 3) := by decide +kernel
theorem dX4_init_19 : decode cX4_init 19 = .ok (.return_, 1) := by decide +kernel
set_option maxRecDepth 20000 in
theorem ggX4_trace_X5_isReached : GoodIn wsX4_trace wsX5_isReached := goodIn_r _ [8, 9, 10, 11, 12, 44, 45, 46, 47, 48, 49, 50] (by decide +kernel) (by decide +kernel)
set_option maxRecDepth 20000 in
theorem gX4_trace_X5_isReached : GoodIn wsX4_trace (wsV RX4 19 RX5 yX5_isReached wsX5_isReached) := goodIn_app (goodIn_of _ (by decide +kernel)) ggX4_trace_X5_isReached
set_option maxRecDepth 20000 in
theorem ggX4_trace_X7_at : GoodIn wsX4_trace wsX7_at := goodIn_r _ [12] (by decide +kernel) (by decide +kernel)
set_option maxRecDepth 20000 in
theorem gX4_trace_X7_at_n28 : GoodIn wsX4_trace (wsX7_at) := ggX4_trace_X7_at
set_option maxRecDepth 20000 in
theorem ggX4_trace_X5_lastStep : GoodIn wsX4_trace wsX5_lastStep := goodIn_r _ [16, 9, 17, 18, 19, 20, 21, 22, 23, 11, 24, 25, 26, 27, 28, 29, 30, 31, 32, 33, 34, 35, 10, 12, 36, 37, 38, 5, 6, 7, 8, 44, 45, 46, 47, 48, 49, 50, 51, 52, 53, 54, 55] (by decide +kernel) (by decide +kernel)
set_option maxRecDepth 20000 in
theorem gX4_trace_X5_lastStep : GoodIn wsX4_trace (wsV RX4 32 RX5 yX5_lastStep wsX5_lastStep) := goodIn_app (goodIn_of _ (by decide +kernel)) ggX4_trace_X5_lastStep
set_option maxRecDepth 20000 in
theorem ggX4_trace_X7_put : GoodIn wsX4_trace wsX7_put := goodIn_r _ [40] (by decide +kernel) (by decide +kernel)
set_option maxRecDepth 20000 in
theorem gX4_trace_X7_put_n36 : GoodIn wsX4_trace (wsX7_put) := ggX4_trace_X7_put
set_option maxRecDepth 20000 in
theorem ggX4_trace_X1_lead : GoodIn wsX4_trace wsX1_lead := goodIn_r _ [22, 23, 11, 24, 25, 26, 27, 28, 29, 30, 31, 21, 32, 33, 34, 35, 10, 12, 36, 37, 51, 52, 53, 54, 55] (by decide +kernel) (by decide +kernel)
set_option maxRecDepth 20000 in
theorem gX4_trace_X1_lead : GoodIn wsX4_trace (wsV RX4 40 RX1 yX1_lead wsX1_lead) := goodIn_app (goodIn_of _ (by decide +kernel)) ggX4_trace_X1_lead
theorem dX4_trace_0 : decode cX4_trace 0 = .ok (.aload_n 0, 1) := by decide +kernel
theorem dX4_trace_1 : decode cX4_trace 1 = .ok (.bipush (-9), 2) := by decide +kernel
theorem dX4_trace_3 : decode cX4_trace 3 = .ok (.putfield 9, 3) := by decide +kernel
theorem dX4_trace_6 : decode cX4_trace 6 = .ok (.aload_n 2, 1) := by decide +kernel
theorem dX4_trace_7 : decode cX4_trace 7 = .ok (.iload_n 3, 1) := by decide +kernel
theorem dX4_trace_8 : decode cX4_trace 8 = .ok (.invokevirtual 19, 3) := by decide +kernel
theorem dX4_trace_11 : decode cX4_trace 11 = .ok (.ifCond .ne 4, 3) := by decide +kernel
theorem dX4_trace_14 : decode cX4_trace 14 = .ok (.return_, 1) := by decide +kernel
theorem dX4_trace_15 : decode cX4_trace 15 = .ok (.aload_n 0, 1) := by decide +kernel
theorem dX4_trace_16 : decode cX4_trace 16 = .ok (.aload_n 2, 1) := by decide +kernel
theorem dX4_trace_17 : decode cX4_trace 17 = .ok (.getfield 25, 3) := by decide +kernel
theorem dX4_trace_20 : decode cX4_trace 20 = .ok (.iload_n 3, 1) := by decide +kernel
theorem dX4_trace_21 : decode cX4_trace 21 = .ok (.invokestatic 28, 3) := by decide +kernel
theorem dX4_trace_24 : decode cX4_trace 24 = .ok (.putfield 9, 3) := by decide +kernel
theorem dX4_trace_27 : decode cX4_trace 27 = .ok (.iload_n 3, 1) := by decide +kernel
theorem dX4_trace_28 : decode cX4_trace 28 = .ok (.istore 4, 2) := by decide +kernel
theorem dX4_trace_30 : decode cX4_trace 30 = .ok (.aload_n 0, 1) := by decide +kernel
theorem dX4_trace_31 : decode cX4_trace 31 = .ok (.getfield 9, 3) := by decide +kernel
theorem dX4_trace_34 : decode cX4_trace 34 = .ok (.iconst 1, 1) := by decide +kernel
theorem dX4_trace_35 : decode cX4_trace 35 = .ok (.isub, 1) := by decide +kernel
theorem dX4_trace_36 : decode cX4_trace 36 = .ok (.istore 5, 2) := by decide +kernel
theorem dX4_trace_38 : decode cX4_trace 38 = .ok (.iload 5, 2) := by decide +kernel
theorem dX4_trace_40 : decode cX4_trace 40 = .ok (.ifCond .lt 49, 3) := by decide +kernel
theorem dX4_trace_43 : decode cX4_trace 43 = .ok (.aload_n 2, 1) := by decide +kernel
theorem dX4_trace_44 : decode cX4_trace 44 = .ok (.aload_n 1, 1) := by decide +kernel
theorem dX4_trace_45 : decode cX4_trace 45 = .ok (.iload 4, 2) := by decide +kernel
theorem dX4_trace_47 : decode cX4_trace 47 = .ok (.invokevirtual 32, 3) := by decide +kernel
theorem dX4_trace_50 : decode cX4_trace 50 = .ok (.istore 6, 2) := by decide +kernel
theorem dX4_trace_52 : decode cX4_trace 52 = .ok (.iload 6, 2) := by decide +kernel
theorem dX4_trace_54 : decode cX4_trace 54 = .ok (.bipush (-9), 2) := by decide +kernel
theorem dX4_trace_56 : decode cX4_trace 56 = .ok (.if_icmp .ne 4, 3) := by decide +kernel
theorem dX4_trace_59 : decode cX4_trace 59 = .ok (.return_, 1) := by decide +kernel
theorem dX4_trace_60 : decode cX4_trace 60 = .ok (.aload_n 0, 1) := by decide +kernel
theorem dX4_trace_61 : decode cX4_trace 61 = .ok (.getfield 15, 3) := by decide +kernel
theorem dX4_trace_64 : decode cX4_trace 64 = .ok (.iload 5, 2) := by decide +kernel
theorem dX4_trace_66 : decode cX4_trace 66 = .ok (.iload 6, 2) := by decide +kernel
theorem dX4_trace_68 : decode cX4_trace 68 = .ok (.invokestatic 36, 3) := by decide +kernel
theorem dX4_trace_71 : decode cX4_trace 71 = .ok (.aload_n 1, 1) := by decide +kernel
theorem dX4_trace_72 : decode cX4_trace 72 = .ok (.iload 4, 2) := by decide +kernel
theorem dX4_trace_74 : decode cX4_trace 74 = .ok (.iload 6, 2) := by decide +kernel
theorem dX4_trace_76 : decode cX4_trace 76 = .ok (.iconst 1, 1) := by decide +kernel
theorem dX4_trace_77 : decode cX4_trace 77 = .ok (.ixor, 1) := by decide +kernel
theorem dX4_trace_78 : decode cX4_trace 78 = .ok (.invokevirtual 40, 3) := by decide +kernel
theorem dX4_trace_81 : decode cX4_trace 81 = .ok (.istore 4, 2) := by decide +kernel
theorem dX4_trace_83 : decode cX4_trace 83 = .ok (.iinc 5 (-1), 3) := by decide +kernel
theorem dX4_trace_86 : decode cX4_trace 86 = .ok (.goto (-48), 3) := by decide +kernel
theorem dX4_trace_89 : decode cX4_trace 89 = .ok (.return_, 1) := by decide +kernel
set_option maxRecDepth 20000 in
theorem ggX4_stepAt_X7_isWithin : GoodIn wsX4_stepAt wsX7_isWithin := goodIn_r _ [5] (by decide +kernel) (by decide +kernel)
set_option maxRecDepth 20000 in
theorem gX4_stepAt_X7_isWithin_n46 : GoodIn wsX4_stepAt (wsX7_isWithin) := ggX4_stepAt_X7_isWithin
set_option maxRecDepth 20000 in
theorem ggX4_stepAt_X7_at : GoodIn wsX4_stepAt wsX7_at := goodIn_r _ [7] (by decide +kernel) (by decide +kernel)
set_option maxRecDepth 20000 in
theorem gX4_stepAt_X7_at_n28 : GoodIn wsX4_stepAt (wsX7_at) := ggX4_stepAt_X7_at
theorem dX4_stepAt_0 : decode cX4_stepAt 0 = .ok (.iload_n 1, 1) := by decide +kernel
theorem dX4_stepAt_1 : decode cX4_stepAt 1 = .ok (.iconst 0, 1) := by decide +kernel
theorem dX4_stepAt_2 : decode cX4_stepAt 2 = .ok (.aload_n 0, 1) := by decide +kernel
theorem dX4_stepAt_3 : decode cX4_stepAt 3 = .ok (.getfield 9, 3) := by decide +kernel
theorem dX4_stepAt_6 : decode cX4_stepAt 6 = .ok (.iconst 1, 1) := by decide +kernel
theorem dX4_stepAt_7 : decode cX4_stepAt 7 = .ok (.isub, 1) := by decide +kernel
theorem dX4_stepAt_8 : decode cX4_stepAt 8 = .ok (.invokestatic 46, 3) := by decide +kernel
theorem dX4_stepAt_11 : decode cX4_stepAt 11 = .ok (.ifCond .eq 14, 3) := by decide +kernel
theorem dX4_stepAt_14 : decode cX4_stepAt 14 = .ok (.aload_n 0, 1) := by decide +kernel
theorem dX4_stepAt_15 : decode cX4_stepAt 15 = .ok (.getfield 15, 3) := by decide +kernel
theorem dX4_stepAt_18 : decode cX4_stepAt 18 = .ok (.iload_n 1, 1) := by decide +kernel
theorem dX4_stepAt_19 : decode cX4_stepAt 19 = .ok (.invokestatic 28, 3) := by decide +kernel
theorem dX4_stepAt_22 : decode cX4_stepAt 22 = .ok (.goto 5, 3) := by decide +kernel
theorem dX4_stepAt_25 : decode cX4_stepAt 25 = .ok (.bipush (-9), 2) := by decide +kernel
theorem dX4_stepAt_27 : decode cX4_stepAt 27 = .ok (.ireturn, 1) := by decide +kernel
set_option maxRecDepth 20000 in
theorem ggX4_turnCount_X4_stepAt : GoodIn wsX4_turnCount wsX4_stepAt := goodIn_r _ [6, 1, 7, 8, 9, 10, 11, 12, 13, 14] (by decide +kernel) (by decide +kernel)
set_option maxRecDepth 20000 in
theorem gX4_turnCount_X4_stepAt : GoodIn wsX4_turnCount (wsV RX4 50 RX4 yX4_stepAt wsX4_stepAt) := goodIn_app (goodIn_of _ (by decide +kernel)) ggX4_turnCount_X4_stepAt
theorem dX4_turnCount_0 : decode cX4_turnCount 0 = .ok (.iconst 0, 1) := by decide +kernel
theorem dX4_turnCount_1 : decode cX4_turnCount 1 = .ok (.istore_n 1, 1) := by decide +kernel
theorem dX4_turnCount_2 : decode cX4_turnCount 2 = .ok (.iconst 0, 1) := by decide +kernel
theorem dX4_turnCount_3 : decode cX4_turnCount 3 = .ok (.istore_n 2, 1) := by decide +kernel
theorem dX4_turnCount_4 : decode cX4_turnCount 4 = .ok (.iload_n 2, 1) := by decide +kernel
theorem dX4_turnCount_5 : decode cX4_turnCount 5 = .ok (.aload_n 0, 1) := by decide +kernel
theorem dX4_turnCount_6 : decode cX4_turnCount 6 = .ok (.getfield 9, 3) := by decide +kernel
theorem dX4_turnCount_9 : decode cX4_turnCount 9 = .ok (.if_icmp .ge 21, 3) := by decide +kernel
theorem dX4_turnCount_12 : decode cX4_turnCount 12 = .ok (.aload_n 0, 1) := by decide +kernel
theorem dX4_turnCount_13 : decode cX4_turnCount 13 = .ok (.iload_n 2, 1) := by decide +kernel
theorem dX4_turnCount_14 : decode cX4_turnCount 14 = .ok (.invokevirtual 50, 3) := by decide +kernel
theorem dX4_turnCount_17 : decode cX4_turnCount 17 = .ok (.iconst 4, 1) := by decide +kernel
theorem dX4_turnCount_18 : decode cX4_turnCount 18 = .ok (.if_icmp .lt 6, 3) := by decide +kernel
theorem dX4_turnCount_21 : decode cX4_turnCount 21 = .ok (.iinc 1 1, 3) := by decide +kernel
theorem dX4_turnCount_24 : decode cX4_turnCount 24 = .ok (.iinc 2 1, 3) := by decide +kernel
theorem dX4_turnCount_27 : decode cX4_turnCount 27 = .ok (.goto (-23), 3) := by decide +kernel
theorem dX4_turnCount_30 : decode cX4_turnCount 30 = .ok (.iload_n 1, 1) := by decide +kernel
theorem dX4_turnCount_31 : decode cX4_turnCount 31 = .ok (.ireturn, 1) := by decide +kernel
set_option maxRecDepth 20000 in
theorem ggX4_slideCount_X4_stepAt : GoodIn wsX4_slideCount wsX4_stepAt := goodIn_r _ [6, 1, 7, 8, 9, 10, 11, 12, 13, 14] (by decide +kernel) (by decide +kernel)
set_option maxRecDepth 20000 in
theorem gX4_slideCount_X4_stepAt : GoodIn wsX4_slideCount (wsV RX4 50 RX4 yX4_stepAt wsX4_stepAt) := goodIn_app (goodIn_of _ (by decide +kernel)) ggX4_slideCount_X4_stepAt
theorem dX4_slideCount_0 : decode cX4_slideCount 0 = .ok (.iconst 0, 1) := by decide +kernel
theorem dX4_slideCount_1 : decode cX4_slideCount 1 = .ok (.istore_n 1, 1) := by decide +kernel
theorem dX4_slideCount_2 : decode cX4_slideCount 2 = .ok (.iconst 0, 1) := by decide +kernel
theorem dX4_slideCount_3 : decode cX4_slideCount 3 = .ok (.istore_n 2, 1) := by decide +kernel
theorem dX4_slideCount_4 : decode cX4_slideCount 4 = .ok (.iload_n 2, 1) := by decide +kernel
theorem dX4_slideCount_5 : decode cX4_slideCount 5 = .ok (.aload_n 0, 1) := by decide +kernel
theorem dX4_slideCount_6 : decode cX4_slideCount 6 = .ok (.getfield 9, 3) := by decide +kernel
theorem dX4_slideCount_9 : decode cX4_slideCount 9 = .ok (.if_icmp .ge 36, 3) := by decide +kernel
theorem dX4_slideCount_12 : decode cX4_slideCount 12 = .ok (.aload_n 0, 1) := by decide +kernel
theorem dX4_slideCount_13 : decode cX4_slideCount 13 = .ok (.iload_n 2, 1) := by decide +kernel
theorem dX4_slideCount_14 : decode cX4_slideCount 14 = .ok (.invokevirtual 50, 3) := by decide +kernel
theorem dX4_slideCount_17 : decode cX4_slideCount 17 = .ok (.iconst 4, 1) := by decide +kernel
theorem dX4_slideCount_18 : decode cX4_slideCount 18 = .ok (.if_icmp .ge 21, 3) := by decide +kernel
theorem dX4_slideCount_21 : decode cX4_slideCount 21 = .ok (.aload_n 0, 1) := by decide +kernel
theorem dX4_slideCount_22 : decode cX4_slideCount 22 = .ok (.iload_n 2, 1) := by decide +kernel
theorem dX4_slideCount_23 : decode cX4_slideCount 23 = .ok (.invokevirtual 50, 3) := by decide +kernel
theorem dX4_slideCount_26 : decode cX4_slideCount 26 = .ok (.aload_n 0, 1) := by decide +kernel
theorem dX4_slideCount_27 : decode cX4_slideCount 27 = .ok (.iload_n 2, 1) := by decide +kernel
theorem dX4_slideCount_28 : decode cX4_slideCount 28 = .ok (.iconst 1, 1) := by decide +kernel
theorem dX4_slideCount_29 : decode cX4_slideCount 29 = .ok (.isub, 1) := by decide +kernel
theorem dX4_slideCount_30 : decode cX4_slideCount 30 = .ok (.invokevirtual 50, 3) := by decide +kernel
theorem dX4_slideCount_33 : decode cX4_slideCount 33 = .ok (.if_icmp .eq 6, 3) := by decide +kernel
theorem dX4_slideCount_36 : decode cX4_slideCount 36 = .ok (.iinc 1 1, 3) := by decide +kernel
theorem dX4_slideCount_39 : decode cX4_slideCount 39 = .ok (.iinc 2 1, 3) := by decide +kernel
theorem dX4_slideCount_42 : decode cX4_slideCount 42 = .ok (.goto (-38), 3) := by decide +kernel
theorem dX4_slideCount_45 : decode cX4_slideCount 45 = .ok (.iload_n 1, 1) := by decide +kernel
theorem dX4_slideCount_46 : decode cX4_slideCount 46 = .ok (.ireturn, 1) := by decide +kernel
theorem dX5_init_0 : decode cX5_init 0 = .ok (.aload_n 0, 1) := by decide +kernel
theorem dX5_init_1 : decode cX5_init 1 = .ok (.invokespecial 3, 3) := by decide +kernel
theorem dX5_init_4 : decode cX5_init 4 = .ok (.aload_n 0, 1) := by decide +kernel
theorem dX5_init_5 : decode cX5_init 5 = .ok (.sipush 1764, 3) := by decide +kernel
theorem dX5_init_8 : decode cX5_init 8 = .ok (.newarray .int, 2) := by decide +kernel
theorem dX5_init_10 : decode cX5_init 10 = .ok (.putfield 9, 3) := by decide +kernel
theorem dX5_init_13 : decode cX5_init 13 = .ok (.aload_n 0, 1) := by decide +kernel
theorem dX5_init_14 : decode cX5_init 14 = .ok (.sipush 1764, 3) := by decide +kernel
theorem dX5_init_17 : decode cX5_init 17 = .ok (.newarray .int, 2) := by decide +kernel
theorem dX5_init_19 : decode cX5_init 19 = .ok (.putfield 15, 3) := by decide +kernel
theorem dX5_init_22 : decode cX5_init 22 = .ok (.aload_n 0, 1) := by decide +kernel
theorem dX5_init_23 : decode cX5_init 23 = .ok (.sipush 1764, 3) := by decide +kernel
theorem dX5_init_26 : decode cX5_init 26 = .ok (.newarray .int, 2) := by decide +kernel
theorem dX5_init_28 : decode cX5_init 28 = .ok (.putfield 18, 3) := by decide +kernel
theorem dX5_init_31 : decode cX5_init 31 = .ok (.aload_n 0, 1) := by decide +kernel
theorem dX5_init_32 : decode cX5_init 32 = .ok (.sipush 3528, 3) := by decide +kernel
theorem dX5_init_35 : decode cX5_init 35 = .ok (.newarray .int, 2) := by decide +kernel
theorem dX5_init_37 : decode cX5_init 37 = .ok (.putfield 21, 3) := by decide +kernel
theorem dX5_init_40 : decode cX5_init 40 = .ok (.aload_n 0, 1) := by decide +kernel
theorem dX5_init_41 : decode cX5_init 41 = .ok (.sipush 3528, 3) := by decide +kernel
theorem dX5_init_44 : decode cX5_init 44 = .ok (.newarray .int, 2) := by decide +kernel
theorem dX5_init_46 : decode cX5_init 46 = .ok (.putfield 24, 3) := by decide +kernel
theorem dX5_init_49 : decode cX5_init 49 = .ok (.return_, 1) := by decide +kernel
set_option maxRecDepth 20000 in
theorem ggX5_run_X7_fillWith : GoodIn wsX5_run wsX7_fillWith := goodIn_r _ [6] (by decide +kernel) (by decide +kernel)
set_option maxRecDepth 20000 in
theorem gX5_run_X7_fillWith_n34 : GoodIn wsX5_run (wsX7_fillWith) := ggX5_run_X7_fillWith
set_option maxRecDepth 20000 in
theorem ggX5_run_X1_isFree : GoodIn wsX5_run wsX1_isFree := goodIn_r _ [11, 12, 5, 13, 14, 15, 16, 17, 18, 19, 20, 10, 21, 22, 23, 24, 25, 26, 71, 72, 73, 74, 75] (by decide +kernel) (by decide +kernel)
set_option maxRecDepth 20000 in
theorem gX5_run_X1_isFree : GoodIn wsX5_run (wsV RX5 38 RX1 yX1_isFree wsX1_isFree) := goodIn_app (goodIn_of _ (by decide +kernel)) ggX5_run_X1_isFree
set_option maxRecDepth 20000 in
theorem ggX5_run_X5_sow : GoodIn wsX5_run wsX5_sow := goodIn_r _ [31, 32, 2, 33, 34, 5, 35, 64, 65, 66, 67, 68, 69, 70] (by decide +kernel) (by decide +kernel)
set_option maxRecDepth 20000 in
theorem gX5_run_X5_sow : GoodIn wsX5_run (wsV RX5 44 RX5 yX5_sow wsX5_sow) := goodIn_app (goodIn_of _ (by decide +kernel)) ggX5_run_X5_sow
set_option maxRecDepth 20000 in
theorem ggX5_run_X5_spread : GoodIn wsX5_run wsX5_spread := goodIn_r _ [39, 1, 2, 40, 33, 41, 32, 25, 5, 26, 42, 43, 44, 30, 45, 3, 34, 35, 46, 47, 48, 49, 50, 51, 52, 10, 53, 14, 15, 16, 17, 12, 13, 18, 19, 20, 21, 22, 23, 24, 54, 55, 64, 65, 66, 67, 68, 69, 70, 71, 72, 73, 74, 75] (by decide +kernel) (by decide +kernel)
set_option maxRecDepth 20000 in
theorem gX5_run_X5_spread : GoodIn wsX5_run (wsV RX5 48 RX5 yX5_spread wsX5_spread) := goodIn_app (goodIn_of _ (by decide +kernel)) ggX5_run_X5_spread
set_option maxRecDepth 20000 in
theorem ggX5_run_X5_sowNext : GoodIn wsX5_run wsX5_sowNext := goodIn_r _ [59, 2, 1, 40, 41, 25, 5, 26, 50, 51, 52, 10, 53, 14, 15, 16, 17, 12, 13, 18, 19, 20, 21, 22, 23, 24, 54, 55, 60, 61, 62, 30, 63, 3, 27, 28, 29, 31, 32, 33, 34, 35, 64, 65, 66, 67, 68, 69, 70, 71, 72, 73, 74, 75] (by decide +kernel) (by decide +kernel)
set_option maxRecDepth 20000 in
theorem gX5_run_X5_sowNext : GoodIn wsX5_run (wsV RX5 52 RX5 yX5_sowNext wsX5_sowNext) := goodIn_app (goodIn_of _ (by decide +kernel)) ggX5_run_X5_sowNext
theorem dX5_run_0 : decode cX5_run 0 = .ok (.aload_n 0, 1) := by decide +kernel
theorem dX5_run_1 : decode cX5_run 1 = .ok (.iconst 0, 1) := by decide +kernel
theorem dX5_run_2 : decode cX5_run 2 = .ok (.putfield 27, 3) := by decide +kernel
theorem dX5_run_5 : decode cX5_run 5 = .ok (.aload_n 0, 1) := by decide +kernel
theorem dX5_run_6 : decode cX5_run 6 = .ok (.iconst 0, 1) := by decide +kernel
theorem dX5_run_7 : decode cX5_run 7 = .ok (.putfield 31, 3) := by decide +kernel
theorem dX5_run_10 : decode cX5_run 10 = .ok (.aload_n 0, 1) := by decide +kernel
theorem dX5_run_11 : decode cX5_run 11 = .ok (.getfield 15, 3) := by decide +kernel
theorem dX5_run_14 : decode cX5_run 14 = .ok (.bipush (-9), 2) := by decide +kernel
theorem dX5_run_16 : decode cX5_run 16 = .ok (.invokestatic 34, 3) := by decide +kernel
theorem dX5_run_19 : decode cX5_run 19 = .ok (.aload_n 1, 1) := by decide +kernel
theorem dX5_run_20 : decode cX5_run 20 = .ok (.iload_n 2, 1) := by decide +kernel
theorem dX5_run_21 : decode cX5_run 21 = .ok (.invokevirtual 38, 3) := by decide +kernel
theorem dX5_run_24 : decode cX5_run 24 = .ok (.ifCond .ne 4, 3) := by decide +kernel
theorem dX5_run_27 : decode cX5_run 27 = .ok (.return_, 1) := by decide +kernel
theorem dX5_run_28 : decode cX5_run 28 = .ok (.aload_n 0, 1) := by decide +kernel
theorem dX5_run_29 : decode cX5_run 29 = .ok (.iload_n 2, 1) := by decide +kernel
theorem dX5_run_30 : decode cX5_run 30 = .ok (.iconst 0, 1) := by decide +kernel
theorem dX5_run_31 : decode cX5_run 31 = .ok (.invokevirtual 44, 3) := by decide +kernel
theorem dX5_run_34 : decode cX5_run 34 = .ok (.iconst 0, 1) := by decide +kernel
theorem dX5_run_35 : decode cX5_run 35 = .ok (.istore_n 3, 1) := by decide +kernel
theorem dX5_run_36 : decode cX5_run 36 = .ok (.iload_n 3, 1) := by decide +kernel
theorem dX5_run_37 : decode cX5_run 37 = .ok (.sipush 1764, 3) := by decide +kernel
theorem dX5_run_40 : decode cX5_run 40 = .ok (.if_icmp .ge 35, 3) := by decide +kernel
theorem dX5_run_43 : decode cX5_run 43 = .ok (.aload_n 0, 1) := by decide +kernel
theorem dX5_run_44 : decode cX5_run 44 = .ok (.getfield 31, 3) := by decide +kernel
theorem dX5_run_47 : decode cX5_run 47 = .ok (.ifCond .le 28, 3) := by decide +kernel
theorem dX5_run_50 : decode cX5_run 50 = .ok (.aload_n 0, 1) := by decide +kernel
theorem dX5_run_51 : decode cX5_run 51 = .ok (.getfield 27, 3) := by decide +kernel
theorem dX5_run_54 : decode cX5_run 54 = .ok (.istore 4, 2) := by decide +kernel
theorem dX5_run_56 : decode cX5_run 56 = .ok (.aload_n 0, 1) := by decide +kernel
theorem dX5_run_57 : decode cX5_run 57 = .ok (.aload_n 1, 1) := by decide +kernel
theorem dX5_run_58 : decode cX5_run 58 = .ok (.iload_n 3, 1) := by decide +kernel
theorem dX5_run_59 : decode cX5_run 59 = .ok (.invokevirtual 48, 3) := by decide +kernel
theorem dX5_run_62 : decode cX5_run 62 = .ok (.aload_n 0, 1) := by decide +kernel
theorem dX5_run_63 : decode cX5_run 63 = .ok (.aload_n 1, 1) := by decide +kernel
theorem dX5_run_64 : decode cX5_run 64 = .ok (.iload 4, 2) := by decide +kernel
theorem dX5_run_66 : decode cX5_run 66 = .ok (.invokevirtual 52, 3) := by decide +kernel
theorem dX5_run_69 : decode cX5_run 69 = .ok (.iinc 3 1, 3) := by decide +kernel
theorem dX5_run_72 : decode cX5_run 72 = .ok (.goto (-36), 3) := by decide +kernel
theorem dX5_run_75 : decode cX5_run 75 = .ok (.return_, 1) := by decide +kernel
set_option maxRecDepth 20000 in
theorem ggX5_isReached_X7_at : GoodIn wsX5_isReached wsX7_at := goodIn_r _ [4] (by decide +kernel) (by decide +kernel)
set_option maxRecDepth 20000 in
theorem gX5_isReached_X7_at_n55 : GoodIn wsX5_isReached (wsX7_at) := ggX5_isReached_X7_at
theorem dX5_isReached_0 : decode cX5_isReached 0 = .ok (.aload_n 0, 1) := by decide +kernel
theorem dX5_isReached_1 : decode cX5_isReached 1 = .ok (.getfield 15, 3) := by decide +kernel
theorem dX5_isReached_4 : decode cX5_isReached 4 = .ok (.iload_n 1, 1) := by decide +kernel
theorem dX5_isReached_5 : decode cX5_isReached 5 = .ok (.invokestatic 55, 3) := by decide +kernel
theorem dX5_isReached_8 : decode cX5_isReached 8 = .ok (.bipush (-9), 2) := by decide +kernel
theorem dX5_isReached_10 : decode cX5_isReached 10 = .ok (.if_icmp .eq 7, 3) := by decide +kernel
theorem dX5_isReached_13 : decode cX5_isReached 13 = .ok (.iconst 1, 1) := by decide +kernel
theorem dX5_isReached_14 : decode cX5_isReached 14 = .ok (.goto 4, 3) := by decide +kernel
theorem dX5_isReached_17 : decode cX5_isReached 17 = .ok (.iconst 0, 1) := by decide +kernel
theorem dX5_isReached_18 : decode cX5_isReached 18 = .ok (.ireturn, 1) := by decide +kernel
set_option maxRecDepth 20000 in
theorem ggX5_sow_X7_put : GoodIn wsX5_sow wsX7_put := goodIn_r _ [6] (by decide +kernel) (by decide +kernel)
set_option maxRecDepth 20000 in
theorem gX5_sow_X7_put_n59 : GoodIn wsX5_sow (wsX7_put) := ggX5_sow_X7_put
theorem dX5_sow_0 : decode cX5_sow 0 = .ok (.aload_n 0, 1) := by decide +kernel
theorem dX5_sow_1 : decode cX5_sow 1 = .ok (.getfield 21, 3) := by decide +kernel
theorem dX5_sow_4 : decode cX5_sow 4 = .ok (.aload_n 0, 1) := by decide +kernel
theorem dX5_sow_5 : decode cX5_sow 5 = .ok (.getfield 31, 3) := by decide +kernel
theorem dX5_sow_8 : decode cX5_sow 8 = .ok (.iload_n 1, 1) := by decide +kernel
theorem dX5_sow_9 : decode cX5_sow 9 = .ok (.invokestatic 59, 3) := by decide +kernel
theorem dX5_sow_12 : decode cX5_sow 12 = .ok (.aload_n 0, 1) := by decide +kernel
theorem dX5_sow_13 : decode cX5_sow 13 = .ok (.getfield 24, 3) := by decide +kernel
theorem dX5_sow_16 : decode cX5_sow 16 = .ok (.aload_n 0, 1) := by decide +kernel
theorem dX5_sow_17 : decode cX5_sow 17 = .ok (.getfield 31, 3) := by decide +kernel
theorem dX5_sow_20 : decode cX5_sow 20 = .ok (.iload_n 2, 1) := by decide +kernel
theorem dX5_sow_21 : decode cX5_sow 21 = .ok (.invokestatic 59, 3) := by decide +kernel
theorem dX5_sow_24 : decode cX5_sow 24 = .ok (.aload_n 0, 1) := by decide +kernel
theorem dX5_sow_25 : decode cX5_sow 25 = .ok (.dup, 1) := by decide +kernel
theorem dX5_sow_26 : decode cX5_sow 26 = .ok (.getfield 31, 3) := by decide +kernel
theorem dX5_sow_29 : decode cX5_sow 29 = .ok (.iconst 1, 1) := by decide +kernel
theorem dX5_sow_30 : decode cX5_sow 30 = .ok (.iadd, 1) := by decide +kernel
theorem dX5_sow_31 : decode cX5_sow 31 = .ok (.putfield 31, 3) := by decide +kernel
theorem dX5_sow_34 : decode cX5_sow 34 = .ok (.return_, 1) := by decide +kernel
set_option maxRecDepth 20000 in
theorem ggX5_reach_X7_at : GoodIn wsX5_reach wsX7_at := goodIn_r _ [7] (by decide +kernel) (by decide +kernel)
set_option maxRecDepth 20000 in
theorem gX5_reach_X7_at_n55 : GoodIn wsX5_reach (wsX7_at) := ggX5_reach_X7_at
set_option maxRecDepth 20000 in
theorem ggX5_reach_X7_put : GoodIn wsX5_reach wsX7_put := goodIn_r _ [9] (by decide +kernel) (by decide +kernel)
set_option maxRecDepth 20000 in
theorem gX5_reach_X7_put_n59 : GoodIn wsX5_reach (wsX7_put) := ggX5_reach_X7_put
theorem dX5_reach_0 : decode cX5_reach 0 = .ok (.aload_n 0, 1) := by decide +kernel
theorem dX5_reach_1 : decode cX5_reach 1 = .ok (.getfield 15, 3) := by decide +kernel
theorem dX5_reach_4 : decode cX5_reach 4 = .ok (.iload_n 1, 1) := by decide +kernel
theorem dX5_reach_5 : decode cX5_reach 5 = .ok (.invokestatic 55, 3) := by decide +kernel
theorem dX5_reach_8 : decode cX5_reach 8 = .ok (.bipush (-9), 2) := by decide +kernel
theorem dX5_reach_10 : decode cX5_reach 10 = .ok (.if_icmp .eq 4, 3) := by decide +kernel
theorem dX5_reach_13 : decode cX5_reach 13 = .ok (.return_, 1) := by decide +kernel
theorem dX5_reach_14 : decode cX5_reach 14 = .ok (.aload_n 0, 1) := by decide +kernel
theorem dX5_reach_15 : decode cX5_reach 15 = .ok (.getfield 15, 3) := by decide +kernel
theorem dX5_reach_18 : decode cX5_reach 18 = .ok (.iload_n 1, 1) := by decide +kernel
theorem dX5_reach_19 : decode cX5_reach 19 = .ok (.iload_n 2, 1) := by decide +kernel
theorem dX5_reach_20 : decode cX5_reach 20 = .ok (.invokestatic 59, 3) := by decide +kernel
theorem dX5_reach_23 : decode cX5_reach 23 = .ok (.aload_n 0, 1) := by decide +kernel
theorem dX5_reach_24 : decode cX5_reach 24 = .ok (.getfield 18, 3) := by decide +kernel
theorem dX5_reach_27 : decode cX5_reach 27 = .ok (.iload_n 1, 1) := by decide +kernel
theorem dX5_reach_28 : decode cX5_reach 28 = .ok (.iload_n 3, 1) := by decide +kernel
theorem dX5_reach_29 : decode cX5_reach 29 = .ok (.invokestatic 59, 3) := by decide +kernel
theorem dX5_reach_32 : decode cX5_reach 32 = .ok (.aload_n 0, 1) := by decide +kernel
theorem dX5_reach_33 : decode cX5_reach 33 = .ok (.getfield 9, 3) := by decide +kernel
theorem dX5_reach_36 : decode cX5_reach 36 = .ok (.aload_n 0, 1) := by decide +kernel
theorem dX5_reach_37 : decode cX5_reach 37 = .ok (.getfield 27, 3) := by decide +kernel
theorem dX5_reach_40 : decode cX5_reach 40 = .ok (.iload_n 1, 1) := by decide +kernel
theorem dX5_reach_41 : decode cX5_reach 41 = .ok (.invokestatic 59, 3) := by decide +kernel
theorem dX5_reach_44 : decode cX5_reach 44 = .ok (.aload_n 0, 1) := by decide +kernel
theorem dX5_reach_45 : decode cX5_reach 45 = .ok (.dup, 1) := by decide +kernel
theorem dX5_reach_46 : decode cX5_reach 46 = .ok (.getfield 27, 3) := by decide +kernel
theorem dX5_reach_49 : decode cX5_reach 49 = .ok (.iconst 1, 1) := by decide +kernel
theorem dX5_reach_50 : decode cX5_reach 50 = .ok (.iadd, 1) := by decide +kernel
theorem dX5_reach_51 : decode cX5_reach 51 = .ok (.putfield 27, 3) := by decide +kernel
theorem dX5_reach_54 : decode cX5_reach 54 = .ok (.return_, 1) := by decide +kernel
set_option maxRecDepth 20000 in
theorem ggX5_spread_X7_at : GoodIn wsX5_spread wsX7_at := goodIn_r _ [9] (by decide +kernel) (by decide +kernel)
set_option maxRecDepth 20000 in
theorem gX5_spread_X7_at_n55 : GoodIn wsX5_spread (wsX7_at) := ggX5_spread_X7_at
set_option maxRecDepth 20000 in
theorem ggX5_spread_X5_reach : GoodIn wsX5_spread wsX5_reach := goodIn_r _ [14, 15, 5, 3, 1, 7, 8, 9, 16, 17, 42, 43, 44, 45, 46, 47, 48] (by decide +kernel) (by decide +kernel)
set_option maxRecDepth 20000 in
theorem gX5_spread_X5_reach : GoodIn wsX5_spread (wsV RX5 63 RX5 yX5_reach wsX5_reach) := goodIn_app (goodIn_of _ (by decide +kernel)) ggX5_spread_X5_reach
set_option maxRecDepth 20000 in
theorem ggX5_spread_X5_slideOn : GoodIn wsX5_spread wsX5_slideOn := goodIn_r _ [21, 5, 7, 8, 9, 22, 23, 24, 25, 26, 27, 28, 29, 30, 31, 32, 33, 34, 35, 36, 37, 38, 39, 40, 41, 10, 11, 12, 13, 14, 15, 3, 1, 16, 17, 42, 43, 44, 45, 46, 47, 48, 49, 50, 51, 52, 53] (by decide +kernel) (by decide +kernel)
set_option maxRecDepth 20000 in
theorem gX5_spread_X5_slideOn : GoodIn wsX5_spread (wsV RX5 67 RX5 yX5_slideOn wsX5_slideOn) := goodIn_app (goodIn_of _ (by decide +kernel)) ggX5_spread_X5_slideOn
theorem dX5_spread_0 : decode cX5_spread 0 = .ok (.aload_n 0, 1) := by decide +kernel
theorem dX5_spread_1 : decode cX5_spread 1 = .ok (.getfield 27, 3) := by decide +kernel
theorem dX5_spread_4 : decode cX5_spread 4 = .ok (.istore_n 3, 1) := by decide +kernel
theorem dX5_spread_5 : decode cX5_spread 5 = .ok (.iconst 0, 1) := by decide +kernel
theorem dX5_spread_6 : decode cX5_spread 6 = .ok (.istore 4, 2) := by decide +kernel
theorem dX5_spread_8 : decode cX5_spread 8 = .ok (.iconst 0, 1) := by decide +kernel
theorem dX5_spread_9 : decode cX5_spread 9 = .ok (.istore 5, 2) := by decide +kernel
theorem dX5_spread_11 : decode cX5_spread 11 = .ok (.iload 5, 2) := by decide +kernel
theorem dX5_spread_13 : decode cX5_spread 13 = .ok (.sipush 5292, 3) := by decide +kernel
theorem dX5_spread_16 : decode cX5_spread 16 = .ok (.if_icmp .ge 132, 3) := by decide +kernel
theorem dX5_spread_19 : decode cX5_spread 19 = .ok (.iload 4, 2) := by decide +kernel
theorem dX5_spread_21 : decode cX5_spread 21 = .ok (.aload_n 0, 1) := by decide +kernel
theorem dX5_spread_22 : decode cX5_spread 22 = .ok (.getfield 31, 3) := by decide +kernel
theorem dX5_spread_25 : decode cX5_spread 25 = .ok (.if_icmp .ge 7, 3) := by decide +kernel
theorem dX5_spread_28 : decode cX5_spread 28 = .ok (.iconst 1, 1) := by decide +kernel
theorem dX5_spread_29 : decode cX5_spread 29 = .ok (.goto 4, 3) := by decide +kernel
theorem dX5_spread_32 : decode cX5_spread 32 = .ok (.iconst 0, 1) := by decide +kernel
theorem dX5_spread_33 : decode cX5_spread 33 = .ok (.istore 6, 2) := by decide +kernel
theorem dX5_spread_35 : decode cX5_spread 35 = .ok (.iload_n 3, 1) := by decide +kernel
theorem dX5_spread_36 : decode cX5_spread 36 = .ok (.aload_n 0, 1) := by decide +kernel
theorem dX5_spread_37 : decode cX5_spread 37 = .ok (.getfield 27, 3) := by decide +kernel
theorem dX5_spread_40 : decode cX5_spread 40 = .ok (.if_icmp .ge 7, 3) := by decide +kernel
theorem dX5_spread_43 : decode cX5_spread 43 = .ok (.iconst 1, 1) := by decide +kernel
theorem dX5_spread_44 : decode cX5_spread 44 = .ok (.goto 4, 3) := by decide +kernel
theorem dX5_spread_47 : decode cX5_spread 47 = .ok (.iconst 0, 1) := by decide +kernel
theorem dX5_spread_48 : decode cX5_spread 48 = .ok (.istore 7, 2) := by decide +kernel
theorem dX5_spread_50 : decode cX5_spread 50 = .ok (.iload 6, 2) := by decide +kernel
theorem dX5_spread_52 : decode cX5_spread 52 = .ok (.ifCond .ne 9, 3) := by decide +kernel
theorem dX5_spread_55 : decode cX5_spread 55 = .ok (.iload 7, 2) := by decide +kernel
theorem dX5_spread_57 : decode cX5_spread 57 = .ok (.ifCond .ne 4, 3) := by decide +kernel
theorem dX5_spread_60 : decode cX5_spread 60 = .ok (.return_, 1) := by decide +kernel
theorem dX5_spread_61 : decode cX5_spread 61 = .ok (.aload_n 0, 1) := by decide +kernel
theorem dX5_spread_62 : decode cX5_spread 62 = .ok (.getfield 9, 3) := by decide +kernel
theorem dX5_spread_65 : decode cX5_spread 65 = .ok (.iload_n 3, 1) := by decide +kernel
theorem dX5_spread_66 : decode cX5_spread 66 = .ok (.invokestatic 55, 3) := by decide +kernel
theorem dX5_spread_69 : decode cX5_spread 69 = .ok (.istore 8, 2) := by decide +kernel
theorem dX5_spread_71 : decode cX5_spread 71 = .ok (.iload 6, 2) := by decide +kernel
theorem dX5_spread_73 : decode cX5_spread 73 = .ok (.ifCond .eq 58, 3) := by decide +kernel
theorem dX5_spread_76 : decode cX5_spread 76 = .ok (.iload 7, 2) := by decide +kernel
theorem dX5_spread_78 : decode cX5_spread 78 = .ok (.ifCond .eq 24, 3) := by decide +kernel
theorem dX5_spread_81 : decode cX5_spread 81 = .ok (.aload_n 0, 1) := by decide +kernel
theorem dX5_spread_82 : decode cX5_spread 82 = .ok (.getfield 24, 3) := by decide +kernel
theorem dX5_spread_85 : decode cX5_spread 85 = .ok (.iload 4, 2) := by decide +kernel
theorem dX5_spread_87 : decode cX5_spread 87 = .ok (.invokestatic 55, 3) := by decide +kernel
theorem dX5_spread_90 : decode cX5_spread 90 = .ok (.aload_n 0, 1) := by decide +kernel
theorem dX5_spread_91 : decode cX5_spread 91 = .ok (.getfield 18, 3) := by decide +kernel
theorem dX5_spread_94 : decode cX5_spread 94 = .ok (.iload 8, 2) := by decide +kernel
theorem dX5_spread_96 : decode cX5_spread 96 = .ok (.invokestatic 55, 3) := by decide +kernel
theorem dX5_spread_99 : decode cX5_spread 99 = .ok (.if_icmp .gt 32, 3) := by decide +kernel
theorem dX5_spread_102 : decode cX5_spread 102 = .ok (.aload_n 0, 1) := by decide +kernel
theorem dX5_spread_103 : decode cX5_spread 103 = .ok (.aload_n 0, 1) := by decide +kernel
theorem dX5_spread_104 : decode cX5_spread 104 = .ok (.getfield 21, 3) := by decide +kernel
theorem dX5_spread_107 : decode cX5_spread 107 = .ok (.iload 4, 2) := by decide +kernel
theorem dX5_spread_109 : decode cX5_spread 109 = .ok (.invokestatic 55, 3) := by decide +kernel
theorem dX5_spread_112 : decode cX5_spread 112 = .ok (.iload_n 2, 1) := by decide +kernel
theorem dX5_spread_113 : decode cX5_spread 113 = .ok (.aload_n 0, 1) := by decide +kernel
theorem dX5_spread_114 : decode cX5_spread 114 = .ok (.getfield 24, 3) := by decide +kernel
theorem dX5_spread_117 : decode cX5_spread 117 = .ok (.iload 4, 2) := by decide +kernel
theorem dX5_spread_119 : decode cX5_spread 119 = .ok (.invokestatic 55, 3) := by decide +kernel
theorem dX5_spread_122 : decode cX5_spread 122 = .ok (.invokevirtual 63, 3) := by decide +kernel
theorem dX5_spread_125 : decode cX5_spread 125 = .ok (.iinc 4 1, 3) := by decide +kernel
theorem dX5_spread_128 : decode cX5_spread 128 = .ok (.goto 14, 3) := by decide +kernel
theorem dX5_spread_131 : decode cX5_spread 131 = .ok (.aload_n 0, 1) := by decide +kernel
theorem dX5_spread_132 : decode cX5_spread 132 = .ok (.aload_n 1, 1) := by decide +kernel
theorem dX5_spread_133 : decode cX5_spread 133 = .ok (.iload 8, 2) := by decide +kernel
theorem dX5_spread_135 : decode cX5_spread 135 = .ok (.iload_n 2, 1) := by decide +kernel
theorem dX5_spread_136 : decode cX5_spread 136 = .ok (.invokevirtual 67, 3) := by decide +kernel
theorem dX5_spread_139 : decode cX5_spread 139 = .ok (.iinc 3 1, 3) := by decide +kernel
theorem dX5_spread_142 : decode cX5_spread 142 = .ok (.iinc 5 1, 3) := by decide +kernel
theorem dX5_spread_145 : decode cX5_spread 145 = .ok (.goto (-134), 3) := by decide +kernel
theorem dX5_spread_148 : decode cX5_spread 148 = .ok (.return_, 1) := by decide +kernel
set_option maxRecDepth 20000 in
theorem ggX5_slideOn_X7_at : GoodIn wsX5_slideOn wsX7_at := goodIn_r _ [4] (by decide +kernel) (by decide +kernel)
set_option maxRecDepth 20000 in
theorem gX5_slideOn_X7_at_n55 : GoodIn wsX5_slideOn (wsX7_at) := ggX5_slideOn_X7_at
set_option maxRecDepth 20000 in
theorem ggX5_slideOn_X1_lead : GoodIn wsX5_slideOn wsX1_lead := goodIn_r _ [9, 10, 3, 11, 12, 13, 14, 15, 16, 17, 18, 8, 19, 20, 21, 22, 2, 4, 23, 24, 42, 43, 44, 45, 46] (by decide +kernel) (by decide +kernel)
set_option maxRecDepth 20000 in
theorem gX5_slideOn_X1_lead : GoodIn wsX5_slideOn (wsV RX5 71 RX1 yX1_lead wsX1_lead) := goodIn_app (goodIn_of _ (by decide +kernel)) ggX5_slideOn_X1_lead
set_option maxRecDepth 20000 in
theorem ggX5_slideOn_X5_reach : GoodIn wsX5_slideOn wsX5_reach := goodIn_r _ [29, 30, 1, 31, 32, 2, 3, 4, 33, 34, 35, 36, 37, 38, 39, 40, 41] (by decide +kernel) (by decide +kernel)
set_option maxRecDepth 20000 in
theorem gX5_slideOn_X5_reach : GoodIn wsX5_slideOn (wsV RX5 63 RX5 yX5_reach wsX5_reach) := goodIn_app (goodIn_of _ (by decide +kernel)) ggX5_slideOn_X5_reach
theorem dX5_slideOn_0 : decode cX5_slideOn 0 = .ok (.aload_n 0, 1) := by decide +kernel
theorem dX5_slideOn_1 : decode cX5_slideOn 1 = .ok (.getfield 18, 3) := by decide +kernel
theorem dX5_slideOn_4 : decode cX5_slideOn 4 = .ok (.iload_n 2, 1) := by decide +kernel
theorem dX5_slideOn_5 : decode cX5_slideOn 5 = .ok (.invokestatic 55, 3) := by decide +kernel
theorem dX5_slideOn_8 : decode cX5_slideOn 8 = .ok (.iconst 1, 1) := by decide +kernel
theorem dX5_slideOn_9 : decode cX5_slideOn 9 = .ok (.iadd, 1) := by decide +kernel
theorem dX5_slideOn_10 : decode cX5_slideOn 10 = .ok (.istore 4, 2) := by decide +kernel
theorem dX5_slideOn_12 : decode cX5_slideOn 12 = .ok (.iconst 0, 1) := by decide +kernel
theorem dX5_slideOn_13 : decode cX5_slideOn 13 = .ok (.istore 5, 2) := by decide +kernel
theorem dX5_slideOn_15 : decode cX5_slideOn 15 = .ok (.iload 5, 2) := by decide +kernel
theorem dX5_slideOn_17 : decode cX5_slideOn 17 = .ok (.iconst 4, 1) := by decide +kernel
theorem dX5_slideOn_18 : decode cX5_slideOn 18 = .ok (.if_icmp .ge 34, 3) := by decide +kernel
theorem dX5_slideOn_21 : decode cX5_slideOn 21 = .ok (.aload_n 1, 1) := by decide +kernel
theorem dX5_slideOn_22 : decode cX5_slideOn 22 = .ok (.iload_n 2, 1) := by decide +kernel
theorem dX5_slideOn_23 : decode cX5_slideOn 23 = .ok (.iload 5, 2) := by decide +kernel
theorem dX5_slideOn_25 : decode cX5_slideOn 25 = .ok (.invokevirtual 71, 3) := by decide +kernel
theorem dX5_slideOn_28 : decode cX5_slideOn 28 = .ok (.istore 6, 2) := by decide +kernel
theorem dX5_slideOn_30 : decode cX5_slideOn 30 = .ok (.iload 6, 2) := by decide +kernel
theorem dX5_slideOn_32 : decode cX5_slideOn 32 = .ok (.bipush (-9), 2) := by decide +kernel
theorem dX5_slideOn_34 : decode cX5_slideOn 34 = .ok (.if_icmp .eq 12, 3) := by decide +kernel
theorem dX5_slideOn_37 : decode cX5_slideOn 37 = .ok (.aload_n 0, 1) := by decide +kernel
theorem dX5_slideOn_38 : decode cX5_slideOn 38 = .ok (.iload 6, 2) := by decide +kernel
theorem dX5_slideOn_40 : decode cX5_slideOn 40 = .ok (.iload_n 3, 1) := by decide +kernel
theorem dX5_slideOn_41 : decode cX5_slideOn 41 = .ok (.iload 4, 2) := by decide +kernel
theorem dX5_slideOn_43 : decode cX5_slideOn 43 = .ok (.invokevirtual 63, 3) := by decide +kernel
theorem dX5_slideOn_46 : decode cX5_slideOn 46 = .ok (.iinc 5 1, 3) := by decide +kernel
theorem dX5_slideOn_49 : decode cX5_slideOn 49 = .ok (.goto (-34), 3) := by decide +kernel
theorem dX5_slideOn_52 : decode cX5_slideOn 52 = .ok (.return_, 1) := by decide +kernel
set_option maxRecDepth 20000 in
theorem ggX5_sowNext_X7_at : GoodIn wsX5_sowNext wsX7_at := goodIn_r _ [7] (by decide +kernel) (by decide +kernel)
set_option maxRecDepth 20000 in
theorem gX5_sowNext_X7_at_n55 : GoodIn wsX5_sowNext (wsX7_at) := ggX5_sowNext_X7_at
set_option maxRecDepth 20000 in
theorem ggX5_sowNext_X1_lead : GoodIn wsX5_sowNext wsX1_lead := goodIn_r _ [12, 13, 6, 14, 15, 16, 17, 18, 19, 20, 21, 11, 22, 23, 24, 25, 5, 7, 26, 27, 49, 50, 51, 52, 53] (by decide +kernel) (by decide +kernel)
set_option maxRecDepth 20000 in
theorem gX5_sowNext_X1_lead : GoodIn wsX5_sowNext (wsV RX5 71 RX1 yX1_lead wsX1_lead) := goodIn_app (goodIn_of _ (by decide +kernel)) ggX5_sowNext_X1_lead
set_option maxRecDepth 20000 in
theorem ggX5_sowNext_X5_isReached : GoodIn wsX5_sowNext wsX5_isReached := goodIn_r _ [32, 33, 5, 6, 7, 42, 43, 44, 45, 46, 47, 48] (by decide +kernel) (by decide +kernel)
set_option maxRecDepth 20000 in
theorem gX5_sowNext_X5_isReached : GoodIn wsX5_sowNext (wsV RX5 75 RX5 yX5_isReached wsX5_isReached) := goodIn_app (goodIn_of _ (by decide +kernel)) ggX5_sowNext_X5_isReached
set_option maxRecDepth 20000 in
theorem ggX5_sowNext_X5_sow : GoodIn wsX5_sowNext wsX5_sow := goodIn_r _ [37, 38, 1, 39, 40, 6, 41, 42, 43, 44, 45, 46, 47, 48] (by decide +kernel) (by decide +kernel)
set_option maxRecDepth 20000 in
theorem gX5_sowNext_X5_sow : GoodIn wsX5_sowNext (wsV RX5 44 RX5 yX5_sow wsX5_sow) := goodIn_app (goodIn_of _ (by decide +kernel)) ggX5_sowNext_X5_sow
theorem dX5_sowNext_0 : decode cX5_sowNext 0 = .ok (.aload_n 0, 1) := by decide +kernel
theorem dX5_sowNext_1 : decode cX5_sowNext 1 = .ok (.iconst 0, 1) := by decide +kernel
theorem dX5_sowNext_2 : decode cX5_sowNext 2 = .ok (.putfield 31, 3) := by decide +kernel
theorem dX5_sowNext_5 : decode cX5_sowNext 5 = .ok (.iload_n 2, 1) := by decide +kernel
theorem dX5_sowNext_6 : decode cX5_sowNext 6 = .ok (.istore_n 3, 1) := by decide +kernel
theorem dX5_sowNext_7 : decode cX5_sowNext 7 = .ok (.iload_n 3, 1) := by decide +kernel
theorem dX5_sowNext_8 : decode cX5_sowNext 8 = .ok (.aload_n 0, 1) := by decide +kernel
theorem dX5_sowNext_9 : decode cX5_sowNext 9 = .ok (.getfield 27, 3) := by decide +kernel
theorem dX5_sowNext_12 : decode cX5_sowNext 12 = .ok (.if_icmp .ge 78, 3) := by decide +kernel
theorem dX5_sowNext_15 : decode cX5_sowNext 15 = .ok (.aload_n 0, 1) := by decide +kernel
theorem dX5_sowNext_16 : decode cX5_sowNext 16 = .ok (.getfield 9, 3) := by decide +kernel
theorem dX5_sowNext_19 : decode cX5_sowNext 19 = .ok (.iload_n 3, 1) := by decide +kernel
theorem dX5_sowNext_20 : decode cX5_sowNext 20 = .ok (.invokestatic 55, 3) := by decide +kernel
theorem dX5_sowNext_23 : decode cX5_sowNext 23 = .ok (.istore 4, 2) := by decide +kernel
theorem dX5_sowNext_25 : decode cX5_sowNext 25 = .ok (.iconst 4, 1) := by decide +kernel
theorem dX5_sowNext_26 : decode cX5_sowNext 26 = .ok (.istore 5, 2) := by decide +kernel
theorem dX5_sowNext_28 : decode cX5_sowNext 28 = .ok (.iload 5, 2) := by decide +kernel
theorem dX5_sowNext_30 : decode cX5_sowNext 30 = .ok (.bipush 6, 2) := by decide +kernel
theorem dX5_sowNext_32 : decode cX5_sowNext 32 = .ok (.if_icmp .ge 52, 3) := by decide +kernel
theorem dX5_sowNext_35 : decode cX5_sowNext 35 = .ok (.aload_n 1, 1) := by decide +kernel
theorem dX5_sowNext_36 : decode cX5_sowNext 36 = .ok (.iload 4, 2) := by decide +kernel
theorem dX5_sowNext_38 : decode cX5_sowNext 38 = .ok (.iload 5, 2) := by decide +kernel
theorem dX5_sowNext_40 : decode cX5_sowNext 40 = .ok (.invokevirtual 71, 3) := by decide +kernel
theorem dX5_sowNext_43 : decode cX5_sowNext 43 = .ok (.istore 6, 2) := by decide +kernel
theorem dX5_sowNext_45 : decode cX5_sowNext 45 = .ok (.iload 6, 2) := by decide +kernel
theorem dX5_sowNext_47 : decode cX5_sowNext 47 = .ok (.bipush (-9), 2) := by decide +kernel
theorem dX5_sowNext_49 : decode cX5_sowNext 49 = .ok (.if_icmp .eq 29, 3) := by decide +kernel
theorem dX5_sowNext_52 : decode cX5_sowNext 52 = .ok (.aload_n 0, 1) := by decide +kernel
theorem dX5_sowNext_53 : decode cX5_sowNext 53 = .ok (.iload 6, 2) := by decide +kernel
theorem dX5_sowNext_55 : decode cX5_sowNext 55 = .ok (.invokevirtual 75, 3) := by decide +kernel
theorem dX5_sowNext_58 : decode cX5_sowNext 58 = .ok (.ifCond .ne 20, 3) := by decide +kernel
theorem dX5_sowNext_61 : decode cX5_sowNext 61 = .ok (.aload_n 0, 1) := by decide +kernel
theorem dX5_sowNext_62 : decode cX5_sowNext 62 = .ok (.iload 6, 2) := by decide +kernel
theorem dX5_sowNext_64 : decode cX5_sowNext 64 = .ok (.aload_n 0, 1) := by decide +kernel
theorem dX5_sowNext_65 : decode cX5_sowNext 65 = .ok (.getfield 18, 3) := by decide +kernel
theorem dX5_sowNext_68 : decode cX5_sowNext 68 = .ok (.iload 4, 2) := by decide +kernel
theorem dX5_sowNext_70 : decode cX5_sowNext 70 = .ok (.invokestatic 55, 3) := by decide +kernel
theorem dX5_sowNext_73 : decode cX5_sowNext 73 = .ok (.iconst 1, 1) := by decide +kernel
theorem dX5_sowNext_74 : decode cX5_sowNext 74 = .ok (.iadd, 1) := by decide +kernel
theorem dX5_sowNext_75 : decode cX5_sowNext 75 = .ok (.invokevirtual 44, 3) := by decide +kernel
theorem dX5_sowNext_78 : decode cX5_sowNext 78 = .ok (.iinc 5 1, 3) := by decide +kernel
theorem dX5_sowNext_81 : decode cX5_sowNext 81 = .ok (.goto (-53), 3) := by decide +kernel
theorem dX5_sowNext_84 : decode cX5_sowNext 84 = .ok (.iinc 3 1, 3) := by decide +kernel
theorem dX5_sowNext_87 : decode cX5_sowNext 87 = .ok (.goto (-80), 3) := by decide +kernel
theorem dX5_sowNext_90 : decode cX5_sowNext 90 = .ok (.return_, 1) := by decide +kernel
set_option maxRecDepth 20000 in
theorem ggX5_lastStep_X1_lead : GoodIn wsX5_lastStep wsX1_lead := goodIn_r _ [7, 8, 9, 10, 11, 12, 13, 14, 15, 16, 17, 6, 18, 19, 20, 21, 22, 23, 24, 25, 38, 39, 40, 41, 42] (by decide +kernel) (by decide +kernel)
set_option maxRecDepth 20000 in
theorem gX5_lastStep_X1_lead : GoodIn wsX5_lastStep (wsV RX5 71 RX1 yX1_lead wsX1_lead) := goodIn_app (goodIn_of _ (by decide +kernel)) ggX5_lastStep_X1_lead
set_option maxRecDepth 20000 in
theorem ggX5_lastStep_X5_isReached : GoodIn wsX5_lastStep wsX5_isReached := goodIn_r _ [30, 1, 22, 9, 23, 31, 32, 33, 34, 35, 36, 37] (by decide +kernel) (by decide +kernel)
set_option maxRecDepth 20000 in
theorem gX5_lastStep_X5_isReached : GoodIn wsX5_lastStep (wsV RX5 75 RX5 yX5_isReached wsX5_isReached) := goodIn_app (goodIn_of _ (by decide +kernel)) ggX5_lastStep_X5_isReached
set_option maxRecDepth 20000 in
theorem ggX5_lastStep_X7_at : GoodIn wsX5_lastStep wsX7_at := goodIn_r _ [23] (by decide +kernel) (by decide +kernel)
set_option maxRecDepth 20000 in
theorem gX5_lastStep_X7_at_n55 : GoodIn wsX5_lastStep (wsX7_at) := ggX5_lastStep_X7_at
theorem dX5_lastStep_0 : decode cX5_lastStep 0 = .ok (.iconst 0, 1) := by decide +kernel
theorem dX5_lastStep_1 : decode cX5_lastStep 1 = .ok (.istore_n 3, 1) := by decide +kernel
theorem dX5_lastStep_2 : decode cX5_lastStep 2 = .ok (.iload_n 3, 1) := by decide +kernel
theorem dX5_lastStep_3 : decode cX5_lastStep 3 = .ok (.bipush 6, 2) := by decide +kernel
theorem dX5_lastStep_5 : decode cX5_lastStep 5 = .ok (.if_icmp .ge 109, 3) := by decide +kernel
theorem dX5_lastStep_8 : decode cX5_lastStep 8 = .ok (.aload_n 1, 1) := by decide +kernel
theorem dX5_lastStep_9 : decode cX5_lastStep 9 = .ok (.iload_n 2, 1) := by decide +kernel
theorem dX5_lastStep_10 : decode cX5_lastStep 10 = .ok (.iload_n 3, 1) := by decide +kernel
theorem dX5_lastStep_11 : decode cX5_lastStep 11 = .ok (.iconst 1, 1) := by decide +kernel
theorem dX5_lastStep_12 : decode cX5_lastStep 12 = .ok (.ixor, 1) := by decide +kernel
theorem dX5_lastStep_13 : decode cX5_lastStep 13 = .ok (.invokevirtual 71, 3) := by decide +kernel
theorem dX5_lastStep_16 : decode cX5_lastStep 16 = .ok (.istore 4, 2) := by decide +kernel
theorem dX5_lastStep_18 : decode cX5_lastStep 18 = .ok (.iload 4, 2) := by decide +kernel
theorem dX5_lastStep_20 : decode cX5_lastStep 20 = .ok (.bipush (-9), 2) := by decide +kernel
theorem dX5_lastStep_22 : decode cX5_lastStep 22 = .ok (.if_icmp .eq 86, 3) := by decide +kernel
theorem dX5_lastStep_25 : decode cX5_lastStep 25 = .ok (.aload_n 0, 1) := by decide +kernel
theorem dX5_lastStep_26 : decode cX5_lastStep 26 = .ok (.iload 4, 2) := by decide +kernel
theorem dX5_lastStep_28 : decode cX5_lastStep 28 = .ok (.invokevirtual 75, 3) := by decide +kernel
theorem dX5_lastStep_31 : decode cX5_lastStep 31 = .ok (.ifCond .ne 6, 3) := by decide +kernel
theorem dX5_lastStep_34 : decode cX5_lastStep 34 = .ok (.goto 74, 3) := by decide +kernel
theorem dX5_lastStep_37 : decode cX5_lastStep 37 = .ok (.iload_n 3, 1) := by decide +kernel
theorem dX5_lastStep_38 : decode cX5_lastStep 38 = .ok (.iconst 4, 1) := by decide +kernel
theorem dX5_lastStep_39 : decode cX5_lastStep 39 = .ok (.if_icmp .lt 7, 3) := by decide +kernel
theorem dX5_lastStep_42 : decode cX5_lastStep 42 = .ok (.iconst 1, 1) := by decide +kernel
theorem dX5_lastStep_43 : decode cX5_lastStep 43 = .ok (.goto 4, 3) := by decide +kernel
theorem dX5_lastStep_46 : decode cX5_lastStep 46 = .ok (.iconst 0, 1) := by decide +kernel
theorem dX5_lastStep_47 : decode cX5_lastStep 47 = .ok (.istore 5, 2) := by decide +kernel
theorem dX5_lastStep_49 : decode cX5_lastStep 49 = .ok (.aload_n 0, 1) := by decide +kernel
theorem dX5_lastStep_50 : decode cX5_lastStep 50 = .ok (.getfield 15, 3) := by decide +kernel
theorem dX5_lastStep_53 : decode cX5_lastStep 53 = .ok (.iload 4, 2) := by decide +kernel
theorem dX5_lastStep_55 : decode cX5_lastStep 55 = .ok (.invokestatic 55, 3) := by decide +kernel
theorem dX5_lastStep_58 : decode cX5_lastStep 58 = .ok (.iload 5, 2) := by decide +kernel
theorem dX5_lastStep_60 : decode cX5_lastStep 60 = .ok (.iadd, 1) := by decide +kernel
theorem dX5_lastStep_61 : decode cX5_lastStep 61 = .ok (.aload_n 0, 1) := by decide +kernel
theorem dX5_lastStep_62 : decode cX5_lastStep 62 = .ok (.getfield 15, 3) := by decide +kernel
theorem dX5_lastStep_65 : decode cX5_lastStep 65 = .ok (.iload_n 2, 1) := by decide +kernel
theorem dX5_lastStep_66 : decode cX5_lastStep 66 = .ok (.invokestatic 55, 3) := by decide +kernel
theorem dX5_lastStep_69 : decode cX5_lastStep 69 = .ok (.if_icmp .ne 7, 3) := by decide +kernel
theorem dX5_lastStep_72 : decode cX5_lastStep 72 = .ok (.iconst 1, 1) := by decide +kernel
theorem dX5_lastStep_73 : decode cX5_lastStep 73 = .ok (.goto 4, 3) := by decide +kernel
theorem dX5_lastStep_76 : decode cX5_lastStep 76 = .ok (.iconst 0, 1) := by decide +kernel
theorem dX5_lastStep_77 : decode cX5_lastStep 77 = .ok (.istore 6, 2) := by decide +kernel
theorem dX5_lastStep_79 : decode cX5_lastStep 79 = .ok (.iload 6, 2) := by decide +kernel
theorem dX5_lastStep_81 : decode cX5_lastStep 81 = .ok (.ifCond .eq 27, 3) := by decide +kernel
theorem dX5_lastStep_84 : decode cX5_lastStep 84 = .ok (.aload_n 0, 1) := by decide +kernel
theorem dX5_lastStep_85 : decode cX5_lastStep 85 = .ok (.getfield 18, 3) := by decide +kernel
theorem dX5_lastStep_88 : decode cX5_lastStep 88 = .ok (.iload 4, 2) := by decide +kernel
theorem dX5_lastStep_90 : decode cX5_lastStep 90 = .ok (.invokestatic 55, 3) := by decide +kernel
theorem dX5_lastStep_93 : decode cX5_lastStep 93 = .ok (.iconst 1, 1) := by decide +kernel
theorem dX5_lastStep_94 : decode cX5_lastStep 94 = .ok (.iadd, 1) := by decide +kernel
theorem dX5_lastStep_95 : decode cX5_lastStep 95 = .ok (.aload_n 0, 1) := by decide +kernel
theorem dX5_lastStep_96 : decode cX5_lastStep 96 = .ok (.getfield 18, 3) := by decide +kernel
theorem dX5_lastStep_99 : decode cX5_lastStep 99 = .ok (.iload_n 2, 1) := by decide +kernel
theorem dX5_lastStep_100 : decode cX5_lastStep 100 = .ok (.invokestatic 55, 3) := by decide +kernel
theorem dX5_lastStep_103 : decode cX5_lastStep 103 = .ok (.if_icmp .ne 5, 3) := by decide +kernel
theorem dX5_lastStep_106 : decode cX5_lastStep 106 = .ok (.iload_n 3, 1) := by decide +kernel
theorem dX5_lastStep_107 : decode cX5_lastStep 107 = .ok (.ireturn, 1) := by decide +kernel
theorem dX5_lastStep_108 : decode cX5_lastStep 108 = .ok (.iinc 3 1, 3) := by decide +kernel
theorem dX5_lastStep_111 : decode cX5_lastStep 111 = .ok (.goto (-109), 3) := by decide +kernel
theorem dX5_lastStep_114 : decode cX5_lastStep 114 = .ok (.bipush (-9), 2) := by decide +kernel
theorem dX5_lastStep_116 : decode cX5_lastStep 116 = .ok (.ireturn, 1) := by decide +kernel
theorem dX6_init_0 : decode cX6_init 0 = .ok (.aload_n 0, 1) := by decide +kernel
theorem dX6_init_1 : decode cX6_init 1 = .ok (.invokespecial 3, 3) := by decide +kernel
theorem dX6_init_4 : decode cX6_init 4 = .ok (.aload_n 0, 1) := by decide +kernel
theorem dX6_init_5 : decode cX6_init 5 = .ok (.sipush 1620, 3) := by decide +kernel
theorem dX6_init_8 : decode cX6_init 8 = .ok (.newarray .int, 2) := by decide +kernel
theorem dX6_init_10 : decode cX6_init 10 = .ok (.putfield 9, 3) := by decide +kernel
theorem dX6_init_13 : decode cX6_init 13 = .ok (.aload_n 0, 1) := by decide +kernel
theorem dX6_init_14 : decode cX6_init 14 = .ok (.sipush 1620, 3) := by decide +kernel
theorem dX6_init_17 : decode cX6_init 17 = .ok (.newarray .int, 2) := by decide +kernel
theorem dX6_init_19 : decode cX6_init 19 = .ok (.putfield 15, 3) := by decide +kernel
theorem dX6_init_22 : decode cX6_init 22 = .ok (.aload_n 0, 1) := by decide +kernel
theorem dX6_init_23 : decode cX6_init 23 = .ok (.iconst 5, 1) := by decide +kernel
theorem dX6_init_24 : decode cX6_init 24 = .ok (.newarray .int, 2) := by decide +kernel
theorem dX6_init_26 : decode cX6_init 26 = .ok (.putfield 18, 3) := by decide +kernel
theorem dX6_init_29 : decode cX6_init 29 = .ok (.return_, 1) := by decide +kernel
set_option maxRecDepth 20000 in
theorem ggX6_sizeOf_X7_at : GoodIn wsX6_sizeOf wsX7_at := goodIn_r _ [4] (by decide +kernel) (by decide +kernel)
set_option maxRecDepth 20000 in
theorem gX6_sizeOf_X7_at_n21 : GoodIn wsX6_sizeOf (wsX7_at) := ggX6_sizeOf_X7_at
theorem dX6_sizeOf_0 : decode cX6_sizeOf 0 = .ok (.aload_n 0, 1) := by decide +kernel
theorem dX6_sizeOf_1 : decode cX6_sizeOf 1 = .ok (.getfield 18, 3) := by decide +kernel
theorem dX6_sizeOf_4 : decode cX6_sizeOf 4 = .ok (.iload_n 1, 1) := by decide +kernel
theorem dX6_sizeOf_5 : decode cX6_sizeOf 5 = .ok (.invokestatic 21, 3) := by decide +kernel
theorem dX6_sizeOf_8 : decode cX6_sizeOf 8 = .ok (.ireturn, 1) := by decide +kernel
set_option maxRecDepth 20000 in
theorem ggX6_alongOf_X7_at : GoodIn wsX6_alongOf wsX7_at := goodIn_r _ [4] (by decide +kernel) (by decide +kernel)
set_option maxRecDepth 20000 in
theorem gX6_alongOf_X7_at_n21 : GoodIn wsX6_alongOf (wsX7_at) := ggX6_alongOf_X7_at
theorem dX6_alongOf_0 : decode cX6_alongOf 0 = .ok (.aload_n 0, 1) := by decide +kernel
theorem dX6_alongOf_1 : decode cX6_alongOf 1 = .ok (.getfield 9, 3) := by decide +kernel
theorem dX6_alongOf_4 : decode cX6_alongOf 4 = .ok (.iload_n 1, 1) := by decide +kernel
theorem dX6_alongOf_5 : decode cX6_alongOf 5 = .ok (.sipush 324, 3) := by decide +kernel
theorem dX6_alongOf_8 : decode cX6_alongOf 8 = .ok (.imul, 1) := by decide +kernel
theorem dX6_alongOf_9 : decode cX6_alongOf 9 = .ok (.iload_n 2, 1) := by decide +kernel
theorem dX6_alongOf_10 : decode cX6_alongOf 10 = .ok (.iadd, 1) := by decide +kernel
theorem dX6_alongOf_11 : decode cX6_alongOf 11 = .ok (.invokestatic 21, 3) := by decide +kernel
theorem dX6_alongOf_14 : decode cX6_alongOf 14 = .ok (.ireturn, 1) := by decide +kernel
set_option maxRecDepth 20000 in
theorem ggX6_upOf_X7_at : GoodIn wsX6_upOf wsX7_at := goodIn_r _ [4] (by decide +kernel) (by decide +kernel)
set_option maxRecDepth 20000 in
theorem gX6_upOf_X7_at_n21 : GoodIn wsX6_upOf (wsX7_at) := ggX6_upOf_X7_at
theorem dX6_upOf_0 : decode cX6_upOf 0 = .ok (.aload_n 0, 1) := by decide +kernel
theorem dX6_upOf_1 : decode cX6_upOf 1 = .ok (.getfield 15, 3) := by decide +kernel
theorem dX6_upOf_4 : decode cX6_upOf 4 = .ok (.iload_n 1, 1) := by decide +kernel
theorem dX6_upOf_5 : decode cX6_upOf 5 = .ok (.sipush 324, 3) := by decide +kernel
theorem dX6_upOf_8 : decode cX6_upOf 8 = .ok (.imul, 1) := by decide +kernel
theorem dX6_upOf_9 : decode cX6_upOf 9 = .ok (.iload_n 2, 1) := by decide +kernel
theorem dX6_upOf_10 : decode cX6_upOf 10 = .ok (.iadd, 1) := by decide +kernel
theorem dX6_upOf_11 : decode cX6_upOf 11 = .ok (.invokestatic 21, 3) := by decide +kernel
theorem dX6_upOf_14 : decode cX6_upOf 14 = .ok (.ireturn, 1) := by decide +kernel
set_option maxRecDepth 20000 in
theorem ggX6_take_X7_fillWith : GoodIn wsX6_take wsX7_fillWith := goodIn_r _ [7] (by decide +kernel) (by decide +kernel)
set_option maxRecDepth 20000 in
theorem gX6_take_X7_fillWith_n25 : GoodIn wsX6_take (wsX7_fillWith) := ggX6_take_X7_fillWith
set_option maxRecDepth 20000 in
theorem ggX6_take_X2_hasSquare : GoodIn wsX6_take wsX2_hasSquare := goodIn_r _ [12, 13, 14, 15, 11, 16, 17, 18, 6, 19, 20, 21, 22, 23, 24, 25, 26, 68, 69, 70, 71, 72] (by decide +kernel) (by decide +kernel)
set_option maxRecDepth 20000 in
theorem gX6_take_X2_hasSquare : GoodIn wsX6_take (wsV RX6 35 RX2 yX2_hasSquare wsX2_hasSquare) := goodIn_app (goodIn_of _ (by decide +kernel)) ggX6_take_X2_hasSquare
set_option maxRecDepth 20000 in
theorem ggX6_take_X6_addTurned : GoodIn wsX6_take wsX6_addTurned := goodIn_r _ [31, 32, 33, 34, 30, 35, 36, 37, 1, 38, 39, 40, 41, 18, 6, 19, 42, 43, 65, 66, 67] (by decide +kernel) (by decide +kernel)
set_option maxRecDepth 20000 in
theorem gX6_take_X6_addTurned : GoodIn wsX6_take (wsV RX6 45 RX6 yX6_addTurned wsX6_addTurned) := goodIn_app (goodIn_of _ (by decide +kernel)) ggX6_take_X6_addTurned
set_option maxRecDepth 20000 in
theorem ggX6_take_X2_farthest : GoodIn wsX6_take wsX2_farthest := goodIn_r _ [47, 24, 48, 49, 50, 51, 52, 53, 54, 55, 56, 57, 9, 10, 11, 12, 13, 14, 15, 16, 17, 18, 6, 19, 20, 21, 22, 23, 25, 26, 68, 69, 70, 71, 72] (by decide +kernel) (by decide +kernel)
set_option maxRecDepth 20000 in
theorem gX6_take_X2_farthest : GoodIn wsX6_take (wsV RX6 49 RX2 yX2_farthest wsX2_farthest) := goodIn_app (goodIn_of _ (by decide +kernel)) ggX6_take_X2_farthest
set_option maxRecDepth 20000 in
theorem ggX6_take_X6_addNear : GoodIn wsX6_take wsX6_addNear := goodIn_r _ [61, 62, 63, 30, 64, 32, 33, 34, 35, 36, 37, 1, 38, 39, 40, 41, 18, 6, 19, 42, 43, 65, 66, 67] (by decide +kernel) (by decide +kernel)
set_option maxRecDepth 20000 in
theorem gX6_take_X6_addNear : GoodIn wsX6_take (wsV RX6 53 RX6 yX6_addNear wsX6_addNear) := goodIn_app (goodIn_of _ (by decide +kernel)) ggX6_take_X6_addNear
theorem dX6_take_0 : decode cX6_take 0 = .ok (.aload_n 0, 1) := by decide +kernel
theorem dX6_take_1 : decode cX6_take 1 = .ok (.getfield 18, 3) := by decide +kernel
theorem dX6_take_4 : decode cX6_take 4 = .ok (.iconst 0, 1) := by decide +kernel
theorem dX6_take_5 : decode cX6_take 5 = .ok (.invokestatic 25, 3) := by decide +kernel
theorem dX6_take_8 : decode cX6_take 8 = .ok (.iconst 0, 1) := by decide +kernel
theorem dX6_take_9 : decode cX6_take 9 = .ok (.istore_n 2, 1) := by decide +kernel
theorem dX6_take_10 : decode cX6_take 10 = .ok (.iload_n 2, 1) := by decide +kernel
theorem dX6_take_11 : decode cX6_take 11 = .ok (.aload_n 1, 1) := by decide +kernel
theorem dX6_take_12 : decode cX6_take 12 = .ok (.getfield 29, 3) := by decide +kernel
theorem dX6_take_15 : decode cX6_take 15 = .ok (.if_icmp .ge 48, 3) := by decide +kernel
theorem dX6_take_18 : decode cX6_take 18 = .ok (.iconst 0, 1) := by decide +kernel
theorem dX6_take_19 : decode cX6_take 19 = .ok (.istore_n 3, 1) := by decide +kernel
theorem dX6_take_20 : decode cX6_take 20 = .ok (.iload_n 3, 1) := by decide +kernel
theorem dX6_take_21 : decode cX6_take 21 = .ok (.bipush 6, 2) := by decide +kernel
theorem dX6_take_23 : decode cX6_take 23 = .ok (.if_icmp .ge 34, 3) := by decide +kernel
theorem dX6_take_26 : decode cX6_take 26 = .ok (.aload_n 1, 1) := by decide +kernel
theorem dX6_take_27 : decode cX6_take 27 = .ok (.iload_n 3, 1) := by decide +kernel
theorem dX6_take_28 : decode cX6_take 28 = .ok (.iload_n 2, 1) := by decide +kernel
theorem dX6_take_29 : decode cX6_take 29 = .ok (.invokevirtual 35, 3) := by decide +kernel
theorem dX6_take_32 : decode cX6_take 32 = .ok (.ifCond .eq 19, 3) := by decide +kernel
theorem dX6_take_35 : decode cX6_take 35 = .ok (.aload_n 0, 1) := by decide +kernel
theorem dX6_take_36 : decode cX6_take 36 = .ok (.iload_n 3, 1) := by decide +kernel
theorem dX6_take_37 : decode cX6_take 37 = .ok (.aload_n 1, 1) := by decide +kernel
theorem dX6_take_38 : decode cX6_take 38 = .ok (.getfield 39, 3) := by decide +kernel
theorem dX6_take_41 : decode cX6_take 41 = .ok (.isub, 1) := by decide +kernel
theorem dX6_take_42 : decode cX6_take 42 = .ok (.iload_n 2, 1) := by decide +kernel
theorem dX6_take_43 : decode cX6_take 43 = .ok (.aload_n 1, 1) := by decide +kernel
theorem dX6_take_44 : decode cX6_take 44 = .ok (.getfield 42, 3) := by decide +kernel
theorem dX6_take_47 : decode cX6_take 47 = .ok (.isub, 1) := by decide +kernel
theorem dX6_take_48 : decode cX6_take 48 = .ok (.invokevirtual 45, 3) := by decide +kernel
theorem dX6_take_51 : decode cX6_take 51 = .ok (.iinc 3 1, 3) := by decide +kernel
theorem dX6_take_54 : decode cX6_take 54 = .ok (.goto (-34), 3) := by decide +kernel
theorem dX6_take_57 : decode cX6_take 57 = .ok (.iinc 2 1, 3) := by decide +kernel
theorem dX6_take_60 : decode cX6_take 60 = .ok (.goto (-50), 3) := by decide +kernel
theorem dX6_take_63 : decode cX6_take 63 = .ok (.aload_n 0, 1) := by decide +kernel
theorem dX6_take_64 : decode cX6_take 64 = .ok (.aload_n 1, 1) := by decide +kernel
theorem dX6_take_65 : decode cX6_take 65 = .ok (.invokevirtual 49, 3) := by decide +kernel
theorem dX6_take_68 : decode cX6_take 68 = .ok (.invokevirtual 53, 3) := by decide +kernel
theorem dX6_take_71 : decode cX6_take 71 = .ok (.return_, 1) := by decide +kernel
set_option maxRecDepth 20000 in
theorem ggX6_addTurned_X6_add : GoodIn wsX6_addTurned wsX6_add := goodIn_r _ [5, 6, 7, 8, 9, 10, 11, 4, 12, 13, 14, 15, 16, 17, 18, 19, 20] (by decide +kernel) (by decide +kernel)
set_option maxRecDepth 20000 in
theorem gX6_addTurned_X6_add : GoodIn wsX6_addTurned (wsV RX6 57 RX6 yX6_add wsX6_add) := goodIn_app (goodIn_of _ (by decide +kernel)) ggX6_addTurned_X6_add
theorem dX6_addTurned_0 : decode cX6_addTurned 0 = .ok (.iload_n 1, 1) := by decide +kernel
theorem dX6_addTurned_1 : decode cX6_addTurned 1 = .ok (.istore_n 3, 1) := by decide +kernel
theorem dX6_addTurned_2 : decode cX6_addTurned 2 = .ok (.iload_n 2, 1) := by decide +kernel
theorem dX6_addTurned_3 : decode cX6_addTurned 3 = .ok (.istore 4, 2) := by decide +kernel
theorem dX6_addTurned_5 : decode cX6_addTurned 5 = .ok (.iconst 0, 1) := by decide +kernel
theorem dX6_addTurned_6 : decode cX6_addTurned 6 = .ok (.istore 5, 2) := by decide +kernel
theorem dX6_addTurned_8 : decode cX6_addTurned 8 = .ok (.iload 5, 2) := by decide +kernel
theorem dX6_addTurned_10 : decode cX6_addTurned 10 = .ok (.iconst 4, 1) := by decide +kernel
theorem dX6_addTurned_11 : decode cX6_addTurned 11 = .ok (.if_icmp .ge 31, 3) := by decide +kernel
theorem dX6_addTurned_14 : decode cX6_addTurned 14 = .ok (.aload_n 0, 1) := by decide +kernel
theorem dX6_addTurned_15 : decode cX6_addTurned 15 = .ok (.iload 5, 2) := by decide +kernel
theorem dX6_addTurned_17 : decode cX6_addTurned 17 = .ok (.iload_n 3, 1) := by decide +kernel
theorem dX6_addTurned_18 : decode cX6_addTurned 18 = .ok (.iload 4, 2) := by decide +kernel
theorem dX6_addTurned_20 : decode cX6_addTurned 20 = .ok (.invokevirtual 57, 3) := by decide +kernel
theorem dX6_addTurned_23 : decode cX6_addTurned 23 = .ok (.iload 4, 2) := by decide +kernel
theorem dX6_addTurned_25 : decode cX6_addTurned 25 = .ok (.ineg, 1) := by decide +kernel
theorem dX6_addTurned_26 : decode cX6_addTurned 26 = .ok (.iconst 1, 1) := by decide +kernel
theorem dX6_addTurned_27 : decode cX6_addTurned 27 = .ok (.isub, 1) := by decide +kernel
theorem dX6_addTurned_28 : decode cX6_addTurned 28 = .ok (.istore 6, 2) := by decide +kernel
theorem dX6_addTurned_30 : decode cX6_addTurned 30 = .ok (.iload_n 3, 1) := by decide +kernel
theorem dX6_addTurned_31 : decode cX6_addTurned 31 = .ok (.istore 4, 2) := by decide +kernel
theorem dX6_addTurned_33 : decode cX6_addTurned 33 = .ok (.iload 6, 2) := by decide +kernel
theorem dX6_addTurned_35 : decode cX6_addTurned 35 = .ok (.istore_n 3, 1) := by decide +kernel
theorem dX6_addTurned_36 : decode cX6_addTurned 36 = .ok (.iinc 5 1, 3) := by decide +kernel
theorem dX6_addTurned_39 : decode cX6_addTurned 39 = .ok (.goto (-31), 3) := by decide +kernel
theorem dX6_addTurned_42 : decode cX6_addTurned 42 = .ok (.return_, 1) := by decide +kernel
set_option maxRecDepth 20000 in
theorem ggX6_addNear_X6_nearest : GoodIn wsX6_addNear wsX6_nearest := goodIn_r _ [4] (by decide +kernel) (by decide +kernel)
set_option maxRecDepth 20000 in
theorem gX6_addNear_X6_nearest : GoodIn wsX6_addNear (va_wsS RX6 61 yX6_nearest wsX6_nearest) := goodIn_app (goodIn_of _ (by decide +kernel)) ggX6_addNear_X6_nearest
set_option maxRecDepth 20000 in
theorem ggX6_addNear_X6_add : GoodIn wsX6_addNear wsX6_add := goodIn_r _ [8, 9, 10, 11, 12, 13, 14, 3, 15, 16, 17, 18, 19, 20, 21, 22, 23] (by decide +kernel) (by decide +kernel)
set_option maxRecDepth 20000 in
theorem gX6_addNear_X6_add : GoodIn wsX6_addNear (wsV RX6 57 RX6 yX6_add wsX6_add) := goodIn_app (goodIn_of _ (by decide +kernel)) ggX6_addNear_X6_add
theorem dX6_addNear_0 : decode cX6_addNear 0 = .ok (.bipush (-9), 2) := by decide +kernel
theorem dX6_addNear_2 : decode cX6_addNear 2 = .ok (.istore_n 2, 1) := by decide +kernel
theorem dX6_addNear_3 : decode cX6_addNear 3 = .ok (.iload_n 2, 1) := by decide +kernel
theorem dX6_addNear_4 : decode cX6_addNear 4 = .ok (.bipush 9, 2) := by decide +kernel
theorem dX6_addNear_6 : decode cX6_addNear 6 = .ok (.if_icmp .ge 58, 3) := by decide +kernel
theorem dX6_addNear_9 : decode cX6_addNear 9 = .ok (.bipush (-9), 2) := by decide +kernel
theorem dX6_addNear_11 : decode cX6_addNear 11 = .ok (.istore_n 3, 1) := by decide +kernel
theorem dX6_addNear_12 : decode cX6_addNear 12 = .ok (.iload_n 3, 1) := by decide +kernel
theorem dX6_addNear_13 : decode cX6_addNear 13 = .ok (.bipush 9, 2) := by decide +kernel
theorem dX6_addNear_15 : decode cX6_addNear 15 = .ok (.if_icmp .ge 43, 3) := by decide +kernel
theorem dX6_addNear_18 : decode cX6_addNear 18 = .ok (.iload_n 3, 1) := by decide +kernel
theorem dX6_addNear_19 : decode cX6_addNear 19 = .ok (.invokestatic 61, 3) := by decide +kernel
theorem dX6_addNear_22 : decode cX6_addNear 22 = .ok (.istore 4, 2) := by decide +kernel
theorem dX6_addNear_24 : decode cX6_addNear 24 = .ok (.iload_n 2, 1) := by decide +kernel
theorem dX6_addNear_25 : decode cX6_addNear 25 = .ok (.invokestatic 61, 3) := by decide +kernel
theorem dX6_addNear_28 : decode cX6_addNear 28 = .ok (.istore 5, 2) := by decide +kernel
theorem dX6_addNear_30 : decode cX6_addNear 30 = .ok (.iload 4, 2) := by decide +kernel
theorem dX6_addNear_32 : decode cX6_addNear 32 = .ok (.iload 4, 2) := by decide +kernel
theorem dX6_addNear_34 : decode cX6_addNear 34 = .ok (.imul, 1) := by decide +kernel
theorem dX6_addNear_35 : decode cX6_addNear 35 = .ok (.iload 5, 2) := by decide +kernel
theorem dX6_addNear_37 : decode cX6_addNear 37 = .ok (.iload 5, 2) := by decide +kernel
theorem dX6_addNear_39 : decode cX6_addNear 39 = .ok (.imul, 1) := by decide +kernel
theorem dX6_addNear_40 : decode cX6_addNear 40 = .ok (.iadd, 1) := by decide +kernel
theorem dX6_addNear_41 : decode cX6_addNear 41 = .ok (.iload_n 1, 1) := by decide +kernel
theorem dX6_addNear_42 : decode cX6_addNear 42 = .ok (.if_icmp .ge 10, 3) := by decide +kernel
theorem dX6_addNear_45 : decode cX6_addNear 45 = .ok (.aload_n 0, 1) := by decide +kernel
theorem dX6_addNear_46 : decode cX6_addNear 46 = .ok (.iconst 4, 1) := by decide +kernel
theorem dX6_addNear_47 : decode cX6_addNear 47 = .ok (.iload_n 3, 1) := by decide +kernel
theorem dX6_addNear_48 : decode cX6_addNear 48 = .ok (.iload_n 2, 1) := by decide +kernel
theorem dX6_addNear_49 : decode cX6_addNear 49 = .ok (.invokevirtual 57, 3) := by decide +kernel
theorem dX6_addNear_52 : decode cX6_addNear 52 = .ok (.iinc 3 1, 3) := by decide +kernel
theorem dX6_addNear_55 : decode cX6_addNear 55 = .ok (.goto (-43), 3) := by decide +kernel
theorem dX6_addNear_58 : decode cX6_addNear 58 = .ok (.iinc 2 1, 3) := by decide +kernel
theorem dX6_addNear_61 : decode cX6_addNear 61 = .ok (.goto (-58), 3) := by decide +kernel
theorem dX6_addNear_64 : decode cX6_addNear 64 = .ok (.return_, 1) := by decide +kernel
theorem dX6_nearest_0 : decode cX6_nearest 0 = .ok (.iload_n 0, 1) := by decide +kernel
theorem dX6_nearest_1 : decode cX6_nearest 1 = .ok (.ifCond .lt 7, 3) := by decide +kernel
theorem dX6_nearest_4 : decode cX6_nearest 4 = .ok (.iload_n 0, 1) := by decide +kernel
theorem dX6_nearest_5 : decode cX6_nearest 5 = .ok (.goto 7, 3) := by decide +kernel
theorem dX6_nearest_8 : decode cX6_nearest 8 = .ok (.iload_n 0, 1) := by decide +kernel
theorem dX6_nearest_9 : decode cX6_nearest 9 = .ok (.ineg, 1) := by decide +kernel
theorem dX6_nearest_10 : decode cX6_nearest 10 = .ok (.iconst 1, 1) := by decide +kernel
theorem dX6_nearest_11 : decode cX6_nearest 11 = .ok (.isub, 1) := by decide +kernel
theorem dX6_nearest_12 : decode cX6_nearest 12 = .ok (.ireturn, 1) := by decide +kernel
set_option maxRecDepth 20000 in
theorem ggX6_add_X6_sizeOf : GoodIn wsX6_add wsX6_sizeOf := goodIn_r _ [8, 3, 9, 10, 11, 14, 15, 16] (by decide +kernel) (by decide +kernel)
set_option maxRecDepth 20000 in
theorem gX6_add_X6_sizeOf : GoodIn wsX6_add (wsV RX6 65 RX6 yX6_sizeOf wsX6_sizeOf) := goodIn_app (goodIn_of _ (by decide +kernel)) ggX6_add_X6_sizeOf
set_option maxRecDepth 20000 in
theorem ggX6_add_X7_put : GoodIn wsX6_add wsX7_put := goodIn_r _ [13] (by decide +kernel) (by decide +kernel)
set_option maxRecDepth 20000 in
theorem gX6_add_X7_put_n68 : GoodIn wsX6_add (wsX7_put) := ggX6_add_X7_put
theorem dX6_add_0 : decode cX6_add 0 = .ok (.aload_n 0, 1) := by decide +kernel
theorem dX6_add_1 : decode cX6_add 1 = .ok (.iload_n 1, 1) := by decide +kernel
theorem dX6_add_2 : decode cX6_add 2 = .ok (.invokevirtual 65, 3) := by decide +kernel
theorem dX6_add_5 : decode cX6_add 5 = .ok (.istore 4, 2) := by decide +kernel
theorem dX6_add_7 : decode cX6_add 7 = .ok (.aload_n 0, 1) := by decide +kernel
theorem dX6_add_8 : decode cX6_add 8 = .ok (.getfield 9, 3) := by decide +kernel
theorem dX6_add_11 : decode cX6_add 11 = .ok (.iload_n 1, 1) := by decide +kernel
theorem dX6_add_12 : decode cX6_add 12 = .ok (.sipush 324, 3) := by decide +kernel
theorem dX6_add_15 : decode cX6_add 15 = .ok (.imul, 1) := by decide +kernel
theorem dX6_add_16 : decode cX6_add 16 = .ok (.iload 4, 2) := by decide +kernel
theorem dX6_add_18 : decode cX6_add 18 = .ok (.iadd, 1) := by decide +kernel
theorem dX6_add_19 : decode cX6_add 19 = .ok (.iload_n 2, 1) := by decide +kernel
theorem dX6_add_20 : decode cX6_add 20 = .ok (.invokestatic 68, 3) := by decide +kernel
theorem dX6_add_23 : decode cX6_add 23 = .ok (.aload_n 0, 1) := by decide +kernel
theorem dX6_add_24 : decode cX6_add 24 = .ok (.getfield 15, 3) := by decide +kernel
theorem dX6_add_27 : decode cX6_add 27 = .ok (.iload_n 1, 1) := by decide +kernel
theorem dX6_add_28 : decode cX6_add 28 = .ok (.sipush 324, 3) := by decide +kernel
theorem dX6_add_31 : decode cX6_add 31 = .ok (.imul, 1) := by decide +kernel
theorem dX6_add_32 : decode cX6_add 32 = .ok (.iload 4, 2) := by decide +kernel
theorem dX6_add_34 : decode cX6_add 34 = .ok (.iadd, 1) := by decide +kernel
theorem dX6_add_35 : decode cX6_add 35 = .ok (.iload_n 3, 1) := by decide +kernel
theorem dX6_add_36 : decode cX6_add 36 = .ok (.invokestatic 68, 3) := by decide +kernel
theorem dX6_add_39 : decode cX6_add 39 = .ok (.aload_n 0, 1) := by decide +kernel
theorem dX6_add_40 : decode cX6_add 40 = .ok (.getfield 18, 3) := by decide +kernel
theorem dX6_add_43 : decode cX6_add 43 = .ok (.iload_n 1, 1) := by decide +kernel
theorem dX6_add_44 : decode cX6_add 44 = .ok (.iload 4, 2) := by decide +kernel
theorem dX6_add_46 : decode cX6_add 46 = .ok (.iconst 1, 1) := by decide +kernel
theorem dX6_add_47 : decode cX6_add 47 = .ok (.iadd, 1) := by decide +kernel
theorem dX6_add_48 : decode cX6_add 48 = .ok (.invokestatic 68, 3) := by decide +kernel
theorem dX6_add_51 : decode cX6_add 51 = .ok (.return_, 1) := by decide +kernel
