theorem dX0_init_0 : decode cX0_init 0 = .ok (.aload_n 0, 1) := by decide +kernel
theorem dX0_init_1 : decode cX0_init 1 = .ok (.invokespecial 3, 3) := by decide +kernel
theorem dX0_init_4 : decode cX0_init 4 = .ok (.aload_n 0, 1) := by decide +kernel
theorem dX0_init_5 : decode cX0_init 5 = .ok (.iconst 1, 1) := by decide +kernel
theorem dX0_init_6 : decode cX0_init 6 = .ok (.putfield 9, 3) := by decide +kernel
theorem dX0_init_9 : decode cX0_init 9 = .ok (.aload_n 0, 1) := by decide +kernel
theorem dX0_init_10 : decode cX0_init 10 = .ok (.iconst 1, 1) := by decide +kernel
theorem dX0_init_11 : decode cX0_init 11 = .ok (.putfield 15, 3) := by decide +kernel
theorem dX0_init_14 : decode cX0_init 14 = .ok (.aload_n 0, 1) := by decide +kernel
theorem dX0_init_15 : decode cX0_init 15 = .ok (.sipush 400, 3) := by decide +kernel
theorem dX0_init_18 : decode cX0_init 18 = .ok (.newarray .int, 2) := by decide +kernel
theorem dX0_init_20 : decode cX0_init 20 = .ok (.putfield 18, 3) := by decide +kernel
theorem dX0_init_23 : decode cX0_init 23 = .ok (.aload_n 0, 1) := by decide +kernel
theorem dX0_init_24 : decode cX0_init 24 = .ok (.sipush 8000, 3) := by decide +kernel
theorem dX0_init_27 : decode cX0_init 27 = .ok (.newarray .int, 2) := by decide +kernel
theorem dX0_init_29 : decode cX0_init 29 = .ok (.putfield 22, 3) := by decide +kernel
theorem dX0_init_32 : decode cX0_init 32 = .ok (.aload_n 0, 1) := by decide +kernel
theorem dX0_init_33 : decode cX0_init 33 = .ok (.bipush 20, 2) := by decide +kernel
theorem dX0_init_35 : decode cX0_init 35 = .ok (.newarray .int, 2) := by decide +kernel
theorem dX0_init_37 : decode cX0_init 37 = .ok (.putfield 25, 3) := by decide +kernel
theorem dX0_init_40 : decode cX0_init 40 = .ok (.aload_n 0, 1) := by decide +kernel
theorem dX0_init_41 : decode cX0_init 41 = .ok (.bipush 20, 2) := by decide +kernel
theorem dX0_init_43 : decode cX0_init 43 = .ok (.newarray .int, 2) := by decide +kernel
theorem dX0_init_45 : decode cX0_init 45 = .ok (.putfield 28, 3) := by decide +kernel
theorem dX0_init_48 : decode cX0_init 48 = .ok (.aload_n 0, 1) := by decide +kernel
theorem dX0_init_49 : decode cX0_init 49 = .ok (.bipush 20, 2) := by decide +kernel
theorem dX0_init_51 : decode cX0_init 51 = .ok (.newarray .int, 2) := by decide +kernel
theorem dX0_init_53 : decode cX0_init 53 = .ok (.putfield 31, 3) := by decide +kernel
theorem dX0_init_56 : decode cX0_init 56 = .ok (.return_, 1) := by decide +kernel
set_option maxRecDepth 20000 in
theorem ggX0_raise_X7_fillWith : GoodIn wsX0_raise wsX7_fillWith := goodIn_r _ [11] (by decide +kernel) (by decide +kernel)
set_option maxRecDepth 20000 in
theorem gX0_raise_X7_fillWith_n43 : GoodIn wsX0_raise (wsX7_fillWith) := ggX0_raise_X7_fillWith
theorem dX0_raise_0 : decode cX0_raise 0 = .ok (.aload_n 0, 1) := by decide +kernel
theorem dX0_raise_1 : decode cX0_raise 1 = .ok (.iload_n 1, 1) := by decide +kernel
theorem dX0_raise_2 : decode cX0_raise 2 = .ok (.putfield 9, 3) := by decide +kernel
theorem dX0_raise_5 : decode cX0_raise 5 = .ok (.aload_n 0, 1) := by decide +kernel
theorem dX0_raise_6 : decode cX0_raise 6 = .ok (.iload_n 2, 1) := by decide +kernel
theorem dX0_raise_7 : decode cX0_raise 7 = .ok (.putfield 15, 3) := by decide +kernel
theorem dX0_raise_10 : decode cX0_raise 10 = .ok (.aload_n 0, 1) := by decide +kernel
theorem dX0_raise_11 : decode cX0_raise 11 = .ok (.iconst 0, 1) := by decide +kernel
theorem dX0_raise_12 : decode cX0_raise 12 = .ok (.putfield 34, 3) := by decide +kernel
theorem dX0_raise_15 : decode cX0_raise 15 = .ok (.aload_n 0, 1) := by decide +kernel
theorem dX0_raise_16 : decode cX0_raise 16 = .ok (.iconst 0, 1) := by decide +kernel
theorem dX0_raise_17 : decode cX0_raise 17 = .ok (.putfield 37, 3) := by decide +kernel
theorem dX0_raise_20 : decode cX0_raise 20 = .ok (.aload_n 0, 1) := by decide +kernel
theorem dX0_raise_21 : decode cX0_raise 21 = .ok (.iconst 0, 1) := by decide +kernel
theorem dX0_raise_22 : decode cX0_raise 22 = .ok (.putfield 40, 3) := by decide +kernel
theorem dX0_raise_25 : decode cX0_raise 25 = .ok (.aload_n 0, 1) := by decide +kernel
theorem dX0_raise_26 : decode cX0_raise 26 = .ok (.getfield 18, 3) := by decide +kernel
theorem dX0_raise_29 : decode cX0_raise 29 = .ok (.iconst 0, 1) := by decide +kernel
theorem dX0_raise_30 : decode cX0_raise 30 = .ok (.invokestatic 43, 3) := by decide +kernel
theorem dX0_raise_33 : decode cX0_raise 33 = .ok (.aload_n 0, 1) := by decide +kernel
theorem dX0_raise_34 : decode cX0_raise 34 = .ok (.iconst 0, 1) := by decide +kernel
theorem dX0_raise_35 : decode cX0_raise 35 = .ok (.putfield 47, 3) := by decide +kernel
theorem dX0_raise_38 : decode cX0_raise 38 = .ok (.aload_n 0, 1) := by decide +kernel
theorem dX0_raise_39 : decode cX0_raise 39 = .ok (.iconst 0, 1) := by decide +kernel
theorem dX0_raise_40 : decode cX0_raise 40 = .ok (.putfield 50, 3) := by decide +kernel
theorem dX0_raise_43 : decode cX0_raise 43 = .ok (.return_, 1) := by decide +kernel
set_option maxRecDepth 20000 in
theorem ggX0_isSquare_X7_isWithin : GoodIn wsX0_isSquare wsX7_isWithin := goodIn_r _ [5] (by decide +kernel) (by decide +kernel)
set_option maxRecDepth 20000 in
theorem gX0_isSquare_X7_isWithin_n53 : GoodIn wsX0_isSquare (wsX7_isWithin) := ggX0_isSquare_X7_isWithin
theorem dX0_isSquare_0 : decode cX0_isSquare 0 = .ok (.iload_n 1, 1) := by decide +kernel
theorem dX0_isSquare_1 : decode cX0_isSquare 1 = .ok (.iconst 0, 1) := by decide +kernel
theorem dX0_isSquare_2 : decode cX0_isSquare 2 = .ok (.aload_n 0, 1) := by decide +kernel
theorem dX0_isSquare_3 : decode cX0_isSquare 3 = .ok (.getfield 9, 3) := by decide +kernel
theorem dX0_isSquare_6 : decode cX0_isSquare 6 = .ok (.iconst 1, 1) := by decide +kernel
theorem dX0_isSquare_7 : decode cX0_isSquare 7 = .ok (.isub, 1) := by decide +kernel
theorem dX0_isSquare_8 : decode cX0_isSquare 8 = .ok (.invokestatic 53, 3) := by decide +kernel
theorem dX0_isSquare_11 : decode cX0_isSquare 11 = .ok (.ifCond .eq 21, 3) := by decide +kernel
theorem dX0_isSquare_14 : decode cX0_isSquare 14 = .ok (.iload_n 2, 1) := by decide +kernel
theorem dX0_isSquare_15 : decode cX0_isSquare 15 = .ok (.iconst 0, 1) := by decide +kernel
theorem dX0_isSquare_16 : decode cX0_isSquare 16 = .ok (.aload_n 0, 1) := by decide +kernel
theorem dX0_isSquare_17 : decode cX0_isSquare 17 = .ok (.getfield 15, 3) := by decide +kernel
theorem dX0_isSquare_20 : decode cX0_isSquare 20 = .ok (.iconst 1, 1) := by decide +kernel
theorem dX0_isSquare_21 : decode cX0_isSquare 21 = .ok (.isub, 1) := by decide +kernel
theorem dX0_isSquare_22 : decode cX0_isSquare 22 = .ok (.invokestatic 53, 3) := by decide +kernel
theorem dX0_isSquare_25 : decode cX0_isSquare 25 = .ok (.ifCond .eq 7, 3) := by decide +kernel
theorem dX0_isSquare_28 : decode cX0_isSquare 28 = .ok (.iconst 1, 1) := by decide +kernel
theorem dX0_isSquare_29 : decode cX0_isSquare 29 = .ok (.goto 4, 3) := by decide +kernel
theorem dX0_isSquare_32 : decode cX0_isSquare 32 = .ok (.iconst 0, 1) := by decide +kernel
theorem dX0_isSquare_33 : decode cX0_isSquare 33 = .ok (.ireturn, 1) := by decide +kernel
set_option maxRecDepth 20000 in
theorem ggX0_isPlace_X7_isWithin : GoodIn wsX0_isPlace wsX7_isWithin := goodIn_r _ [5] (by decide +kernel) (by decide +kernel)
set_option maxRecDepth 20000 in
theorem gX0_isPlace_X7_isWithin_n53 : GoodIn wsX0_isPlace (wsX7_isWithin) := ggX0_isPlace_X7_isWithin
theorem dX0_isPlace_0 : decode cX0_isPlace 0 = .ok (.iload_n 1, 1) := by decide +kernel
theorem dX0_isPlace_1 : decode cX0_isPlace 1 = .ok (.iconst 0, 1) := by decide +kernel
theorem dX0_isPlace_2 : decode cX0_isPlace 2 = .ok (.aload_n 0, 1) := by decide +kernel
theorem dX0_isPlace_3 : decode cX0_isPlace 3 = .ok (.getfield 9, 3) := by decide +kernel
theorem dX0_isPlace_6 : decode cX0_isPlace 6 = .ok (.invokestatic 53, 3) := by decide +kernel
theorem dX0_isPlace_9 : decode cX0_isPlace 9 = .ok (.ifCond .eq 19, 3) := by decide +kernel
theorem dX0_isPlace_12 : decode cX0_isPlace 12 = .ok (.iload_n 2, 1) := by decide +kernel
theorem dX0_isPlace_13 : decode cX0_isPlace 13 = .ok (.iconst 0, 1) := by decide +kernel
theorem dX0_isPlace_14 : decode cX0_isPlace 14 = .ok (.aload_n 0, 1) := by decide +kernel
theorem dX0_isPlace_15 : decode cX0_isPlace 15 = .ok (.getfield 15, 3) := by decide +kernel
theorem dX0_isPlace_18 : decode cX0_isPlace 18 = .ok (.invokestatic 53, 3) := by decide +kernel
theorem dX0_isPlace_21 : decode cX0_isPlace 21 = .ok (.ifCond .eq 7, 3) := by decide +kernel
theorem dX0_isPlace_24 : decode cX0_isPlace 24 = .ok (.iconst 1, 1) := by decide +kernel
theorem dX0_isPlace_25 : decode cX0_isPlace 25 = .ok (.goto 4, 3) := by decide +kernel
theorem dX0_isPlace_28 : decode cX0_isPlace 28 = .ok (.iconst 0, 1) := by decide +kernel
theorem dX0_isPlace_29 : decode cX0_isPlace 29 = .ok (.ireturn, 1) := by decide +kernel
set_option maxRecDepth 20000 in
theorem ggX0_isThing_X7_isWithin : GoodIn wsX0_isThing wsX7_isWithin := goodIn_r _ [4] (by decide +kernel) (by decide +kernel)
set_option maxRecDepth 20000 in
theorem gX0_isThing_X7_isWithin_n53 : GoodIn wsX0_isThing (wsX7_isWithin) := ggX0_isThing_X7_isWithin
theorem dX0_isThing_0 : decode cX0_isThing 0 = .ok (.iload_n 1, 1) := by decide +kernel
theorem dX0_isThing_1 : decode cX0_isThing 1 = .ok (.iconst 0, 1) := by decide +kernel
theorem dX0_isThing_2 : decode cX0_isThing 2 = .ok (.aload_n 0, 1) := by decide +kernel
theorem dX0_isThing_3 : decode cX0_isThing 3 = .ok (.getfield 34, 3) := by decide +kernel
theorem dX0_isThing_6 : decode cX0_isThing 6 = .ok (.iconst 1, 1) := by decide +kernel
theorem dX0_isThing_7 : decode cX0_isThing 7 = .ok (.isub, 1) := by decide +kernel
theorem dX0_isThing_8 : decode cX0_isThing 8 = .ok (.invokestatic 53, 3) := by decide +kernel
theorem dX0_isThing_11 : decode cX0_isThing 11 = .ok (.ireturn, 1) := by decide +kernel
theorem dX0_isDoor_0 : decode cX0_isDoor 0 = .ok (.aload_n 0, 1) := by decide +kernel
theorem dX0_isDoor_1 : decode cX0_isDoor 1 = .ok (.getfield 37, 3) := by decide +kernel
theorem dX0_isDoor_4 : decode cX0_isDoor 4 = .ok (.iload_n 1, 1) := by decide +kernel
theorem dX0_isDoor_5 : decode cX0_isDoor 5 = .ok (.ishr, 1) := by decide +kernel
theorem dX0_isDoor_6 : decode cX0_isDoor 6 = .ok (.iconst 1, 1) := by decide +kernel
theorem dX0_isDoor_7 : decode cX0_isDoor 7 = .ok (.iand, 1) := by decide +kernel
theorem dX0_isDoor_8 : decode cX0_isDoor 8 = .ok (.iconst 1, 1) := by decide +kernel
theorem dX0_isDoor_9 : decode cX0_isDoor 9 = .ok (.if_icmp .ne 7, 3) := by decide +kernel
theorem dX0_isDoor_12 : decode cX0_isDoor 12 = .ok (.iconst 1, 1) := by decide +kernel
theorem dX0_isDoor_13 : decode cX0_isDoor 13 = .ok (.goto 4, 3) := by decide +kernel
theorem dX0_isDoor_16 : decode cX0_isDoor 16 = .ok (.iconst 0, 1) := by decide +kernel
theorem dX0_isDoor_17 : decode cX0_isDoor 17 = .ok (.ireturn, 1) := by decide +kernel
theorem dX0_addThing_0 : decode cX0_addThing 0 = .ok (.iload_n 1, 1) := by decide +kernel
theorem dX0_addThing_1 : decode cX0_addThing 1 = .ok (.ifCond .eq 18, 3) := by decide +kernel
theorem dX0_addThing_4 : decode cX0_addThing 4 = .ok (.aload_n 0, 1) := by decide +kernel
theorem dX0_addThing_5 : decode cX0_addThing 5 = .ok (.dup, 1) := by decide +kernel
theorem dX0_addThing_6 : decode cX0_addThing 6 = .ok (.getfield 37, 3) := by decide +kernel
theorem dX0_addThing_9 : decode cX0_addThing 9 = .ok (.iconst 1, 1) := by decide +kernel
theorem dX0_addThing_10 : decode cX0_addThing 10 = .ok (.aload_n 0, 1) := by decide +kernel
theorem dX0_addThing_11 : decode cX0_addThing 11 = .ok (.getfield 34, 3) := by decide +kernel
theorem dX0_addThing_14 : decode cX0_addThing 14 = .ok (.ishl, 1) := by decide +kernel
theorem dX0_addThing_15 : decode cX0_addThing 15 = .ok (.ior, 1) := by decide +kernel
theorem dX0_addThing_16 : decode cX0_addThing 16 = .ok (.putfield 37, 3) := by decide +kernel
theorem dX0_addThing_19 : decode cX0_addThing 19 = .ok (.aload_n 0, 1) := by decide +kernel
theorem dX0_addThing_20 : decode cX0_addThing 20 = .ok (.dup, 1) := by decide +kernel
theorem dX0_addThing_21 : decode cX0_addThing 21 = .ok (.getfield 34, 3) := by decide +kernel
theorem dX0_addThing_24 : decode cX0_addThing 24 = .ok (.iconst 1, 1) := by decide +kernel
theorem dX0_addThing_25 : decode cX0_addThing 25 = .ok (.iadd, 1) := by decide +kernel
theorem dX0_addThing_26 : decode cX0_addThing 26 = .ok (.putfield 34, 3) := by decide +kernel
theorem dX0_addThing_29 : decode cX0_addThing 29 = .ok (.aload_n 0, 1) := by decide +kernel
theorem dX0_addThing_30 : decode cX0_addThing 30 = .ok (.getfield 34, 3) := by decide +kernel
theorem dX0_addThing_33 : decode cX0_addThing 33 = .ok (.iconst 1, 1) := by decide +kernel
theorem dX0_addThing_34 : decode cX0_addThing 34 = .ok (.isub, 1) := by decide +kernel
theorem dX0_addThing_35 : decode cX0_addThing 35 = .ok (.ireturn, 1) := by decide +kernel
set_option maxRecDepth 20000 in
theorem ggX0_cover_X0_squareIndex : GoodIn wsX0_cover wsX0_squareIndex := goodIn_r _ [11] (by decide +kernel) (by decide +kernel)
set_option maxRecDepth 20000 in
theorem gX0_cover_X0_squareIndex : GoodIn wsX0_cover (va_wsS RX0 63 yX0_squareIndex wsX0_squareIndex) := goodIn_app (goodIn_of _ (by decide +kernel)) ggX0_cover_X0_squareIndex
set_option maxRecDepth 20000 in
theorem ggX0_cover_X7_at : GoodIn wsX0_cover wsX7_at := goodIn_r _ [14] (by decide +kernel) (by decide +kernel)
set_option maxRecDepth 20000 in
theorem gX0_cover_X7_at_n66 : GoodIn wsX0_cover (wsX7_at) := ggX0_cover_X7_at
set_option maxRecDepth 20000 in
theorem ggX0_cover_X7_put : GoodIn wsX0_cover wsX7_put := goodIn_r _ [16] (by decide +kernel) (by decide +kernel)
set_option maxRecDepth 20000 in
theorem gX0_cover_X7_put_n70 : GoodIn wsX0_cover (wsX7_put) := ggX0_cover_X7_put
theorem dX0_cover_0 : decode cX0_cover 0 = .ok (.iload_n 2, 1) := by decide +kernel
theorem dX0_cover_1 : decode cX0_cover 1 = .ok (.iload 4, 2) := by decide +kernel
theorem dX0_cover_3 : decode cX0_cover 3 = .ok (.iadd, 1) := by decide +kernel
theorem dX0_cover_4 : decode cX0_cover 4 = .ok (.aload_n 0, 1) := by decide +kernel
theorem dX0_cover_5 : decode cX0_cover 5 = .ok (.getfield 9, 3) := by decide +kernel
theorem dX0_cover_8 : decode cX0_cover 8 = .ok (.invokestatic 57, 3) := by decide +kernel
theorem dX0_cover_11 : decode cX0_cover 11 = .ok (.istore 6, 2) := by decide +kernel
theorem dX0_cover_13 : decode cX0_cover 13 = .ok (.iload_n 3, 1) := by decide +kernel
theorem dX0_cover_14 : decode cX0_cover 14 = .ok (.iload 5, 2) := by decide +kernel
theorem dX0_cover_16 : decode cX0_cover 16 = .ok (.iadd, 1) := by decide +kernel
theorem dX0_cover_17 : decode cX0_cover 17 = .ok (.aload_n 0, 1) := by decide +kernel
theorem dX0_cover_18 : decode cX0_cover 18 = .ok (.getfield 15, 3) := by decide +kernel
theorem dX0_cover_21 : decode cX0_cover 21 = .ok (.invokestatic 57, 3) := by decide +kernel
theorem dX0_cover_24 : decode cX0_cover 24 = .ok (.istore 7, 2) := by decide +kernel
theorem dX0_cover_26 : decode cX0_cover 26 = .ok (.iload_n 3, 1) := by decide +kernel
theorem dX0_cover_27 : decode cX0_cover 27 = .ok (.istore 8, 2) := by decide +kernel
theorem dX0_cover_29 : decode cX0_cover 29 = .ok (.iload 8, 2) := by decide +kernel
theorem dX0_cover_31 : decode cX0_cover 31 = .ok (.iload 7, 2) := by decide +kernel
theorem dX0_cover_33 : decode cX0_cover 33 = .ok (.if_icmp .ge 56, 3) := by decide +kernel
theorem dX0_cover_36 : decode cX0_cover 36 = .ok (.iload_n 2, 1) := by decide +kernel
theorem dX0_cover_37 : decode cX0_cover 37 = .ok (.istore 9, 2) := by decide +kernel
theorem dX0_cover_39 : decode cX0_cover 39 = .ok (.iload 9, 2) := by decide +kernel
theorem dX0_cover_41 : decode cX0_cover 41 = .ok (.iload 6, 2) := by decide +kernel
theorem dX0_cover_43 : decode cX0_cover 43 = .ok (.if_icmp .ge 40, 3) := by decide +kernel
theorem dX0_cover_46 : decode cX0_cover 46 = .ok (.iload 9, 2) := by decide +kernel
theorem dX0_cover_48 : decode cX0_cover 48 = .ok (.iload 8, 2) := by decide +kernel
theorem dX0_cover_50 : decode cX0_cover 50 = .ok (.invokestatic 63, 3) := by decide +kernel
theorem dX0_cover_53 : decode cX0_cover 53 = .ok (.istore 10, 2) := by decide +kernel
theorem dX0_cover_55 : decode cX0_cover 55 = .ok (.aload_n 0, 1) := by decide +kernel
theorem dX0_cover_56 : decode cX0_cover 56 = .ok (.getfield 18, 3) := by decide +kernel
theorem dX0_cover_59 : decode cX0_cover 59 = .ok (.iload 10, 2) := by decide +kernel
theorem dX0_cover_61 : decode cX0_cover 61 = .ok (.aload_n 0, 1) := by decide +kernel
theorem dX0_cover_62 : decode cX0_cover 62 = .ok (.getfield 18, 3) := by decide +kernel
theorem dX0_cover_65 : decode cX0_cover 65 = .ok (.iload 10, 2) := by decide +kernel
theorem dX0_cover_67 : decode cX0_cover 67 = .ok (.invokestatic 66, 3) := by decide +kernel
theorem dX0_cover_70 : decode cX0_cover 70 = .ok (.iconst 1, 1) := by decide +kernel
theorem dX0_cover_71 : decode cX0_cover 71 = .ok (.iload_n 1, 1) := by decide +kernel
theorem dX0_cover_72 : decode cX0_cover 72 = .ok (.ishl, 1) := by decide +kernel
theorem dX0_cover_73 : decode cX0_cover 73 = .ok (.ior, 1) := by decide +kernel
theorem dX0_cover_74 : decode cX0_cover 74 = .ok (.invokestatic 70, 3) := by decide +kernel
theorem dX0_cover_77 : decode cX0_cover 77 = .ok (.iinc 9 1, 3) := by decide +kernel
theorem dX0_cover_80 : decode cX0_cover 80 = .ok (.goto (-41), 3) := by decide +kernel
theorem dX0_cover_83 : decode cX0_cover 83 = .ok (.iinc 8 1, 3) := by decide +kernel
theorem dX0_cover_86 : decode cX0_cover 86 = .ok (.goto (-57), 3) := by decide +kernel
theorem dX0_cover_89 : decode cX0_cover 89 = .ok (.return_, 1) := by decide +kernel
set_option maxRecDepth 20000 in
theorem ggX0_bare_X0_squareIndex : GoodIn wsX0_bare wsX0_squareIndex := goodIn_r _ [5] (by decide +kernel) (by decide +kernel)
set_option maxRecDepth 20000 in
theorem gX0_bare_X0_squareIndex : GoodIn wsX0_bare (va_wsS RX0 63 yX0_squareIndex wsX0_squareIndex) := goodIn_app (goodIn_of _ (by decide +kernel)) ggX0_bare_X0_squareIndex
set_option maxRecDepth 20000 in
theorem ggX0_bare_X7_at : GoodIn wsX0_bare wsX7_at := goodIn_r _ [8] (by decide +kernel) (by decide +kernel)
set_option maxRecDepth 20000 in
theorem gX0_bare_X7_at_n66 : GoodIn wsX0_bare (wsX7_at) := ggX0_bare_X7_at
set_option maxRecDepth 20000 in
theorem ggX0_bare_X7_put : GoodIn wsX0_bare wsX7_put := goodIn_r _ [10] (by decide +kernel) (by decide +kernel)
set_option maxRecDepth 20000 in
theorem gX0_bare_X7_put_n70 : GoodIn wsX0_bare (wsX7_put) := ggX0_bare_X7_put
theorem dX0_bare_0 : decode cX0_bare 0 = .ok (.iload_n 2, 1) := by decide +kernel
theorem dX0_bare_1 : decode cX0_bare 1 = .ok (.iload_n 3, 1) := by decide +kernel
theorem dX0_bare_2 : decode cX0_bare 2 = .ok (.invokestatic 63, 3) := by decide +kernel
theorem dX0_bare_5 : decode cX0_bare 5 = .ok (.istore 4, 2) := by decide +kernel
theorem dX0_bare_7 : decode cX0_bare 7 = .ok (.aload_n 0, 1) := by decide +kernel
theorem dX0_bare_8 : decode cX0_bare 8 = .ok (.getfield 18, 3) := by decide +kernel
theorem dX0_bare_11 : decode cX0_bare 11 = .ok (.iload 4, 2) := by decide +kernel
theorem dX0_bare_13 : decode cX0_bare 13 = .ok (.invokestatic 66, 3) := by decide +kernel
theorem dX0_bare_16 : decode cX0_bare 16 = .ok (.istore 5, 2) := by decide +kernel
theorem dX0_bare_18 : decode cX0_bare 18 = .ok (.aload_n 0, 1) := by decide +kernel
theorem dX0_bare_19 : decode cX0_bare 19 = .ok (.getfield 18, 3) := by decide +kernel
theorem dX0_bare_22 : decode cX0_bare 22 = .ok (.iload 4, 2) := by decide +kernel
theorem dX0_bare_24 : decode cX0_bare 24 = .ok (.iload 5, 2) := by decide +kernel
theorem dX0_bare_26 : decode cX0_bare 26 = .ok (.iconst 1, 1) := by decide +kernel
theorem dX0_bare_27 : decode cX0_bare 27 = .ok (.iload_n 1, 1) := by decide +kernel
theorem dX0_bare_28 : decode cX0_bare 28 = .ok (.ishl, 1) := by decide +kernel
theorem dX0_bare_29 : decode cX0_bare 29 = .ok (.iconst (-1), 1) := by decide +kernel
theorem dX0_bare_30 : decode cX0_bare 30 = .ok (.ixor, 1) := by decide +kernel
theorem dX0_bare_31 : decode cX0_bare 31 = .ok (.iand, 1) := by decide +kernel
theorem dX0_bare_32 : decode cX0_bare 32 = .ok (.invokestatic 70, 3) := by decide +kernel
theorem dX0_bare_35 : decode cX0_bare 35 = .ok (.iload 5, 2) := by decide +kernel
theorem dX0_bare_37 : decode cX0_bare 37 = .ok (.iload_n 1, 1) := by decide +kernel
theorem dX0_bare_38 : decode cX0_bare 38 = .ok (.ishr, 1) := by decide +kernel
theorem dX0_bare_39 : decode cX0_bare 39 = .ok (.iconst 1, 1) := by decide +kernel
theorem dX0_bare_40 : decode cX0_bare 40 = .ok (.iand, 1) := by decide +kernel
theorem dX0_bare_41 : decode cX0_bare 41 = .ok (.iconst 1, 1) := by decide +kernel
theorem dX0_bare_42 : decode cX0_bare 42 = .ok (.if_icmp .ne 7, 3) := by decide +kernel
theorem dX0_bare_45 : decode cX0_bare 45 = .ok (.iconst 1, 1) := by decide +kernel
theorem dX0_bare_46 : decode cX0_bare 46 = .ok (.goto 4, 3) := by decide +kernel
theorem dX0_bare_49 : decode cX0_bare 49 = .ok (.iconst 0, 1) := by decide +kernel
theorem dX0_bare_50 : decode cX0_bare 50 = .ok (.ireturn, 1) := by decide +kernel
theorem dX0_putOut_0 : decode cX0_putOut 0 = .ok (.aload_n 0, 1) := by decide +kernel
theorem dX0_putOut_1 : decode cX0_putOut 1 = .ok (.getfield 40, 3) := by decide +kernel
theorem dX0_putOut_4 : decode cX0_putOut 4 = .ok (.iload_n 1, 1) := by decide +kernel
theorem dX0_putOut_5 : decode cX0_putOut 5 = .ok (.ishr, 1) := by decide +kernel
theorem dX0_putOut_6 : decode cX0_putOut 6 = .ok (.iconst 1, 1) := by decide +kernel
theorem dX0_putOut_7 : decode cX0_putOut 7 = .ok (.iand, 1) := by decide +kernel
theorem dX0_putOut_8 : decode cX0_putOut 8 = .ok (.iconst 1, 1) := by decide +kernel
theorem dX0_putOut_9 : decode cX0_putOut 9 = .ok (.if_icmp .ne 7, 3) := by decide +kernel
theorem dX0_putOut_12 : decode cX0_putOut 12 = .ok (.iconst 1, 1) := by decide +kernel
theorem dX0_putOut_13 : decode cX0_putOut 13 = .ok (.goto 4, 3) := by decide +kernel
theorem dX0_putOut_16 : decode cX0_putOut 16 = .ok (.iconst 0, 1) := by decide +kernel
theorem dX0_putOut_17 : decode cX0_putOut 17 = .ok (.istore_n 3, 1) := by decide +kernel
theorem dX0_putOut_18 : decode cX0_putOut 18 = .ok (.aload_n 0, 1) := by decide +kernel
theorem dX0_putOut_19 : decode cX0_putOut 19 = .ok (.iload_n 2, 1) := by decide +kernel
theorem dX0_putOut_20 : decode cX0_putOut 20 = .ok (.ifCond .eq 14, 3) := by decide +kernel
theorem dX0_putOut_23 : decode cX0_putOut 23 = .ok (.aload_n 0, 1) := by decide +kernel
theorem dX0_putOut_24 : decode cX0_putOut 24 = .ok (.getfield 40, 3) := by decide +kernel
theorem dX0_putOut_27 : decode cX0_putOut 27 = .ok (.iconst 1, 1) := by decide +kernel
theorem dX0_putOut_28 : decode cX0_putOut 28 = .ok (.iload_n 1, 1) := by decide +kernel
theorem dX0_putOut_29 : decode cX0_putOut 29 = .ok (.ishl, 1) := by decide +kernel
theorem dX0_putOut_30 : decode cX0_putOut 30 = .ok (.ior, 1) := by decide +kernel
theorem dX0_putOut_31 : decode cX0_putOut 31 = .ok (.goto 13, 3) := by decide +kernel
theorem dX0_putOut_34 : decode cX0_putOut 34 = .ok (.aload_n 0, 1) := by decide +kernel
theorem dX0_putOut_35 : decode cX0_putOut 35 = .ok (.getfield 40, 3) := by decide +kernel
theorem dX0_putOut_38 : decode cX0_putOut 38 = .ok (.iconst 1, 1) := by decide +kernel
theorem dX0_putOut_39 : decode cX0_putOut 39 = .ok (.iload_n 1, 1) := by decide +kernel
theorem dX0_putOut_40 : decode cX0_putOut 40 = .ok (.ishl, 1) := by decide +kernel
theorem dX0_putOut_41 : decode cX0_putOut 41 = .ok (.iconst (-1), 1) := by decide +kernel
theorem dX0_putOut_42 : decode cX0_putOut 42 = .ok (.ixor, 1) := by decide +kernel
theorem dX0_putOut_43 : decode cX0_putOut 43 = .ok (.iand, 1) := by decide +kernel
theorem dX0_putOut_44 : decode cX0_putOut 44 = .ok (.putfield 40, 3) := by decide +kernel
theorem dX0_putOut_47 : decode cX0_putOut 47 = .ok (.iload_n 3, 1) := by decide +kernel
theorem dX0_putOut_48 : decode cX0_putOut 48 = .ok (.ireturn, 1) := by decide +kernel
theorem dX0_squaresOf_0 : decode cX0_squaresOf 0 = .ok (.iconst 0, 1) := by decide +kernel
theorem dX0_squaresOf_1 : decode cX0_squaresOf 1 = .ok (.istore_n 2, 1) := by decide +kernel
theorem dX0_squaresOf_2 : decode cX0_squaresOf 2 = .ok (.iconst 0, 1) := by decide +kernel
theorem dX0_squaresOf_3 : decode cX0_squaresOf 3 = .ok (.istore_n 3, 1) := by decide +kernel
theorem dX0_squaresOf_4 : decode cX0_squaresOf 4 = .ok (.iload_n 3, 1) := by decide +kernel
theorem dX0_squaresOf_5 : decode cX0_squaresOf 5 = .ok (.aload_n 0, 1) := by decide +kernel
theorem dX0_squaresOf_6 : decode cX0_squaresOf 6 = .ok (.getfield 18, 3) := by decide +kernel
theorem dX0_squaresOf_9 : decode cX0_squaresOf 9 = .ok (.arraylength, 1) := by decide +kernel
theorem dX0_squaresOf_10 : decode cX0_squaresOf 10 = .ok (.if_icmp .ge 22, 3) := by decide +kernel
theorem dX0_squaresOf_13 : decode cX0_squaresOf 13 = .ok (.iload_n 2, 1) := by decide +kernel
theorem dX0_squaresOf_14 : decode cX0_squaresOf 14 = .ok (.aload_n 0, 1) := by decide +kernel
theorem dX0_squaresOf_15 : decode cX0_squaresOf 15 = .ok (.getfield 18, 3) := by decide +kernel
theorem dX0_squaresOf_18 : decode cX0_squaresOf 18 = .ok (.iload_n 3, 1) := by decide +kernel
theorem dX0_squaresOf_19 : decode cX0_squaresOf 19 = .ok (.iaload, 1) := by decide +kernel
theorem dX0_squaresOf_20 : decode cX0_squaresOf 20 = .ok (.iload_n 1, 1) := by decide +kernel
theorem dX0_squaresOf_21 : decode cX0_squaresOf 21 = .ok (.ishr, 1) := by decide +kernel
theorem dX0_squaresOf_22 : decode cX0_squaresOf 22 = .ok (.iconst 1, 1) := by decide +kernel
theorem dX0_squaresOf_23 : decode cX0_squaresOf 23 = .ok (.iand, 1) := by decide +kernel
theorem dX0_squaresOf_24 : decode cX0_squaresOf 24 = .ok (.iadd, 1) := by decide +kernel
theorem dX0_squaresOf_25 : decode cX0_squaresOf 25 = .ok (.istore_n 2, 1) := by decide +kernel
theorem dX0_squaresOf_26 : decode cX0_squaresOf 26 = .ok (.iinc 3 1, 3) := by decide +kernel
theorem dX0_squaresOf_29 : decode cX0_squaresOf 29 = .ok (.goto (-25), 3) := by decide +kernel
theorem dX0_squaresOf_32 : decode cX0_squaresOf 32 = .ok (.iload_n 2, 1) := by decide +kernel
theorem dX0_squaresOf_33 : decode cX0_squaresOf 33 = .ok (.ireturn, 1) := by decide +kernel
set_option maxRecDepth 20000 in
theorem ggX0_thingsOn_X0_isSquare : GoodIn wsX0_thingsOn wsX0_isSquare := goodIn_r _ [7, 8, 9, 10, 11, 12, 18, 19, 20, 21, 22, 23, 24, 25, 26, 27, 28, 29] (by decide +kernel) (by decide +kernel)
set_option maxRecDepth 20000 in
theorem gX0_thingsOn_X0_isSquare : GoodIn wsX0_thingsOn (wsV RX0 74 RX0 yX0_isSquare wsX0_isSquare) := goodIn_app (goodIn_of _ (by decide +kernel)) ggX0_thingsOn_X0_isSquare
set_option maxRecDepth 20000 in
theorem ggX0_thingsOn_X0_squareIndex : GoodIn wsX0_thingsOn wsX0_squareIndex := goodIn_r _ [15] (by decide +kernel) (by decide +kernel)
set_option maxRecDepth 20000 in
theorem gX0_thingsOn_X0_squareIndex : GoodIn wsX0_thingsOn (va_wsS RX0 63 yX0_squareIndex wsX0_squareIndex) := goodIn_app (goodIn_of _ (by decide +kernel)) ggX0_thingsOn_X0_squareIndex
set_option maxRecDepth 20000 in
theorem ggX0_thingsOn_X7_at : GoodIn wsX0_thingsOn wsX7_at := goodIn_r _ [17] (by decide +kernel) (by decide +kernel)
set_option maxRecDepth 20000 in
theorem gX0_thingsOn_X7_at_n66 : GoodIn wsX0_thingsOn (wsX7_at) := ggX0_thingsOn_X7_at
theorem dX0_thingsOn_0 : decode cX0_thingsOn 0 = .ok (.aload_n 0, 1) := by decide +kernel
theorem dX0_thingsOn_1 : decode cX0_thingsOn 1 = .ok (.iload_n 1, 1) := by decide +kernel
theorem dX0_thingsOn_2 : decode cX0_thingsOn 2 = .ok (.iload_n 2, 1) := by decide +kernel
theorem dX0_thingsOn_3 : decode cX0_thingsOn 3 = .ok (.invokevirtual 74, 3) := by decide +kernel
theorem dX0_thingsOn_6 : decode cX0_thingsOn 6 = .ok (.ifCond .eq 25, 3) := by decide +kernel
theorem dX0_thingsOn_9 : decode cX0_thingsOn 9 = .ok (.aload_n 0, 1) := by decide +kernel
theorem dX0_thingsOn_10 : decode cX0_thingsOn 10 = .ok (.getfield 18, 3) := by decide +kernel
theorem dX0_thingsOn_13 : decode cX0_thingsOn 13 = .ok (.iload_n 1, 1) := by decide +kernel
theorem dX0_thingsOn_14 : decode cX0_thingsOn 14 = .ok (.iload_n 2, 1) := by decide +kernel
theorem dX0_thingsOn_15 : decode cX0_thingsOn 15 = .ok (.invokestatic 63, 3) := by decide +kernel
theorem dX0_thingsOn_18 : decode cX0_thingsOn 18 = .ok (.invokestatic 66, 3) := by decide +kernel
theorem dX0_thingsOn_21 : decode cX0_thingsOn 21 = .ok (.aload_n 0, 1) := by decide +kernel
theorem dX0_thingsOn_22 : decode cX0_thingsOn 22 = .ok (.getfield 40, 3) := by decide +kernel
theorem dX0_thingsOn_25 : decode cX0_thingsOn 25 = .ok (.iconst (-1), 1) := by decide +kernel
theorem dX0_thingsOn_26 : decode cX0_thingsOn 26 = .ok (.ixor, 1) := by decide +kernel
theorem dX0_thingsOn_27 : decode cX0_thingsOn 27 = .ok (.iand, 1) := by decide +kernel
theorem dX0_thingsOn_28 : decode cX0_thingsOn 28 = .ok (.goto 4, 3) := by decide +kernel
theorem dX0_thingsOn_31 : decode cX0_thingsOn 31 = .ok (.iconst 0, 1) := by decide +kernel
theorem dX0_thingsOn_32 : decode cX0_thingsOn 32 = .ok (.ireturn, 1) := by decide +kernel
set_option maxRecDepth 20000 in
theorem ggX0_openRow_X0_squareIndex : GoodIn wsX0_openRow wsX0_squareIndex := goodIn_r _ [6] (by decide +kernel) (by decide +kernel)
set_option maxRecDepth 20000 in
theorem gX0_openRow_X0_squareIndex : GoodIn wsX0_openRow (va_wsS RX0 63 yX0_squareIndex wsX0_squareIndex) := goodIn_app (goodIn_of _ (by decide +kernel)) ggX0_openRow_X0_squareIndex
set_option maxRecDepth 20000 in
theorem ggX0_openRow_X7_at : GoodIn wsX0_openRow wsX7_at := goodIn_r _ [9] (by decide +kernel) (by decide +kernel)
set_option maxRecDepth 20000 in
theorem gX0_openRow_X7_at_n66 : GoodIn wsX0_openRow (wsX7_at) := ggX0_openRow_X7_at
theorem dX0_openRow_0 : decode cX0_openRow 0 = .ok (.iconst 0, 1) := by decide +kernel
theorem dX0_openRow_1 : decode cX0_openRow 1 = .ok (.istore_n 3, 1) := by decide +kernel
theorem dX0_openRow_2 : decode cX0_openRow 2 = .ok (.iconst 0, 1) := by decide +kernel
theorem dX0_openRow_3 : decode cX0_openRow 3 = .ok (.istore 4, 2) := by decide +kernel
theorem dX0_openRow_5 : decode cX0_openRow 5 = .ok (.iload 4, 2) := by decide +kernel
theorem dX0_openRow_7 : decode cX0_openRow 7 = .ok (.aload_n 0, 1) := by decide +kernel
theorem dX0_openRow_8 : decode cX0_openRow 8 = .ok (.getfield 9, 3) := by decide +kernel
theorem dX0_openRow_11 : decode cX0_openRow 11 = .ok (.if_icmp .ge 36, 3) := by decide +kernel
theorem dX0_openRow_14 : decode cX0_openRow 14 = .ok (.aload_n 0, 1) := by decide +kernel
theorem dX0_openRow_15 : decode cX0_openRow 15 = .ok (.getfield 18, 3) := by decide +kernel
theorem dX0_openRow_18 : decode cX0_openRow 18 = .ok (.iload 4, 2) := by decide +kernel
theorem dX0_openRow_20 : decode cX0_openRow 20 = .ok (.iload_n 1, 1) := by decide +kernel
theorem dX0_openRow_21 : decode cX0_openRow 21 = .ok (.invokestatic 63, 3) := by decide +kernel
theorem dX0_openRow_24 : decode cX0_openRow 24 = .ok (.invokestatic 66, 3) := by decide +kernel
theorem dX0_openRow_27 : decode cX0_openRow 27 = .ok (.iload_n 2, 1) := by decide +kernel
theorem dX0_openRow_28 : decode cX0_openRow 28 = .ok (.iconst (-1), 1) := by decide +kernel
theorem dX0_openRow_29 : decode cX0_openRow 29 = .ok (.ixor, 1) := by decide +kernel
theorem dX0_openRow_30 : decode cX0_openRow 30 = .ok (.iand, 1) := by decide +kernel
theorem dX0_openRow_31 : decode cX0_openRow 31 = .ok (.ifCond .ne 10, 3) := by decide +kernel
theorem dX0_openRow_34 : decode cX0_openRow 34 = .ok (.iload_n 3, 1) := by decide +kernel
theorem dX0_openRow_35 : decode cX0_openRow 35 = .ok (.iconst 1, 1) := by decide +kernel
theorem dX0_openRow_36 : decode cX0_openRow 36 = .ok (.iload 4, 2) := by decide +kernel
theorem dX0_openRow_38 : decode cX0_openRow 38 = .ok (.ishl, 1) := by decide +kernel
theorem dX0_openRow_39 : decode cX0_openRow 39 = .ok (.ior, 1) := by decide +kernel
theorem dX0_openRow_40 : decode cX0_openRow 40 = .ok (.istore_n 3, 1) := by decide +kernel
theorem dX0_openRow_41 : decode cX0_openRow 41 = .ok (.iinc 4 1, 3) := by decide +kernel
theorem dX0_openRow_44 : decode cX0_openRow 44 = .ok (.goto (-39), 3) := by decide +kernel
theorem dX0_openRow_47 : decode cX0_openRow 47 = .ok (.iload_n 3, 1) := by decide +kernel
theorem dX0_openRow_48 : decode cX0_openRow 48 = .ok (.ireturn, 1) := by decide +kernel
set_option maxRecDepth 20000 in
theorem ggX0_keep_X7_put : GoodIn wsX0_keep wsX7_put := goodIn_r _ [17] (by decide +kernel) (by decide +kernel)
set_option maxRecDepth 20000 in
theorem gX0_keep_X7_put_n70 : GoodIn wsX0_keep (wsX7_put) := ggX0_keep_X7_put
theorem dX0_keep_0 : decode cX0_keep 0 = .ok (.aload_n 0, 1) := by decide +kernel
theorem dX0_keep_1 : decode cX0_keep 1 = .ok (.getfield 50, 3) := by decide +kernel
theorem dX0_keep_4 : decode cX0_keep 4 = .ok (.sipush 400, 3) := by decide +kernel
theorem dX0_keep_7 : decode cX0_keep 7 = .ok (.imul, 1) := by decide +kernel
theorem dX0_keep_8 : decode cX0_keep 8 = .ok (.istore_n 1, 1) := by decide +kernel
theorem dX0_keep_9 : decode cX0_keep 9 = .ok (.iconst 0, 1) := by decide +kernel
theorem dX0_keep_10 : decode cX0_keep 10 = .ok (.istore_n 2, 1) := by decide +kernel
theorem dX0_keep_11 : decode cX0_keep 11 = .ok (.iload_n 2, 1) := by decide +kernel
theorem dX0_keep_12 : decode cX0_keep 12 = .ok (.aload_n 0, 1) := by decide +kernel
theorem dX0_keep_13 : decode cX0_keep 13 = .ok (.getfield 18, 3) := by decide +kernel
theorem dX0_keep_16 : decode cX0_keep 16 = .ok (.arraylength, 1) := by decide +kernel
theorem dX0_keep_17 : decode cX0_keep 17 = .ok (.if_icmp .ge 25, 3) := by decide +kernel
theorem dX0_keep_20 : decode cX0_keep 20 = .ok (.aload_n 0, 1) := by decide +kernel
theorem dX0_keep_21 : decode cX0_keep 21 = .ok (.getfield 22, 3) := by decide +kernel
theorem dX0_keep_24 : decode cX0_keep 24 = .ok (.iload_n 1, 1) := by decide +kernel
theorem dX0_keep_25 : decode cX0_keep 25 = .ok (.iload_n 2, 1) := by decide +kernel
theorem dX0_keep_26 : decode cX0_keep 26 = .ok (.iadd, 1) := by decide +kernel
theorem dX0_keep_27 : decode cX0_keep 27 = .ok (.aload_n 0, 1) := by decide +kernel
theorem dX0_keep_28 : decode cX0_keep 28 = .ok (.getfield 18, 3) := by decide +kernel
theorem dX0_keep_31 : decode cX0_keep 31 = .ok (.iload_n 2, 1) := by decide +kernel
theorem dX0_keep_32 : decode cX0_keep 32 = .ok (.iaload, 1) := by decide +kernel
theorem dX0_keep_33 : decode cX0_keep 33 = .ok (.invokestatic 70, 3) := by decide +kernel
theorem dX0_keep_36 : decode cX0_keep 36 = .ok (.iinc 2 1, 3) := by decide +kernel
theorem dX0_keep_39 : decode cX0_keep 39 = .ok (.goto (-28), 3) := by decide +kernel
theorem dX0_keep_42 : decode cX0_keep 42 = .ok (.aload_n 0, 1) := by decide +kernel
theorem dX0_keep_43 : decode cX0_keep 43 = .ok (.getfield 25, 3) := by decide +kernel
theorem dX0_keep_46 : decode cX0_keep 46 = .ok (.aload_n 0, 1) := by decide +kernel
theorem dX0_keep_47 : decode cX0_keep 47 = .ok (.getfield 50, 3) := by decide +kernel
theorem dX0_keep_50 : decode cX0_keep 50 = .ok (.aload_n 0, 1) := by decide +kernel
theorem dX0_keep_51 : decode cX0_keep 51 = .ok (.getfield 34, 3) := by decide +kernel
theorem dX0_keep_54 : decode cX0_keep 54 = .ok (.invokestatic 70, 3) := by decide +kernel
theorem dX0_keep_57 : decode cX0_keep 57 = .ok (.aload_n 0, 1) := by decide +kernel
theorem dX0_keep_58 : decode cX0_keep 58 = .ok (.getfield 28, 3) := by decide +kernel
theorem dX0_keep_61 : decode cX0_keep 61 = .ok (.aload_n 0, 1) := by decide +kernel
theorem dX0_keep_62 : decode cX0_keep 62 = .ok (.getfield 50, 3) := by decide +kernel
theorem dX0_keep_65 : decode cX0_keep 65 = .ok (.aload_n 0, 1) := by decide +kernel
theorem dX0_keep_66 : decode cX0_keep 66 = .ok (.getfield 37, 3) := by decide +kernel
theorem dX0_keep_69 : decode cX0_keep 69 = .ok (.invokestatic 70, 3) := by decide +kernel
theorem dX0_keep_72 : decode cX0_keep 72 = .ok (.aload_n 0, 1) := by decide +kernel
theorem dX0_keep_73 : decode cX0_keep 73 = .ok (.getfield 31, 3) := by decide +kernel
theorem dX0_keep_76 : decode cX0_keep 76 = .ok (.aload_n 0, 1) := by decide +kernel
theorem dX0_keep_77 : decode cX0_keep 77 = .ok (.getfield 50, 3) := by decide +kernel
theorem dX0_keep_80 : decode cX0_keep 80 = .ok (.aload_n 0, 1) := by decide +kernel
theorem dX0_keep_81 : decode cX0_keep 81 = .ok (.getfield 40, 3) := by decide +kernel
theorem dX0_keep_84 : decode cX0_keep 84 = .ok (.invokestatic 70, 3) := by decide +kernel
theorem dX0_keep_87 : decode cX0_keep 87 = .ok (.aload_n 0, 1) := by decide +kernel
theorem dX0_keep_88 : decode cX0_keep 88 = .ok (.aload_n 0, 1) := by decide +kernel
theorem dX0_keep_89 : decode cX0_keep 89 = .ok (.getfield 50, 3) := by decide +kernel
theorem dX0_keep_92 : decode cX0_keep 92 = .ok (.iconst 1, 1) := by decide +kernel
theorem dX0_keep_93 : decode cX0_keep 93 = .ok (.iadd, 1) := by decide +kernel
theorem dX0_keep_94 : decode cX0_keep 94 = .ok (.bipush 20, 2) := by decide +kernel
theorem dX0_keep_96 : decode cX0_keep 96 = .ok (.irem, 1) := by decide +kernel
theorem dX0_keep_97 : decode cX0_keep 97 = .ok (.putfield 50, 3) := by decide +kernel
theorem dX0_keep_100 : decode cX0_keep 100 = .ok (.aload_n 0, 1) := by decide +kernel
theorem dX0_keep_101 : decode cX0_keep 101 = .ok (.aload_n 0, 1) := by decide +kernel
theorem dX0_keep_102 : decode cX0_keep 102 = .ok (.getfield 47, 3) := by decide +kernel
theorem dX0_keep_105 : decode cX0_keep 105 = .ok (.iconst 1, 1) := by decide +kernel
theorem dX0_keep_106 : decode cX0_keep 106 = .ok (.iadd, 1) := by decide +kernel
theorem dX0_keep_107 : decode cX0_keep 107 = .ok (.bipush 20, 2) := by decide +kernel
theorem dX0_keep_109 : decode cX0_keep 109 = .ok (.invokestatic 57, 3) := by decide +kernel
theorem dX0_keep_112 : decode cX0_keep 112 = .ok (.putfield 47, 3) := by decide +kernel
theorem dX0_keep_115 : decode cX0_keep 115 = .ok (.return_, 1) := by decide +kernel
set_option maxRecDepth 20000 in
theorem ggX0_goBack_X7_at : GoodIn wsX0_goBack wsX7_at := goodIn_r _ [13] (by decide +kernel) (by decide +kernel)
set_option maxRecDepth 20000 in
theorem gX0_goBack_X7_at_n66 : GoodIn wsX0_goBack (wsX7_at) := ggX0_goBack_X7_at
theorem dX0_goBack_0 : decode cX0_goBack 0 = .ok (.aload_n 0, 1) := by decide +kernel
theorem dX0_goBack_1 : decode cX0_goBack 1 = .ok (.aload_n 0, 1) := by decide +kernel
theorem dX0_goBack_2 : decode cX0_goBack 2 = .ok (.getfield 50, 3) := by decide +kernel
theorem dX0_goBack_5 : decode cX0_goBack 5 = .ok (.bipush 20, 2) := by decide +kernel
theorem dX0_goBack_7 : decode cX0_goBack 7 = .ok (.iadd, 1) := by decide +kernel
theorem dX0_goBack_8 : decode cX0_goBack 8 = .ok (.iconst 1, 1) := by decide +kernel
theorem dX0_goBack_9 : decode cX0_goBack 9 = .ok (.isub, 1) := by decide +kernel
theorem dX0_goBack_10 : decode cX0_goBack 10 = .ok (.bipush 20, 2) := by decide +kernel
theorem dX0_goBack_12 : decode cX0_goBack 12 = .ok (.irem, 1) := by decide +kernel
theorem dX0_goBack_13 : decode cX0_goBack 13 = .ok (.putfield 50, 3) := by decide +kernel
theorem dX0_goBack_16 : decode cX0_goBack 16 = .ok (.aload_n 0, 1) := by decide +kernel
theorem dX0_goBack_17 : decode cX0_goBack 17 = .ok (.dup, 1) := by decide +kernel
theorem dX0_goBack_18 : decode cX0_goBack 18 = .ok (.getfield 47, 3) := by decide +kernel
theorem dX0_goBack_21 : decode cX0_goBack 21 = .ok (.iconst 1, 1) := by decide +kernel
theorem dX0_goBack_22 : decode cX0_goBack 22 = .ok (.isub, 1) := by decide +kernel
theorem dX0_goBack_23 : decode cX0_goBack 23 = .ok (.putfield 47, 3) := by decide +kernel
theorem dX0_goBack_26 : decode cX0_goBack 26 = .ok (.aload_n 0, 1) := by decide +kernel
theorem dX0_goBack_27 : decode cX0_goBack 27 = .ok (.getfield 50, 3) := by decide +kernel
theorem dX0_goBack_30 : decode cX0_goBack 30 = .ok (.sipush 400, 3) := by decide +kernel
theorem dX0_goBack_33 : decode cX0_goBack 33 = .ok (.imul, 1) := by decide +kernel
theorem dX0_goBack_34 : decode cX0_goBack 34 = .ok (.istore_n 1, 1) := by decide +kernel
theorem dX0_goBack_35 : decode cX0_goBack 35 = .ok (.iconst 0, 1) := by decide +kernel
theorem dX0_goBack_36 : decode cX0_goBack 36 = .ok (.istore_n 2, 1) := by decide +kernel
theorem dX0_goBack_37 : decode cX0_goBack 37 = .ok (.iload_n 2, 1) := by decide +kernel
theorem dX0_goBack_38 : decode cX0_goBack 38 = .ok (.aload_n 0, 1) := by decide +kernel
theorem dX0_goBack_39 : decode cX0_goBack 39 = .ok (.getfield 18, 3) := by decide +kernel
theorem dX0_goBack_42 : decode cX0_goBack 42 = .ok (.arraylength, 1) := by decide +kernel
theorem dX0_goBack_43 : decode cX0_goBack 43 = .ok (.if_icmp .ge 25, 3) := by decide +kernel
theorem dX0_goBack_46 : decode cX0_goBack 46 = .ok (.aload_n 0, 1) := by decide +kernel
theorem dX0_goBack_47 : decode cX0_goBack 47 = .ok (.getfield 18, 3) := by decide +kernel
theorem dX0_goBack_50 : decode cX0_goBack 50 = .ok (.iload_n 2, 1) := by decide +kernel
theorem dX0_goBack_51 : decode cX0_goBack 51 = .ok (.aload_n 0, 1) := by decide +kernel
theorem dX0_goBack_52 : decode cX0_goBack 52 = .ok (.getfield 22, 3) := by decide +kernel
theorem dX0_goBack_55 : decode cX0_goBack 55 = .ok (.iload_n 1, 1) := by decide +kernel
theorem dX0_goBack_56 : decode cX0_goBack 56 = .ok (.iload_n 2, 1) := by decide +kernel
theorem dX0_goBack_57 : decode cX0_goBack 57 = .ok (.iadd, 1) := by decide +kernel
theorem dX0_goBack_58 : decode cX0_goBack 58 = .ok (.invokestatic 66, 3) := by decide +kernel
theorem dX0_goBack_61 : decode cX0_goBack 61 = .ok (.iastore, 1) := by decide +kernel
theorem dX0_goBack_62 : decode cX0_goBack 62 = .ok (.iinc 2 1, 3) := by decide +kernel
theorem dX0_goBack_65 : decode cX0_goBack 65 = .ok (.goto (-28), 3) := by decide +kernel
theorem dX0_goBack_68 : decode cX0_goBack 68 = .ok (.aload_n 0, 1) := by decide +kernel
theorem dX0_goBack_69 : decode cX0_goBack 69 = .ok (.aload_n 0, 1) := by decide +kernel
theorem dX0_goBack_70 : decode cX0_goBack 70 = .ok (.getfield 25, 3) := by decide +kernel
theorem dX0_goBack_73 : decode cX0_goBack 73 = .ok (.aload_n 0, 1) := by decide +kernel
theorem dX0_goBack_74 : decode cX0_goBack 74 = .ok (.getfield 50, 3) := by decide +kernel
theorem dX0_goBack_77 : decode cX0_goBack 77 = .ok (.invokestatic 66, 3) := by decide +kernel
theorem dX0_goBack_80 : decode cX0_goBack 80 = .ok (.putfield 34, 3) := by decide +kernel
theorem dX0_goBack_83 : decode cX0_goBack 83 = .ok (.aload_n 0, 1) := by decide +kernel
theorem dX0_goBack_84 : decode cX0_goBack 84 = .ok (.aload_n 0, 1) := by decide +kernel
theorem dX0_goBack_85 : decode cX0_goBack 85 = .ok (.getfield 28, 3) := by decide +kernel
theorem dX0_goBack_88 : decode cX0_goBack 88 = .ok (.aload_n 0, 1) := by decide +kernel
theorem dX0_goBack_89 : decode cX0_goBack 89 = .ok (.getfield 50, 3) := by decide +kernel
theorem dX0_goBack_92 : decode cX0_goBack 92 = .ok (.invokestatic 66, 3) := by decide +kernel
theorem dX0_goBack_95 : decode cX0_goBack 95 = .ok (.putfield 37, 3) := by decide +kernel
theorem dX0_goBack_98 : decode cX0_goBack 98 = .ok (.aload_n 0, 1) := by decide +kernel
theorem dX0_goBack_99 : decode cX0_goBack 99 = .ok (.aload_n 0, 1) := by decide +kernel
theorem dX0_goBack_100 : decode cX0_goBack 100 = .ok (.getfield 31, 3) := by decide +kernel
theorem dX0_goBack_103 : decode cX0_goBack 103 = .ok (.aload_n 0, 1) := by decide +kernel
theorem dX0_goBack_104 : decode cX0_goBack 104 = .ok (.getfield 50, 3) := by decide +kernel
theorem dX0_goBack_107 : decode cX0_goBack 107 = .ok (.invokestatic 66, 3) := by decide +kernel
theorem dX0_goBack_110 : decode cX0_goBack 110 = .ok (.putfield 40, 3) := by decide +kernel
theorem dX0_goBack_113 : decode cX0_goBack 113 = .ok (.return_, 1) := by decide +kernel
theorem dX0_squareIndex_0 : decode cX0_squareIndex 0 = .ok (.iload_n 1, 1) := by decide +kernel
theorem dX0_squareIndex_1 : decode cX0_squareIndex 1 = .ok (.bipush 20, 2) := by decide +kernel
theorem dX0_squareIndex_3 : decode cX0_squareIndex 3 = .ok (.imul, 1) := by decide +kernel
theorem dX0_squareIndex_4 : decode cX0_squareIndex 4 = .ok (.iload_n 0, 1) := by decide +kernel
theorem dX0_squareIndex_5 : decode cX0_squareIndex 5 = .ok (.iadd, 1) := by decide +kernel
theorem dX0_squareIndex_6 : decode cX0_squareIndex 6 = .ok (.ireturn, 1) := by decide +kernel
theorem dX1_init_0 : decode cX1_init 0 = .ok (.aload_n 0, 1) := by decide +kernel
theorem dX1_init_1 : decode cX1_init 1 = .ok (.invokespecial 3, 3) := by decide +kernel
theorem dX1_init_4 : decode cX1_init 4 = .ok (.aload_n 0, 1) := by decide +kernel
theorem dX1_init_5 : decode cX1_init 5 = .ok (.bipush 20, 2) := by decide +kernel
theorem dX1_init_7 : decode cX1_init 7 = .ok (.newarray .int, 2) := by decide +kernel
theorem dX1_init_9 : decode cX1_init 9 = .ok (.putfield 9, 3) := by decide +kernel
theorem dX1_init_12 : decode cX1_init 12 = .ok (.aload_n 0, 1) := by decide +kernel
theorem dX1_init_13 : decode cX1_init 13 = .ok (.bipush 20, 2) := by decide +kernel
theorem dX1_init_15 : decode cX1_init 15 = .ok (.newarray .int, 2) := by decide +kernel
theorem dX1_init_17 : decode cX1_init 17 = .ok (.putfield 15, 3) := by decide +kernel
theorem dX1_init_20 : decode cX1_init 20 = .ok (.aload_n 0, 1) := by decide +kernel
theorem dX1_init_21 : decode cX1_init 21 = .ok (.bipush 105, 2) := by decide +kernel
theorem dX1_init_23 : decode cX1_init 23 = .ok (.newarray .int, 2) := by decide +kernel
theorem dX1_init_25 : decode cX1_init 25 = .ok (.putfield 18, 3) := by decide +kernel
theorem dX1_init_28 : decode cX1_init 28 = .ok (.return_, 1) := by decide +kernel
set_option maxRecDepth 20000 in
theorem ggX1_lay_X7_fillWith : GoodIn wsX1_lay wsX7_fillWith := goodIn_r _ [8] (by decide +kernel) (by decide +kernel)
set_option maxRecDepth 20000 in
theorem gX1_lay_X7_fillWith_n32 : GoodIn wsX1_lay (wsX7_fillWith) := ggX1_lay_X7_fillWith
set_option maxRecDepth 20000 in
theorem ggX1_lay_X0_openRow : GoodIn wsX1_lay wsX0_openRow := goodIn_r _ [13, 14, 15, 16, 17, 12, 18, 19, 7, 20, 23, 24, 25, 26, 27, 28, 29, 30, 31, 32, 33, 34] (by decide +kernel) (by decide +kernel)
set_option maxRecDepth 20000 in
theorem gX1_lay_X0_openRow : GoodIn wsX1_lay (wsV RX1 36 RX0 yX0_openRow wsX0_openRow) := goodIn_app (goodIn_of _ (by decide +kernel)) ggX1_lay_X0_openRow
set_option maxRecDepth 20000 in
theorem ggX1_lay_X7_put : GoodIn wsX1_lay wsX7_put := goodIn_r _ [22] (by decide +kernel) (by decide +kernel)
set_option maxRecDepth 20000 in
theorem gX1_lay_X7_put_n40 : GoodIn wsX1_lay (wsX7_put) := ggX1_lay_X7_put
theorem dX1_lay_0 : decode cX1_lay 0 = .ok (.aload_n 0, 1) := by decide +kernel
theorem dX1_lay_1 : decode cX1_lay 1 = .ok (.aload_n 1, 1) := by decide +kernel
theorem dX1_lay_2 : decode cX1_lay 2 = .ok (.getfield 21, 3) := by decide +kernel
theorem dX1_lay_5 : decode cX1_lay 5 = .ok (.putfield 27, 3) := by decide +kernel
theorem dX1_lay_8 : decode cX1_lay 8 = .ok (.aload_n 0, 1) := by decide +kernel
theorem dX1_lay_9 : decode cX1_lay 9 = .ok (.aload_n 1, 1) := by decide +kernel
theorem dX1_lay_10 : decode cX1_lay 10 = .ok (.getfield 28, 3) := by decide +kernel
theorem dX1_lay_13 : decode cX1_lay 13 = .ok (.putfield 31, 3) := by decide +kernel
theorem dX1_lay_16 : decode cX1_lay 16 = .ok (.aload_n 0, 1) := by decide +kernel
theorem dX1_lay_17 : decode cX1_lay 17 = .ok (.getfield 9, 3) := by decide +kernel
theorem dX1_lay_20 : decode cX1_lay 20 = .ok (.iconst 0, 1) := by decide +kernel
theorem dX1_lay_21 : decode cX1_lay 21 = .ok (.invokestatic 32, 3) := by decide +kernel
theorem dX1_lay_24 : decode cX1_lay 24 = .ok (.iconst 0, 1) := by decide +kernel
theorem dX1_lay_25 : decode cX1_lay 25 = .ok (.istore_n 3, 1) := by decide +kernel
theorem dX1_lay_26 : decode cX1_lay 26 = .ok (.iload_n 3, 1) := by decide +kernel
theorem dX1_lay_27 : decode cX1_lay 27 = .ok (.aload_n 0, 1) := by decide +kernel
theorem dX1_lay_28 : decode cX1_lay 28 = .ok (.getfield 31, 3) := by decide +kernel
theorem dX1_lay_31 : decode cX1_lay 31 = .ok (.if_icmp .ge 23, 3) := by decide +kernel
theorem dX1_lay_34 : decode cX1_lay 34 = .ok (.aload_n 0, 1) := by decide +kernel
theorem dX1_lay_35 : decode cX1_lay 35 = .ok (.getfield 9, 3) := by decide +kernel
theorem dX1_lay_38 : decode cX1_lay 38 = .ok (.iload_n 3, 1) := by decide +kernel
theorem dX1_lay_39 : decode cX1_lay 39 = .ok (.aload_n 1, 1) := by decide +kernel
theorem dX1_lay_40 : decode cX1_lay 40 = .ok (.iload_n 3, 1) := by decide +kernel
theorem dX1_lay_41 : decode cX1_lay 41 = .ok (.iload_n 2, 1) := by decide +kernel
theorem dX1_lay_42 : decode cX1_lay 42 = .ok (.invokevirtual 36, 3) := by decide +kernel
theorem dX1_lay_45 : decode cX1_lay 45 = .ok (.invokestatic 40, 3) := by decide +kernel
theorem dX1_lay_48 : decode cX1_lay 48 = .ok (.iinc 3 1, 3) := by decide +kernel
theorem dX1_lay_51 : decode cX1_lay 51 = .ok (.goto (-25), 3) := by decide +kernel
theorem dX1_lay_54 : decode cX1_lay 54 = .ok (.return_, 1) := by decide +kernel
set_option maxRecDepth 20000 in
theorem ggX1_grow_X7_at : GoodIn wsX1_grow wsX7_at := goodIn_r _ [5] (by decide +kernel) (by decide +kernel)
set_option maxRecDepth 20000 in
theorem gX1_grow_X7_at_n44 : GoodIn wsX1_grow (wsX7_at) := ggX1_grow_X7_at
set_option maxRecDepth 20000 in
theorem ggX1_grow_X7_put : GoodIn wsX1_grow wsX7_put := goodIn_r _ [7] (by decide +kernel) (by decide +kernel)
set_option maxRecDepth 20000 in
theorem gX1_grow_X7_put_n40 : GoodIn wsX1_grow (wsX7_put) := ggX1_grow_X7_put
theorem dX1_grow_0 : decode cX1_grow 0 = .ok (.iconst 0, 1) := by decide +kernel
theorem dX1_grow_1 : decode cX1_grow 1 = .ok (.istore_n 1, 1) := by decide +kernel
theorem dX1_grow_2 : decode cX1_grow 2 = .ok (.iload_n 1, 1) := by decide +kernel
theorem dX1_grow_3 : decode cX1_grow 3 = .ok (.aload_n 0, 1) := by decide +kernel
theorem dX1_grow_4 : decode cX1_grow 4 = .ok (.getfield 15, 3) := by decide +kernel
theorem dX1_grow_7 : decode cX1_grow 7 = .ok (.arraylength, 1) := by decide +kernel
theorem dX1_grow_8 : decode cX1_grow 8 = .ok (.if_icmp .ge 55, 3) := by decide +kernel
theorem dX1_grow_11 : decode cX1_grow 11 = .ok (.aload_n 0, 1) := by decide +kernel
theorem dX1_grow_12 : decode cX1_grow 12 = .ok (.getfield 9, 3) := by decide +kernel
theorem dX1_grow_15 : decode cX1_grow 15 = .ok (.iload_n 1, 1) := by decide +kernel
theorem dX1_grow_16 : decode cX1_grow 16 = .ok (.iconst 1, 1) := by decide +kernel
theorem dX1_grow_17 : decode cX1_grow 17 = .ok (.isub, 1) := by decide +kernel
theorem dX1_grow_18 : decode cX1_grow 18 = .ok (.invokestatic 44, 3) := by decide +kernel
theorem dX1_grow_21 : decode cX1_grow 21 = .ok (.aload_n 0, 1) := by decide +kernel
theorem dX1_grow_22 : decode cX1_grow 22 = .ok (.getfield 9, 3) := by decide +kernel
theorem dX1_grow_25 : decode cX1_grow 25 = .ok (.iload_n 1, 1) := by decide +kernel
theorem dX1_grow_26 : decode cX1_grow 26 = .ok (.invokestatic 44, 3) := by decide +kernel
theorem dX1_grow_29 : decode cX1_grow 29 = .ok (.iand, 1) := by decide +kernel
theorem dX1_grow_30 : decode cX1_grow 30 = .ok (.aload_n 0, 1) := by decide +kernel
theorem dX1_grow_31 : decode cX1_grow 31 = .ok (.getfield 9, 3) := by decide +kernel
theorem dX1_grow_34 : decode cX1_grow 34 = .ok (.iload_n 1, 1) := by decide +kernel
theorem dX1_grow_35 : decode cX1_grow 35 = .ok (.iconst 1, 1) := by decide +kernel
theorem dX1_grow_36 : decode cX1_grow 36 = .ok (.iadd, 1) := by decide +kernel
theorem dX1_grow_37 : decode cX1_grow 37 = .ok (.invokestatic 44, 3) := by decide +kernel
theorem dX1_grow_40 : decode cX1_grow 40 = .ok (.iand, 1) := by decide +kernel
theorem dX1_grow_41 : decode cX1_grow 41 = .ok (.istore_n 2, 1) := by decide +kernel
theorem dX1_grow_42 : decode cX1_grow 42 = .ok (.aload_n 0, 1) := by decide +kernel
theorem dX1_grow_43 : decode cX1_grow 43 = .ok (.getfield 15, 3) := by decide +kernel
theorem dX1_grow_46 : decode cX1_grow 46 = .ok (.iload_n 1, 1) := by decide +kernel
theorem dX1_grow_47 : decode cX1_grow 47 = .ok (.iload_n 2, 1) := by decide +kernel
theorem dX1_grow_48 : decode cX1_grow 48 = .ok (.iload_n 2, 1) := by decide +kernel
theorem dX1_grow_49 : decode cX1_grow 49 = .ok (.iconst 1, 1) := by decide +kernel
theorem dX1_grow_50 : decode cX1_grow 50 = .ok (.ishl, 1) := by decide +kernel
theorem dX1_grow_51 : decode cX1_grow 51 = .ok (.iand, 1) := by decide +kernel
theorem dX1_grow_52 : decode cX1_grow 52 = .ok (.iload_n 2, 1) := by decide +kernel
theorem dX1_grow_53 : decode cX1_grow 53 = .ok (.iconst 1, 1) := by decide +kernel
theorem dX1_grow_54 : decode cX1_grow 54 = .ok (.ishr, 1) := by decide +kernel
theorem dX1_grow_55 : decode cX1_grow 55 = .ok (.iand, 1) := by decide +kernel
theorem dX1_grow_56 : decode cX1_grow 56 = .ok (.iastore, 1) := by decide +kernel
theorem dX1_grow_57 : decode cX1_grow 57 = .ok (.iinc 1 1, 3) := by decide +kernel
theorem dX1_grow_60 : decode cX1_grow 60 = .ok (.goto (-58), 3) := by decide +kernel
theorem dX1_grow_63 : decode cX1_grow 63 = .ok (.iconst 0, 1) := by decide +kernel
theorem dX1_grow_64 : decode cX1_grow 64 = .ok (.istore_n 1, 1) := by decide +kernel
theorem dX1_grow_65 : decode cX1_grow 65 = .ok (.iload_n 1, 1) := by decide +kernel
theorem dX1_grow_66 : decode cX1_grow 66 = .ok (.aload_n 0, 1) := by decide +kernel
theorem dX1_grow_67 : decode cX1_grow 67 = .ok (.getfield 15, 3) := by decide +kernel
theorem dX1_grow_70 : decode cX1_grow 70 = .ok (.arraylength, 1) := by decide +kernel
theorem dX1_grow_71 : decode cX1_grow 71 = .ok (.if_icmp .ge 23, 3) := by decide +kernel
theorem dX1_grow_74 : decode cX1_grow 74 = .ok (.aload_n 0, 1) := by decide +kernel
theorem dX1_grow_75 : decode cX1_grow 75 = .ok (.getfield 9, 3) := by decide +kernel
theorem dX1_grow_78 : decode cX1_grow 78 = .ok (.iload_n 1, 1) := by decide +kernel
theorem dX1_grow_79 : decode cX1_grow 79 = .ok (.aload_n 0, 1) := by decide +kernel
theorem dX1_grow_80 : decode cX1_grow 80 = .ok (.getfield 15, 3) := by decide +kernel
theorem dX1_grow_83 : decode cX1_grow 83 = .ok (.iload_n 1, 1) := by decide +kernel
theorem dX1_grow_84 : decode cX1_grow 84 = .ok (.iaload, 1) := by decide +kernel
theorem dX1_grow_85 : decode cX1_grow 85 = .ok (.invokestatic 40, 3) := by decide +kernel
theorem dX1_grow_88 : decode cX1_grow 88 = .ok (.iinc 1 1, 3) := by decide +kernel
theorem dX1_grow_91 : decode cX1_grow 91 = .ok (.goto (-26), 3) := by decide +kernel
theorem dX1_grow_94 : decode cX1_grow 94 = .ok (.return_, 1) := by decide +kernel
set_option maxRecDepth 20000 in
theorem ggX1_mark_X1_fittingRow : GoodIn wsX1_mark wsX1_fittingRow := goodIn_r _ [7, 8, 9, 10, 11, 12, 13, 14, 15, 16, 17, 18, 19, 20, 21, 22, 23, 24, 25, 26, 27, 28, 31, 32, 33, 34, 35, 36, 37, 38] (by decide +kernel) (by decide +kernel)
set_option maxRecDepth 20000 in
theorem gX1_mark_X1_fittingRow : GoodIn wsX1_mark (wsV RX1 48 RX1 yX1_fittingRow wsX1_fittingRow) := goodIn_app (goodIn_of _ (by decide +kernel)) ggX1_mark_X1_fittingRow
set_option maxRecDepth 20000 in
theorem ggX1_mark_X7_put : GoodIn wsX1_mark wsX7_put := goodIn_r _ [30] (by decide +kernel) (by decide +kernel)
set_option maxRecDepth 20000 in
theorem gX1_mark_X7_put_n40 : GoodIn wsX1_mark (wsX7_put) := ggX1_mark_X7_put
theorem dX1_mark_0 : decode cX1_mark 0 = .ok (.iconst 0, 1) := by decide +kernel
theorem dX1_mark_1 : decode cX1_mark 1 = .ok (.istore_n 2, 1) := by decide +kernel
theorem dX1_mark_2 : decode cX1_mark 2 = .ok (.iload_n 2, 1) := by decide +kernel
theorem dX1_mark_3 : decode cX1_mark 3 = .ok (.iconst 5, 1) := by decide +kernel
theorem dX1_mark_4 : decode cX1_mark 4 = .ok (.if_icmp .ge 45, 3) := by decide +kernel
theorem dX1_mark_7 : decode cX1_mark 7 = .ok (.iconst 0, 1) := by decide +kernel
theorem dX1_mark_8 : decode cX1_mark 8 = .ok (.istore_n 3, 1) := by decide +kernel
theorem dX1_mark_9 : decode cX1_mark 9 = .ok (.iload_n 3, 1) := by decide +kernel
theorem dX1_mark_10 : decode cX1_mark 10 = .ok (.aload_n 0, 1) := by decide +kernel
theorem dX1_mark_11 : decode cX1_mark 11 = .ok (.getfield 31, 3) := by decide +kernel
theorem dX1_mark_14 : decode cX1_mark 14 = .ok (.if_icmp .gt 29, 3) := by decide +kernel
theorem dX1_mark_17 : decode cX1_mark 17 = .ok (.aload_n 0, 1) := by decide +kernel
theorem dX1_mark_18 : decode cX1_mark 18 = .ok (.getfield 18, 3) := by decide +kernel
theorem dX1_mark_21 : decode cX1_mark 21 = .ok (.iload_n 2, 1) := by decide +kernel
theorem dX1_mark_22 : decode cX1_mark 22 = .ok (.bipush 21, 2) := by decide +kernel
theorem dX1_mark_24 : decode cX1_mark 24 = .ok (.imul, 1) := by decide +kernel
theorem dX1_mark_25 : decode cX1_mark 25 = .ok (.iload_n 3, 1) := by decide +kernel
theorem dX1_mark_26 : decode cX1_mark 26 = .ok (.iadd, 1) := by decide +kernel
theorem dX1_mark_27 : decode cX1_mark 27 = .ok (.aload_n 0, 1) := by decide +kernel
theorem dX1_mark_28 : decode cX1_mark 28 = .ok (.aload_n 1, 1) := by decide +kernel
theorem dX1_mark_29 : decode cX1_mark 29 = .ok (.iload_n 2, 1) := by decide +kernel
theorem dX1_mark_30 : decode cX1_mark 30 = .ok (.iload_n 3, 1) := by decide +kernel
theorem dX1_mark_31 : decode cX1_mark 31 = .ok (.invokevirtual 48, 3) := by decide +kernel
theorem dX1_mark_34 : decode cX1_mark 34 = .ok (.invokestatic 40, 3) := by decide +kernel
theorem dX1_mark_37 : decode cX1_mark 37 = .ok (.iinc 3 1, 3) := by decide +kernel
theorem dX1_mark_40 : decode cX1_mark 40 = .ok (.goto (-31), 3) := by decide +kernel
theorem dX1_mark_43 : decode cX1_mark 43 = .ok (.iinc 2 1, 3) := by decide +kernel
theorem dX1_mark_46 : decode cX1_mark 46 = .ok (.goto (-44), 3) := by decide +kernel
theorem dX1_mark_49 : decode cX1_mark 49 = .ok (.return_, 1) := by decide +kernel
set_option maxRecDepth 20000 in
theorem ggX1_fittingRow_X6_sizeOf : GoodIn wsX1_fittingRow wsX6_sizeOf := goodIn_r _ [7, 8, 9, 10, 11, 27, 28, 29] (by decide +kernel) (by decide +kernel)
set_option maxRecDepth 20000 in
theorem gX1_fittingRow_X6_sizeOf : GoodIn wsX1_fittingRow (wsV RX1 52 RX6 yX6_sizeOf wsX6_sizeOf) := goodIn_app (goodIn_of _ (by decide +kernel)) ggX1_fittingRow_X6_sizeOf
set_option maxRecDepth 20000 in
theorem ggX1_fittingRow_X6_upOf : GoodIn wsX1_fittingRow wsX6_upOf := goodIn_r _ [15, 16, 9, 10, 11, 27, 28, 29] (by decide +kernel) (by decide +kernel)
set_option maxRecDepth 20000 in
theorem gX1_fittingRow_X6_upOf : GoodIn wsX1_fittingRow (wsV RX1 58 RX6 yX6_upOf wsX6_upOf) := goodIn_app (goodIn_of _ (by decide +kernel)) ggX1_fittingRow_X6_upOf
set_option maxRecDepth 20000 in
theorem ggX1_fittingRow_X7_at : GoodIn wsX1_fittingRow wsX7_at := goodIn_r _ [11] (by decide +kernel) (by decide +kernel)
set_option maxRecDepth 20000 in
theorem gX1_fittingRow_X7_at_n44 : GoodIn wsX1_fittingRow (wsX7_at) := ggX1_fittingRow_X7_at
set_option maxRecDepth 20000 in
theorem ggX1_fittingRow_X6_alongOf : GoodIn wsX1_fittingRow wsX6_alongOf := goodIn_r _ [20, 21, 9, 10, 11, 27, 28, 29] (by decide +kernel) (by decide +kernel)
set_option maxRecDepth 20000 in
theorem gX1_fittingRow_X6_alongOf : GoodIn wsX1_fittingRow (wsV RX1 61 RX6 yX6_alongOf wsX6_alongOf) := goodIn_app (goodIn_of _ (by decide +kernel)) ggX1_fittingRow_X6_alongOf
theorem dX1_fittingRow_0 : decode cX1_fittingRow 0 = .ok (.aload_n 1, 1) := by decide +kernel
theorem dX1_fittingRow_1 : decode cX1_fittingRow 1 = .ok (.iload_n 2, 1) := by decide +kernel
theorem dX1_fittingRow_2 : decode cX1_fittingRow 2 = .ok (.invokevirtual 52, 3) := by decide +kernel
theorem dX1_fittingRow_5 : decode cX1_fittingRow 5 = .ok (.istore 4, 2) := by decide +kernel
theorem dX1_fittingRow_7 : decode cX1_fittingRow 7 = .ok (.iconst 1, 1) := by decide +kernel
theorem dX1_fittingRow_8 : decode cX1_fittingRow 8 = .ok (.aload_n 0, 1) := by decide +kernel
theorem dX1_fittingRow_9 : decode cX1_fittingRow 9 = .ok (.getfield 27, 3) := by decide +kernel
theorem dX1_fittingRow_12 : decode cX1_fittingRow 12 = .ok (.iconst 1, 1) := by decide +kernel
theorem dX1_fittingRow_13 : decode cX1_fittingRow 13 = .ok (.iadd, 1) := by decide +kernel
theorem dX1_fittingRow_14 : decode cX1_fittingRow 14 = .ok (.ishl, 1) := by decide +kernel
theorem dX1_fittingRow_15 : decode cX1_fittingRow 15 = .ok (.iconst 1, 1) := by decide +kernel
theorem dX1_fittingRow_16 : decode cX1_fittingRow 16 = .ok (.isub, 1) := by decide +kernel
theorem dX1_fittingRow_17 : decode cX1_fittingRow 17 = .ok (.istore 5, 2) := by decide +kernel
theorem dX1_fittingRow_19 : decode cX1_fittingRow 19 = .ok (.iconst 0, 1) := by decide +kernel
theorem dX1_fittingRow_20 : decode cX1_fittingRow 20 = .ok (.istore 6, 2) := by decide +kernel
theorem dX1_fittingRow_22 : decode cX1_fittingRow 22 = .ok (.iload 6, 2) := by decide +kernel
theorem dX1_fittingRow_24 : decode cX1_fittingRow 24 = .ok (.iload 4, 2) := by decide +kernel
theorem dX1_fittingRow_26 : decode cX1_fittingRow 26 = .ok (.if_icmp .ge 65, 3) := by decide +kernel
theorem dX1_fittingRow_29 : decode cX1_fittingRow 29 = .ok (.iload 5, 2) := by decide +kernel
theorem dX1_fittingRow_31 : decode cX1_fittingRow 31 = .ok (.ifCond .eq 60, 3) := by decide +kernel
theorem dX1_fittingRow_34 : decode cX1_fittingRow 34 = .ok (.aload_n 0, 1) := by decide +kernel
theorem dX1_fittingRow_35 : decode cX1_fittingRow 35 = .ok (.getfield 9, 3) := by decide +kernel
theorem dX1_fittingRow_38 : decode cX1_fittingRow 38 = .ok (.iload_n 3, 1) := by decide +kernel
theorem dX1_fittingRow_39 : decode cX1_fittingRow 39 = .ok (.aload_n 1, 1) := by decide +kernel
theorem dX1_fittingRow_40 : decode cX1_fittingRow 40 = .ok (.iload_n 2, 1) := by decide +kernel
theorem dX1_fittingRow_41 : decode cX1_fittingRow 41 = .ok (.iload 6, 2) := by decide +kernel
theorem dX1_fittingRow_43 : decode cX1_fittingRow 43 = .ok (.invokevirtual 58, 3) := by decide +kernel
theorem dX1_fittingRow_46 : decode cX1_fittingRow 46 = .ok (.iadd, 1) := by decide +kernel
theorem dX1_fittingRow_47 : decode cX1_fittingRow 47 = .ok (.invokestatic 44, 3) := by decide +kernel
theorem dX1_fittingRow_50 : decode cX1_fittingRow 50 = .ok (.istore 7, 2) := by decide +kernel
theorem dX1_fittingRow_52 : decode cX1_fittingRow 52 = .ok (.aload_n 1, 1) := by decide +kernel
theorem dX1_fittingRow_53 : decode cX1_fittingRow 53 = .ok (.iload_n 2, 1) := by decide +kernel
theorem dX1_fittingRow_54 : decode cX1_fittingRow 54 = .ok (.iload 6, 2) := by decide +kernel
theorem dX1_fittingRow_56 : decode cX1_fittingRow 56 = .ok (.invokevirtual 61, 3) := by decide +kernel
theorem dX1_fittingRow_59 : decode cX1_fittingRow 59 = .ok (.istore 8, 2) := by decide +kernel
theorem dX1_fittingRow_61 : decode cX1_fittingRow 61 = .ok (.iload 5, 2) := by decide +kernel
theorem dX1_fittingRow_63 : decode cX1_fittingRow 63 = .ok (.iload 8, 2) := by decide +kernel
theorem dX1_fittingRow_65 : decode cX1_fittingRow 65 = .ok (.ifCond .lt 11, 3) := by decide +kernel
theorem dX1_fittingRow_68 : decode cX1_fittingRow 68 = .ok (.iload 7, 2) := by decide +kernel
theorem dX1_fittingRow_70 : decode cX1_fittingRow 70 = .ok (.iload 8, 2) := by decide +kernel
theorem dX1_fittingRow_72 : decode cX1_fittingRow 72 = .ok (.ishr, 1) := by decide +kernel
theorem dX1_fittingRow_73 : decode cX1_fittingRow 73 = .ok (.goto 9, 3) := by decide +kernel
theorem dX1_fittingRow_76 : decode cX1_fittingRow 76 = .ok (.iload 7, 2) := by decide +kernel
theorem dX1_fittingRow_78 : decode cX1_fittingRow 78 = .ok (.iload 8, 2) := by decide +kernel
theorem dX1_fittingRow_80 : decode cX1_fittingRow 80 = .ok (.ineg, 1) := by decide +kernel
theorem dX1_fittingRow_81 : decode cX1_fittingRow 81 = .ok (.ishl, 1) := by decide +kernel
theorem dX1_fittingRow_82 : decode cX1_fittingRow 82 = .ok (.iand, 1) := by decide +kernel
theorem dX1_fittingRow_83 : decode cX1_fittingRow 83 = .ok (.istore 5, 2) := by decide +kernel
theorem dX1_fittingRow_85 : decode cX1_fittingRow 85 = .ok (.iinc 6 1, 3) := by decide +kernel
theorem dX1_fittingRow_88 : decode cX1_fittingRow 88 = .ok (.goto (-66), 3) := by decide +kernel
theorem dX1_fittingRow_91 : decode cX1_fittingRow 91 = .ok (.iload 5, 2) := by decide +kernel
theorem dX1_fittingRow_93 : decode cX1_fittingRow 93 = .ok (.ireturn, 1) := by decide +kernel
set_option maxRecDepth 20000 in
theorem ggX1_fits_X7_at : GoodIn wsX1_fits wsX7_at := goodIn_r _ [6] (by decide +kernel) (by decide +kernel)
set_option maxRecDepth 20000 in
theorem gX1_fits_X7_at_n44 : GoodIn wsX1_fits (wsX7_at) := ggX1_fits_X7_at
theorem dX1_fits_0 : decode cX1_fits 0 = .ok (.iload_n 2, 1) := by decide +kernel
theorem dX1_fits_1 : decode cX1_fits 1 = .ok (.ifCond .lt 23, 3) := by decide +kernel
theorem dX1_fits_4 : decode cX1_fits 4 = .ok (.iload_n 2, 1) := by decide +kernel
theorem dX1_fits_5 : decode cX1_fits 5 = .ok (.aload_n 0, 1) := by decide +kernel
theorem dX1_fits_6 : decode cX1_fits 6 = .ok (.getfield 27, 3) := by decide +kernel
theorem dX1_fits_9 : decode cX1_fits 9 = .ok (.if_icmp .gt 15, 3) := by decide +kernel
theorem dX1_fits_12 : decode cX1_fits 12 = .ok (.iload_n 3, 1) := by decide +kernel
theorem dX1_fits_13 : decode cX1_fits 13 = .ok (.ifCond .lt 11, 3) := by decide +kernel
theorem dX1_fits_16 : decode cX1_fits 16 = .ok (.iload_n 3, 1) := by decide +kernel
theorem dX1_fits_17 : decode cX1_fits 17 = .ok (.aload_n 0, 1) := by decide +kernel
theorem dX1_fits_18 : decode cX1_fits 18 = .ok (.getfield 31, 3) := by decide +kernel
theorem dX1_fits_21 : decode cX1_fits 21 = .ok (.if_icmp .le 5, 3) := by decide +kernel
theorem dX1_fits_24 : decode cX1_fits 24 = .ok (.iconst 0, 1) := by decide +kernel
theorem dX1_fits_25 : decode cX1_fits 25 = .ok (.ireturn, 1) := by decide +kernel
theorem dX1_fits_26 : decode cX1_fits 26 = .ok (.aload_n 0, 1) := by decide +kernel
theorem dX1_fits_27 : decode cX1_fits 27 = .ok (.getfield 18, 3) := by decide +kernel
theorem dX1_fits_30 : decode cX1_fits 30 = .ok (.iload_n 1, 1) := by decide +kernel
theorem dX1_fits_31 : decode cX1_fits 31 = .ok (.bipush 21, 2) := by decide +kernel
theorem dX1_fits_33 : decode cX1_fits 33 = .ok (.imul, 1) := by decide +kernel
theorem dX1_fits_34 : decode cX1_fits 34 = .ok (.iload_n 3, 1) := by decide +kernel
theorem dX1_fits_35 : decode cX1_fits 35 = .ok (.iadd, 1) := by decide +kernel
theorem dX1_fits_36 : decode cX1_fits 36 = .ok (.invokestatic 44, 3) := by decide +kernel
theorem dX1_fits_39 : decode cX1_fits 39 = .ok (.iload_n 2, 1) := by decide +kernel
theorem dX1_fits_40 : decode cX1_fits 40 = .ok (.ishr, 1) := by decide +kernel
theorem dX1_fits_41 : decode cX1_fits 41 = .ok (.iconst 1, 1) := by decide +kernel
theorem dX1_fits_42 : decode cX1_fits 42 = .ok (.iand, 1) := by decide +kernel
theorem dX1_fits_43 : decode cX1_fits 43 = .ok (.iconst 1, 1) := by decide +kernel
theorem dX1_fits_44 : decode cX1_fits 44 = .ok (.if_icmp .ne 7, 3) := by decide +kernel
theorem dX1_fits_47 : decode cX1_fits 47 = .ok (.iconst 1, 1) := by decide +kernel
theorem dX1_fits_48 : decode cX1_fits 48 = .ok (.goto 4, 3) := by decide +kernel
theorem dX1_fits_51 : decode cX1_fits 51 = .ok (.iconst 0, 1) := by decide +kernel
theorem dX1_fits_52 : decode cX1_fits 52 = .ok (.ireturn, 1) := by decide +kernel
set_option maxRecDepth 20000 in
theorem ggX1_isFree_X7_qOf : GoodIn wsX1_isFree wsX7_qOf := goodIn_r _ [3] (by decide +kernel) (by decide +kernel)
set_option maxRecDepth 20000 in
theorem gX1_isFree_X7_qOf_n64 : GoodIn wsX1_isFree (wsX7_qOf) := ggX1_isFree_X7_qOf
set_option maxRecDepth 20000 in
theorem ggX1_isFree_X7_xOf : GoodIn wsX1_isFree wsX7_xOf := goodIn_r _ [5] (by decide +kernel) (by decide +kernel)
set_option maxRecDepth 20000 in
theorem gX1_isFree_X7_xOf_n67 : GoodIn wsX1_isFree (wsX7_xOf) := ggX1_isFree_X7_xOf
set_option maxRecDepth 20000 in
theorem ggX1_isFree_X7_yOf : GoodIn wsX1_isFree wsX7_yOf := goodIn_r _ [7] (by decide +kernel) (by decide +kernel)
set_option maxRecDepth 20000 in
theorem gX1_isFree_X7_yOf_n70 : GoodIn wsX1_isFree (wsX7_yOf) := ggX1_isFree_X7_yOf
set_option maxRecDepth 20000 in
theorem ggX1_isFree_X1_fits : GoodIn wsX1_isFree wsX1_fits := goodIn_r _ [12, 13, 14, 15, 16, 2, 17, 18, 19, 20, 21, 22] (by decide +kernel) (by decide +kernel)
set_option maxRecDepth 20000 in
theorem gX1_isFree_X1_fits : GoodIn wsX1_isFree (wsV RX1 73 RX1 yX1_fits wsX1_fits) := goodIn_app (goodIn_of _ (by decide +kernel)) ggX1_isFree_X1_fits
theorem dX1_isFree_0 : decode cX1_isFree 0 = .ok (.aload_n 0, 1) := by decide +kernel
theorem dX1_isFree_1 : decode cX1_isFree 1 = .ok (.iload_n 1, 1) := by decide +kernel
theorem dX1_isFree_2 : decode cX1_isFree 2 = .ok (.invokestatic 64, 3) := by decide +kernel
theorem dX1_isFree_5 : decode cX1_isFree 5 = .ok (.iload_n 1, 1) := by decide +kernel
theorem dX1_isFree_6 : decode cX1_isFree 6 = .ok (.invokestatic 67, 3) := by decide +kernel
theorem dX1_isFree_9 : decode cX1_isFree 9 = .ok (.iload_n 1, 1) := by decide +kernel
theorem dX1_isFree_10 : decode cX1_isFree 10 = .ok (.invokestatic 70, 3) := by decide +kernel
theorem dX1_isFree_13 : decode cX1_isFree 13 = .ok (.invokevirtual 73, 3) := by decide +kernel
theorem dX1_isFree_16 : decode cX1_isFree 16 = .ok (.ireturn, 1) := by decide +kernel
set_option maxRecDepth 20000 in
theorem ggX1_lead_X7_xOf : GoodIn wsX1_lead wsX7_xOf := goodIn_r _ [3] (by decide +kernel) (by decide +kernel)
set_option maxRecDepth 20000 in
theorem gX1_lead_X7_xOf_n67 : GoodIn wsX1_lead (wsX7_xOf) := ggX1_lead_X7_xOf
set_option maxRecDepth 20000 in
theorem ggX1_lead_X7_yOf : GoodIn wsX1_lead wsX7_yOf := goodIn_r _ [5] (by decide +kernel) (by decide +kernel)
set_option maxRecDepth 20000 in
theorem gX1_lead_X7_yOf_n70 : GoodIn wsX1_lead (wsX7_yOf) := ggX1_lead_X7_yOf
set_option maxRecDepth 20000 in
theorem ggX1_lead_X7_qOf : GoodIn wsX1_lead wsX7_qOf := goodIn_r _ [7] (by decide +kernel) (by decide +kernel)
set_option maxRecDepth 20000 in
theorem gX1_lead_X7_qOf_n64 : GoodIn wsX1_lead (wsX7_qOf) := ggX1_lead_X7_qOf
set_option maxRecDepth 20000 in
theorem ggX1_lead_X1_fits : GoodIn wsX1_lead wsX1_fits := goodIn_r _ [12, 13, 14, 15, 16, 2, 17, 20, 21, 22, 23, 24] (by decide +kernel) (by decide +kernel)
set_option maxRecDepth 20000 in
theorem gX1_lead_X1_fits : GoodIn wsX1_lead (wsV RX1 73 RX1 yX1_fits wsX1_fits) := goodIn_app (goodIn_of _ (by decide +kernel)) ggX1_lead_X1_fits
set_option maxRecDepth 20000 in
theorem ggX1_lead_X7_stateOf : GoodIn wsX1_lead wsX7_stateOf := goodIn_r _ [19] (by decide +kernel) (by decide +kernel)
set_option maxRecDepth 20000 in
theorem gX1_lead_X7_stateOf_n77 : GoodIn wsX1_lead (wsX7_stateOf) := ggX1_lead_X7_stateOf
set_option maxRecDepth 20000 in
theorem ggX1_lead_X7_at : GoodIn wsX1_lead wsX7_at := goodIn_r _ [17] (by decide +kernel) (by decide +kernel)
set_option maxRecDepth 20000 in
theorem gX1_lead_X7_at_n44 : GoodIn wsX1_lead (wsX7_at) := ggX1_lead_X7_at
theorem dX1_lead_0 : decode cX1_lead 0 = .ok (.iload_n 1, 1) := by decide +kernel
theorem dX1_lead_1 : decode cX1_lead 1 = .ok (.invokestatic 67, 3) := by decide +kernel
theorem dX1_lead_4 : decode cX1_lead 4 = .ok (.istore_n 3, 1) := by decide +kernel
theorem dX1_lead_5 : decode cX1_lead 5 = .ok (.iload_n 1, 1) := by decide +kernel
theorem dX1_lead_6 : decode cX1_lead 6 = .ok (.invokestatic 70, 3) := by decide +kernel
theorem dX1_lead_9 : decode cX1_lead 9 = .ok (.istore 4, 2) := by decide +kernel
theorem dX1_lead_11 : decode cX1_lead 11 = .ok (.iload_n 1, 1) := by decide +kernel
theorem dX1_lead_12 : decode cX1_lead 12 = .ok (.invokestatic 64, 3) := by decide +kernel
theorem dX1_lead_15 : decode cX1_lead 15 = .ok (.istore 5, 2) := by decide +kernel
theorem dX1_lead_17 : decode cX1_lead 17 = .ok (.iload_n 2, 1) := by decide +kernel
theorem dX1_lead_18 : decode cX1_lead 18 = .ok (.iconst 4, 1) := by decide +kernel
theorem dX1_lead_19 : decode cX1_lead 19 = .ok (.if_icmp .lt 50, 3) := by decide +kernel
theorem dX1_lead_22 : decode cX1_lead 22 = .ok (.iload_n 2, 1) := by decide +kernel
theorem dX1_lead_23 : decode cX1_lead 23 = .ok (.iconst 4, 1) := by decide +kernel
theorem dX1_lead_24 : decode cX1_lead 24 = .ok (.if_icmp .ne 10, 3) := by decide +kernel
theorem dX1_lead_27 : decode cX1_lead 27 = .ok (.iload 5, 2) := by decide +kernel
theorem dX1_lead_29 : decode cX1_lead 29 = .ok (.iconst 1, 1) := by decide +kernel
theorem dX1_lead_30 : decode cX1_lead 30 = .ok (.iadd, 1) := by decide +kernel
theorem dX1_lead_31 : decode cX1_lead 31 = .ok (.goto 9, 3) := by decide +kernel
theorem dX1_lead_34 : decode cX1_lead 34 = .ok (.iload 5, 2) := by decide +kernel
theorem dX1_lead_36 : decode cX1_lead 36 = .ok (.iconst 4, 1) := by decide +kernel
theorem dX1_lead_37 : decode cX1_lead 37 = .ok (.iadd, 1) := by decide +kernel
theorem dX1_lead_38 : decode cX1_lead 38 = .ok (.iconst 1, 1) := by decide +kernel
theorem dX1_lead_39 : decode cX1_lead 39 = .ok (.isub, 1) := by decide +kernel
theorem dX1_lead_40 : decode cX1_lead 40 = .ok (.istore 6, 2) := by decide +kernel
theorem dX1_lead_42 : decode cX1_lead 42 = .ok (.aload_n 0, 1) := by decide +kernel
theorem dX1_lead_43 : decode cX1_lead 43 = .ok (.iconst 4, 1) := by decide +kernel
theorem dX1_lead_44 : decode cX1_lead 44 = .ok (.iload_n 3, 1) := by decide +kernel
theorem dX1_lead_45 : decode cX1_lead 45 = .ok (.iload 4, 2) := by decide +kernel
theorem dX1_lead_47 : decode cX1_lead 47 = .ok (.invokevirtual 73, 3) := by decide +kernel
theorem dX1_lead_50 : decode cX1_lead 50 = .ok (.ifCond .eq 16, 3) := by decide +kernel
theorem dX1_lead_53 : decode cX1_lead 53 = .ok (.iload_n 3, 1) := by decide +kernel
theorem dX1_lead_54 : decode cX1_lead 54 = .ok (.iload 4, 2) := by decide +kernel
theorem dX1_lead_56 : decode cX1_lead 56 = .ok (.iload 6, 2) := by decide +kernel
theorem dX1_lead_58 : decode cX1_lead 58 = .ok (.iconst 4, 1) := by decide +kernel
theorem dX1_lead_59 : decode cX1_lead 59 = .ok (.irem, 1) := by decide +kernel
theorem dX1_lead_60 : decode cX1_lead 60 = .ok (.invokestatic 77, 3) := by decide +kernel
theorem dX1_lead_63 : decode cX1_lead 63 = .ok (.goto 5, 3) := by decide +kernel
theorem dX1_lead_66 : decode cX1_lead 66 = .ok (.bipush (-9), 2) := by decide +kernel
theorem dX1_lead_68 : decode cX1_lead 68 = .ok (.ireturn, 1) := by decide +kernel
theorem dX1_lead_69 : decode cX1_lead 69 = .ok (.iload_n 3, 1) := by decide +kernel
theorem dX1_lead_70 : decode cX1_lead 70 = .ok (.getstatic 81, 3) := by decide +kernel
theorem dX1_lead_73 : decode cX1_lead 73 = .ok (.iload_n 2, 1) := by decide +kernel
theorem dX1_lead_74 : decode cX1_lead 74 = .ok (.invokestatic 44, 3) := by decide +kernel
theorem dX1_lead_77 : decode cX1_lead 77 = .ok (.iadd, 1) := by decide +kernel
theorem dX1_lead_78 : decode cX1_lead 78 = .ok (.istore 6, 2) := by decide +kernel
theorem dX1_lead_80 : decode cX1_lead 80 = .ok (.iload 4, 2) := by decide +kernel
theorem dX1_lead_82 : decode cX1_lead 82 = .ok (.getstatic 84, 3) := by decide +kernel
theorem dX1_lead_85 : decode cX1_lead 85 = .ok (.iload_n 2, 1) := by decide +kernel
theorem dX1_lead_86 : decode cX1_lead 86 = .ok (.invokestatic 44, 3) := by decide +kernel
theorem dX1_lead_89 : decode cX1_lead 89 = .ok (.iadd, 1) := by decide +kernel
theorem dX1_lead_90 : decode cX1_lead 90 = .ok (.istore 7, 2) := by decide +kernel
theorem dX1_lead_92 : decode cX1_lead 92 = .ok (.aload_n 0, 1) := by decide +kernel
theorem dX1_lead_93 : decode cX1_lead 93 = .ok (.iload 5, 2) := by decide +kernel
theorem dX1_lead_95 : decode cX1_lead 95 = .ok (.iload 6, 2) := by decide +kernel
theorem dX1_lead_97 : decode cX1_lead 97 = .ok (.iload 7, 2) := by decide +kernel
theorem dX1_lead_99 : decode cX1_lead 99 = .ok (.invokevirtual 73, 3) := by decide +kernel
theorem dX1_lead_102 : decode cX1_lead 102 = .ok (.ifCond .eq 15, 3) := by decide +kernel
theorem dX1_lead_105 : decode cX1_lead 105 = .ok (.iload 6, 2) := by decide +kernel
theorem dX1_lead_107 : decode cX1_lead 107 = .ok (.iload 7, 2) := by decide +kernel
theorem dX1_lead_109 : decode cX1_lead 109 = .ok (.iload 5, 2) := by decide +kernel
theorem dX1_lead_111 : decode cX1_lead 111 = .ok (.invokestatic 77, 3) := by decide +kernel
theorem dX1_lead_114 : decode cX1_lead 114 = .ok (.goto 5, 3) := by decide +kernel
theorem dX1_lead_117 : decode cX1_lead 117 = .ok (.bipush (-9), 2) := by decide +kernel
theorem dX1_lead_119 : decode cX1_lead 119 = .ok (.ireturn, 1) := by decide +kernel
set_option maxRecDepth 20000 in
theorem ggX1_slidesFrom_X1_lead : GoodIn wsX1_slidesFrom wsX1_lead := goodIn_r _ [5, 6, 7, 8, 9, 10, 11, 12, 13, 14, 15, 4, 16, 17, 18, 19, 20, 21, 22, 23, 24, 25, 26, 27, 28] (by decide +kernel) (by decide +kernel)
set_option maxRecDepth 20000 in
theorem gX1_slidesFrom_X1_lead : GoodIn wsX1_slidesFrom (wsV RX1 87 RX1 yX1_lead wsX1_lead) := goodIn_app (goodIn_of _ (by decide +kernel)) ggX1_slidesFrom_X1_lead
theorem dX1_slidesFrom_0 : decode cX1_slidesFrom 0 = .ok (.iconst 0, 1) := by decide +kernel
theorem dX1_slidesFrom_1 : decode cX1_slidesFrom 1 = .ok (.istore_n 2, 1) := by decide +kernel
theorem dX1_slidesFrom_2 : decode cX1_slidesFrom 2 = .ok (.iconst 0, 1) := by decide +kernel
theorem dX1_slidesFrom_3 : decode cX1_slidesFrom 3 = .ok (.istore_n 3, 1) := by decide +kernel
theorem dX1_slidesFrom_4 : decode cX1_slidesFrom 4 = .ok (.iload_n 3, 1) := by decide +kernel
theorem dX1_slidesFrom_5 : decode cX1_slidesFrom 5 = .ok (.iconst 4, 1) := by decide +kernel
theorem dX1_slidesFrom_6 : decode cX1_slidesFrom 6 = .ok (.if_icmp .ge 23, 3) := by decide +kernel
theorem dX1_slidesFrom_9 : decode cX1_slidesFrom 9 = .ok (.aload_n 0, 1) := by decide +kernel
theorem dX1_slidesFrom_10 : decode cX1_slidesFrom 10 = .ok (.iload_n 1, 1) := by decide +kernel
theorem dX1_slidesFrom_11 : decode cX1_slidesFrom 11 = .ok (.iload_n 3, 1) := by decide +kernel
theorem dX1_slidesFrom_12 : decode cX1_slidesFrom 12 = .ok (.invokevirtual 87, 3) := by decide +kernel
theorem dX1_slidesFrom_15 : decode cX1_slidesFrom 15 = .ok (.bipush (-9), 2) := by decide +kernel
theorem dX1_slidesFrom_17 : decode cX1_slidesFrom 17 = .ok (.if_icmp .eq 6, 3) := by decide +kernel
theorem dX1_slidesFrom_20 : decode cX1_slidesFrom 20 = .ok (.iinc 2 1, 3) := by decide +kernel
theorem dX1_slidesFrom_23 : decode cX1_slidesFrom 23 = .ok (.iinc 3 1, 3) := by decide +kernel
theorem dX1_slidesFrom_26 : decode cX1_slidesFrom 26 = .ok (.goto (-22), 3) := by decide +kernel
theorem dX1_slidesFrom_29 : decode cX1_slidesFrom 29 = .ok (.iload_n 2, 1) := by decide +kernel
theorem dX1_slidesFrom_30 : decode cX1_slidesFrom 30 = .ok (.ireturn, 1) := by decide +kernel
set_option maxRecDepth 20000 in
theorem ggX1_slideLength_X1_lead : GoodIn wsX1_slideLength wsX1_lead := goodIn_r _ [5, 6, 7, 8, 9, 10, 11, 12, 13, 14, 15, 4, 16, 17, 18, 19, 20, 21, 22, 23, 24, 25, 26, 27, 28] (by decide +kernel) (by decide +kernel)
set_option maxRecDepth 20000 in
theorem gX1_slideLength_X1_lead : GoodIn wsX1_slideLength (wsV RX1 87 RX1 yX1_lead wsX1_lead) := goodIn_app (goodIn_of _ (by decide +kernel)) ggX1_slideLength_X1_lead
theorem dX1_slideLength_0 : decode cX1_slideLength 0 = .ok (.aload_n 0, 1) := by decide +kernel
theorem dX1_slideLength_1 : decode cX1_slideLength 1 = .ok (.iload_n 1, 1) := by decide +kernel
theorem dX1_slideLength_2 : decode cX1_slideLength 2 = .ok (.iload_n 2, 1) := by decide +kernel
theorem dX1_slideLength_3 : decode cX1_slideLength 3 = .ok (.invokevirtual 87, 3) := by decide +kernel
theorem dX1_slideLength_6 : decode cX1_slideLength 6 = .ok (.istore_n 3, 1) := by decide +kernel
theorem dX1_slideLength_7 : decode cX1_slideLength 7 = .ok (.iconst 0, 1) := by decide +kernel
theorem dX1_slideLength_8 : decode cX1_slideLength 8 = .ok (.istore 4, 2) := by decide +kernel
theorem dX1_slideLength_10 : decode cX1_slideLength 10 = .ok (.iconst 0, 1) := by decide +kernel
theorem dX1_slideLength_11 : decode cX1_slideLength 11 = .ok (.istore 5, 2) := by decide +kernel
theorem dX1_slideLength_13 : decode cX1_slideLength 13 = .ok (.iload 5, 2) := by decide +kernel
theorem dX1_slideLength_15 : decode cX1_slideLength 15 = .ok (.bipush 21, 2) := by decide +kernel
theorem dX1_slideLength_17 : decode cX1_slideLength 17 = .ok (.if_icmp .ge 25, 3) := by decide +kernel
theorem dX1_slideLength_20 : decode cX1_slideLength 20 = .ok (.iload_n 3, 1) := by decide +kernel
theorem dX1_slideLength_21 : decode cX1_slideLength 21 = .ok (.bipush (-9), 2) := by decide +kernel
theorem dX1_slideLength_23 : decode cX1_slideLength 23 = .ok (.if_icmp .eq 19, 3) := by decide +kernel
theorem dX1_slideLength_26 : decode cX1_slideLength 26 = .ok (.iinc 4 1, 3) := by decide +kernel
theorem dX1_slideLength_29 : decode cX1_slideLength 29 = .ok (.aload_n 0, 1) := by decide +kernel
theorem dX1_slideLength_30 : decode cX1_slideLength 30 = .ok (.iload_n 3, 1) := by decide +kernel
theorem dX1_slideLength_31 : decode cX1_slideLength 31 = .ok (.iload_n 2, 1) := by decide +kernel
theorem dX1_slideLength_32 : decode cX1_slideLength 32 = .ok (.invokevirtual 87, 3) := by decide +kernel
theorem dX1_slideLength_35 : decode cX1_slideLength 35 = .ok (.istore_n 3, 1) := by decide +kernel
theorem dX1_slideLength_36 : decode cX1_slideLength 36 = .ok (.iinc 5 1, 3) := by decide +kernel
theorem dX1_slideLength_39 : decode cX1_slideLength 39 = .ok (.goto (-26), 3) := by decide +kernel
theorem dX1_slideLength_42 : decode cX1_slideLength 42 = .ok (.iload 4, 2) := by decide +kernel
theorem dX1_slideLength_44 : decode cX1_slideLength 44 = .ok (.ireturn, 1) := by decide +kernel
set_option maxRecDepth 20000 in
theorem ggX1_kindOf_X1_fits : GoodIn wsX1_kindOf wsX1_fits := goodIn_r _ [5, 6, 7, 8, 9, 10, 11, 28, 29, 30, 31, 32] (by decide +kernel) (by decide +kernel)
set_option maxRecDepth 20000 in
theorem gX1_kindOf_X1_fits : GoodIn wsX1_kindOf (wsV RX1 73 RX1 yX1_fits wsX1_fits) := goodIn_app (goodIn_of _ (by decide +kernel)) ggX1_kindOf_X1_fits
set_option maxRecDepth 20000 in
theorem ggX1_kindOf_X7_stateOf : GoodIn wsX1_kindOf wsX7_stateOf := goodIn_r _ [13] (by decide +kernel) (by decide +kernel)
set_option maxRecDepth 20000 in
theorem gX1_kindOf_X7_stateOf_n77 : GoodIn wsX1_kindOf (wsX7_stateOf) := ggX1_kindOf_X7_stateOf
set_option maxRecDepth 20000 in
theorem ggX1_kindOf_X1_slidesFrom : GoodIn wsX1_kindOf wsX1_slidesFrom := goodIn_r _ [17, 18, 19, 20, 4, 21, 22, 10, 23, 24, 25, 26, 27, 1, 2, 3, 5, 6, 7, 8, 9, 11, 12, 13, 28, 29, 30, 31, 32] (by decide +kernel) (by decide +kernel)
set_option maxRecDepth 20000 in
theorem gX1_kindOf_X1_slidesFrom : GoodIn wsX1_kindOf (wsV RX1 90 RX1 yX1_slidesFrom wsX1_slidesFrom) := goodIn_app (goodIn_of _ (by decide +kernel)) ggX1_kindOf_X1_slidesFrom
theorem dX1_kindOf_0 : decode cX1_kindOf 0 = .ok (.aload_n 0, 1) := by decide +kernel
theorem dX1_kindOf_1 : decode cX1_kindOf 1 = .ok (.iload_n 3, 1) := by decide +kernel
theorem dX1_kindOf_2 : decode cX1_kindOf 2 = .ok (.iload_n 1, 1) := by decide +kernel
theorem dX1_kindOf_3 : decode cX1_kindOf 3 = .ok (.iload_n 2, 1) := by decide +kernel
theorem dX1_kindOf_4 : decode cX1_kindOf 4 = .ok (.invokevirtual 73, 3) := by decide +kernel
theorem dX1_kindOf_7 : decode cX1_kindOf 7 = .ok (.ifCond .eq 34, 3) := by decide +kernel
theorem dX1_kindOf_10 : decode cX1_kindOf 10 = .ok (.aload_n 0, 1) := by decide +kernel
theorem dX1_kindOf_11 : decode cX1_kindOf 11 = .ok (.iconst 4, 1) := by decide +kernel
theorem dX1_kindOf_12 : decode cX1_kindOf 12 = .ok (.iload_n 1, 1) := by decide +kernel
theorem dX1_kindOf_13 : decode cX1_kindOf 13 = .ok (.iload_n 2, 1) := by decide +kernel
theorem dX1_kindOf_14 : decode cX1_kindOf 14 = .ok (.invokevirtual 73, 3) := by decide +kernel
theorem dX1_kindOf_17 : decode cX1_kindOf 17 = .ok (.ifCond .eq 5, 3) := by decide +kernel
theorem dX1_kindOf_20 : decode cX1_kindOf 20 = .ok (.iconst 2, 1) := by decide +kernel
theorem dX1_kindOf_21 : decode cX1_kindOf 21 = .ok (.ireturn, 1) := by decide +kernel
theorem dX1_kindOf_22 : decode cX1_kindOf 22 = .ok (.aload_n 0, 1) := by decide +kernel
theorem dX1_kindOf_23 : decode cX1_kindOf 23 = .ok (.iload_n 1, 1) := by decide +kernel
theorem dX1_kindOf_24 : decode cX1_kindOf 24 = .ok (.iload_n 2, 1) := by decide +kernel
theorem dX1_kindOf_25 : decode cX1_kindOf 25 = .ok (.iload_n 3, 1) := by decide +kernel
theorem dX1_kindOf_26 : decode cX1_kindOf 26 = .ok (.invokestatic 77, 3) := by decide +kernel
theorem dX1_kindOf_29 : decode cX1_kindOf 29 = .ok (.invokevirtual 90, 3) := by decide +kernel
theorem dX1_kindOf_32 : decode cX1_kindOf 32 = .ok (.ifCond .ne 7, 3) := by decide +kernel
theorem dX1_kindOf_35 : decode cX1_kindOf 35 = .ok (.iconst 3, 1) := by decide +kernel
theorem dX1_kindOf_36 : decode cX1_kindOf 36 = .ok (.goto 4, 3) := by decide +kernel
theorem dX1_kindOf_39 : decode cX1_kindOf 39 = .ok (.iconst 1, 1) := by decide +kernel
theorem dX1_kindOf_40 : decode cX1_kindOf 40 = .ok (.ireturn, 1) := by decide +kernel
theorem dX1_kindOf_41 : decode cX1_kindOf 41 = .ok (.iconst 0, 1) := by decide +kernel
theorem dX1_kindOf_42 : decode cX1_kindOf 42 = .ok (.istore 4, 2) := by decide +kernel
theorem dX1_kindOf_44 : decode cX1_kindOf 44 = .ok (.iload 4, 2) := by decide +kernel
theorem dX1_kindOf_46 : decode cX1_kindOf 46 = .ok (.iconst 4, 1) := by decide +kernel
theorem dX1_kindOf_47 : decode cX1_kindOf 47 = .ok (.if_icmp .ge 22, 3) := by decide +kernel
theorem dX1_kindOf_50 : decode cX1_kindOf 50 = .ok (.aload_n 0, 1) := by decide +kernel
theorem dX1_kindOf_51 : decode cX1_kindOf 51 = .ok (.iload 4, 2) := by decide +kernel
theorem dX1_kindOf_53 : decode cX1_kindOf 53 = .ok (.iload_n 1, 1) := by decide +kernel
theorem dX1_kindOf_54 : decode cX1_kindOf 54 = .ok (.iload_n 2, 1) := by decide +kernel
theorem dX1_kindOf_55 : decode cX1_kindOf 55 = .ok (.invokevirtual 73, 3) := by decide +kernel
theorem dX1_kindOf_58 : decode cX1_kindOf 58 = .ok (.ifCond .eq 5, 3) := by decide +kernel
theorem dX1_kindOf_61 : decode cX1_kindOf 61 = .ok (.iconst 0, 1) := by decide +kernel
theorem dX1_kindOf_62 : decode cX1_kindOf 62 = .ok (.ireturn, 1) := by decide +kernel
theorem dX1_kindOf_63 : decode cX1_kindOf 63 = .ok (.iinc 4 1, 3) := by decide +kernel
theorem dX1_kindOf_66 : decode cX1_kindOf 66 = .ok (.goto (-22), 3) := by decide +kernel
theorem dX1_kindOf_69 : decode cX1_kindOf 69 = .ok (.iconst 4, 1) := by decide +kernel
theorem dX1_kindOf_70 : decode cX1_kindOf 70 = .ok (.ireturn, 1) := by decide +kernel
theorem dX2_init_0 : decode cX2_init 0 = .ok (.aload_n 0, 1) := by decide +kernel
theorem dX2_init_1 : decode cX2_init 1 = .ok (.invokespecial 3, 3) := by decide +kernel
theorem dX2_init_4 : decode cX2_init 4 = .ok (.aload_n 0, 1) := by decide +kernel
theorem dX2_init_5 : decode cX2_init 5 = .ok (.bipush 6, 2) := by decide +kernel
theorem dX2_init_7 : decode cX2_init 7 = .ok (.newarray .int, 2) := by decide +kernel
theorem dX2_init_9 : decode cX2_init 9 = .ok (.putfield 9, 3) := by decide +kernel
theorem dX2_init_12 : decode cX2_init 12 = .ok (.aload_n 0, 1) := by decide +kernel
theorem dX2_init_13 : decode cX2_init 13 = .ok (.bipush 6, 2) := by decide +kernel
theorem dX2_init_15 : decode cX2_init 15 = .ok (.newarray .int, 2) := by decide +kernel
theorem dX2_init_17 : decode cX2_init 17 = .ok (.putfield 15, 3) := by decide +kernel
theorem dX2_init_20 : decode cX2_init 20 = .ok (.return_, 1) := by decide +kernel
set_option maxRecDepth 20000 in
theorem ggX2_startOver_X7_fillWith : GoodIn wsX2_startOver wsX7_fillWith := goodIn_r _ [5] (by decide +kernel) (by decide +kernel)
set_option maxRecDepth 20000 in
theorem gX2_startOver_X7_fillWith_n22 : GoodIn wsX2_startOver (wsX7_fillWith) := ggX2_startOver_X7_fillWith
theorem dX2_startOver_0 : decode cX2_startOver 0 = .ok (.aload_n 0, 1) := by decide +kernel
theorem dX2_startOver_1 : decode cX2_startOver 1 = .ok (.iload_n 1, 1) := by decide +kernel
theorem dX2_startOver_2 : decode cX2_startOver 2 = .ok (.putfield 18, 3) := by decide +kernel
theorem dX2_startOver_5 : decode cX2_startOver 5 = .ok (.aload_n 0, 1) := by decide +kernel
theorem dX2_startOver_6 : decode cX2_startOver 6 = .ok (.getfield 9, 3) := by decide +kernel
theorem dX2_startOver_9 : decode cX2_startOver 9 = .ok (.bipush (-9), 2) := by decide +kernel
theorem dX2_startOver_11 : decode cX2_startOver 11 = .ok (.invokestatic 22, 3) := by decide +kernel
theorem dX2_startOver_14 : decode cX2_startOver 14 = .ok (.return_, 1) := by decide +kernel
set_option maxRecDepth 20000 in
theorem ggX2_isRow_X7_isWithin : GoodIn wsX2_isRow wsX7_isWithin := goodIn_r _ [4] (by decide +kernel) (by decide +kernel)
set_option maxRecDepth 20000 in
theorem gX2_isRow_X7_isWithin_n26 : GoodIn wsX2_isRow (wsX7_isWithin) := ggX2_isRow_X7_isWithin
theorem dX2_isRow_0 : decode cX2_isRow 0 = .ok (.iload_n 1, 1) := by decide +kernel
theorem dX2_isRow_1 : decode cX2_isRow 1 = .ok (.iconst 0, 1) := by decide +kernel
theorem dX2_isRow_2 : decode cX2_isRow 2 = .ok (.aload_n 0, 1) := by decide +kernel
theorem dX2_isRow_3 : decode cX2_isRow 3 = .ok (.getfield 18, 3) := by decide +kernel
theorem dX2_isRow_6 : decode cX2_isRow 6 = .ok (.iconst 1, 1) := by decide +kernel
theorem dX2_isRow_7 : decode cX2_isRow 7 = .ok (.isub, 1) := by decide +kernel
theorem dX2_isRow_8 : decode cX2_isRow 8 = .ok (.invokestatic 26, 3) := by decide +kernel
theorem dX2_isRow_11 : decode cX2_isRow 11 = .ok (.ireturn, 1) := by decide +kernel
set_option maxRecDepth 20000 in
theorem ggX2_hasRun_X7_isWithin : GoodIn wsX2_hasRun wsX7_isWithin := goodIn_r _ [4] (by decide +kernel) (by decide +kernel)
set_option maxRecDepth 20000 in
theorem gX2_hasRun_X7_isWithin_n26 : GoodIn wsX2_hasRun (wsX7_isWithin) := ggX2_hasRun_X7_isWithin
theorem dX2_hasRun_0 : decode cX2_hasRun 0 = .ok (.iload_n 2, 1) := by decide +kernel
theorem dX2_hasRun_1 : decode cX2_hasRun 1 = .ok (.iconst 0, 1) := by decide +kernel
theorem dX2_hasRun_2 : decode cX2_hasRun 2 = .ok (.aload_n 0, 1) := by decide +kernel
theorem dX2_hasRun_3 : decode cX2_hasRun 3 = .ok (.getfield 18, 3) := by decide +kernel
theorem dX2_hasRun_6 : decode cX2_hasRun 6 = .ok (.invokestatic 26, 3) := by decide +kernel
theorem dX2_hasRun_9 : decode cX2_hasRun 9 = .ok (.ifCond .eq 21, 3) := by decide +kernel
theorem dX2_hasRun_12 : decode cX2_hasRun 12 = .ok (.iload_n 1, 1) := by decide +kernel
theorem dX2_hasRun_13 : decode cX2_hasRun 13 = .ok (.iconst 0, 1) := by decide +kernel
theorem dX2_hasRun_14 : decode cX2_hasRun 14 = .ok (.aload_n 0, 1) := by decide +kernel
theorem dX2_hasRun_15 : decode cX2_hasRun 15 = .ok (.getfield 18, 3) := by decide +kernel
theorem dX2_hasRun_18 : decode cX2_hasRun 18 = .ok (.iload_n 2, 1) := by decide +kernel
theorem dX2_hasRun_19 : decode cX2_hasRun 19 = .ok (.isub, 1) := by decide +kernel
theorem dX2_hasRun_20 : decode cX2_hasRun 20 = .ok (.invokestatic 26, 3) := by decide +kernel
theorem dX2_hasRun_23 : decode cX2_hasRun 23 = .ok (.ifCond .eq 7, 3) := by decide +kernel
theorem dX2_hasRun_26 : decode cX2_hasRun 26 = .ok (.iconst 1, 1) := by decide +kernel
theorem dX2_hasRun_27 : decode cX2_hasRun 27 = .ok (.goto 4, 3) := by decide +kernel
theorem dX2_hasRun_30 : decode cX2_hasRun 30 = .ok (.iconst 0, 1) := by decide +kernel
theorem dX2_hasRun_31 : decode cX2_hasRun 31 = .ok (.ireturn, 1) := by decide +kernel
set_option maxRecDepth 20000 in
theorem ggX2_bitsOf_X7_at : GoodIn wsX2_bitsOf wsX7_at := goodIn_r _ [4] (by decide +kernel) (by decide +kernel)
set_option maxRecDepth 20000 in
theorem gX2_bitsOf_X7_at_n30 : GoodIn wsX2_bitsOf (wsX7_at) := ggX2_bitsOf_X7_at
theorem dX2_bitsOf_0 : decode cX2_bitsOf 0 = .ok (.aload_n 0, 1) := by decide +kernel
theorem dX2_bitsOf_1 : decode cX2_bitsOf 1 = .ok (.getfield 9, 3) := by decide +kernel
theorem dX2_bitsOf_4 : decode cX2_bitsOf 4 = .ok (.iload_n 1, 1) := by decide +kernel
theorem dX2_bitsOf_5 : decode cX2_bitsOf 5 = .ok (.invokestatic 30, 3) := by decide +kernel
theorem dX2_bitsOf_8 : decode cX2_bitsOf 8 = .ok (.ireturn, 1) := by decide +kernel
set_option maxRecDepth 20000 in
theorem ggX2_setBits_X7_put : GoodIn wsX2_setBits wsX7_put := goodIn_r _ [4] (by decide +kernel) (by decide +kernel)
set_option maxRecDepth 20000 in
theorem gX2_setBits_X7_put_n34 : GoodIn wsX2_setBits (wsX7_put) := ggX2_setBits_X7_put
theorem dX2_setBits_0 : decode cX2_setBits 0 = .ok (.aload_n 0, 1) := by decide +kernel
theorem dX2_setBits_1 : decode cX2_setBits 1 = .ok (.getfield 9, 3) := by decide +kernel
theorem dX2_setBits_4 : decode cX2_setBits 4 = .ok (.iload_n 1, 1) := by decide +kernel
theorem dX2_setBits_5 : decode cX2_setBits 5 = .ok (.iload_n 2, 1) := by decide +kernel
theorem dX2_setBits_6 : decode cX2_setBits 6 = .ok (.invokestatic 34, 3) := by decide +kernel
theorem dX2_setBits_9 : decode cX2_setBits 9 = .ok (.return_, 1) := by decide +kernel
set_option maxRecDepth 20000 in
theorem ggX2_copyRun_X2_bitsOf : GoodIn wsX2_copyRun wsX2_bitsOf := goodIn_r _ [7, 2, 8, 9, 10, 13, 14, 15, 16, 17] (by decide +kernel) (by decide +kernel)
set_option maxRecDepth 20000 in
theorem gX2_copyRun_X2_bitsOf : GoodIn wsX2_copyRun (wsV RX2 38 RX2 yX2_bitsOf wsX2_bitsOf) := goodIn_app (goodIn_of _ (by decide +kernel)) ggX2_copyRun_X2_bitsOf
set_option maxRecDepth 20000 in
theorem ggX2_copyRun_X7_at : GoodIn wsX2_copyRun wsX7_at := goodIn_r _ [10] (by decide +kernel) (by decide +kernel)
set_option maxRecDepth 20000 in
theorem gX2_copyRun_X7_at_n30 : GoodIn wsX2_copyRun (wsX7_at) := ggX2_copyRun_X7_at
set_option maxRecDepth 20000 in
theorem ggX2_copyRun_X7_put : GoodIn wsX2_copyRun wsX7_put := goodIn_r _ [12] (by decide +kernel) (by decide +kernel)
set_option maxRecDepth 20000 in
theorem gX2_copyRun_X7_put_n34 : GoodIn wsX2_copyRun (wsX7_put) := ggX2_copyRun_X7_put
theorem dX2_copyRun_0 : decode cX2_copyRun 0 = .ok (.iconst 0, 1) := by decide +kernel
theorem dX2_copyRun_1 : decode cX2_copyRun 1 = .ok (.istore 4, 2) := by decide +kernel
theorem dX2_copyRun_3 : decode cX2_copyRun 3 = .ok (.iload 4, 2) := by decide +kernel
theorem dX2_copyRun_5 : decode cX2_copyRun 5 = .ok (.aload_n 0, 1) := by decide +kernel
theorem dX2_copyRun_6 : decode cX2_copyRun 6 = .ok (.getfield 15, 3) := by decide +kernel
theorem dX2_copyRun_9 : decode cX2_copyRun 9 = .ok (.arraylength, 1) := by decide +kernel
theorem dX2_copyRun_10 : decode cX2_copyRun 10 = .ok (.if_icmp .ge 22, 3) := by decide +kernel
theorem dX2_copyRun_13 : decode cX2_copyRun 13 = .ok (.aload_n 0, 1) := by decide +kernel
theorem dX2_copyRun_14 : decode cX2_copyRun 14 = .ok (.getfield 15, 3) := by decide +kernel
theorem dX2_copyRun_17 : decode cX2_copyRun 17 = .ok (.iload 4, 2) := by decide +kernel
theorem dX2_copyRun_19 : decode cX2_copyRun 19 = .ok (.aload_n 0, 1) := by decide +kernel
theorem dX2_copyRun_20 : decode cX2_copyRun 20 = .ok (.iload 4, 2) := by decide +kernel
theorem dX2_copyRun_22 : decode cX2_copyRun 22 = .ok (.invokevirtual 38, 3) := by decide +kernel
theorem dX2_copyRun_25 : decode cX2_copyRun 25 = .ok (.iastore, 1) := by decide +kernel
theorem dX2_copyRun_26 : decode cX2_copyRun 26 = .ok (.iinc 4 1, 3) := by decide +kernel
theorem dX2_copyRun_29 : decode cX2_copyRun 29 = .ok (.goto (-26), 3) := by decide +kernel
theorem dX2_copyRun_32 : decode cX2_copyRun 32 = .ok (.iconst 0, 1) := by decide +kernel
theorem dX2_copyRun_33 : decode cX2_copyRun 33 = .ok (.istore 4, 2) := by decide +kernel
theorem dX2_copyRun_35 : decode cX2_copyRun 35 = .ok (.iload 4, 2) := by decide +kernel
theorem dX2_copyRun_37 : decode cX2_copyRun 37 = .ok (.iload_n 3, 1) := by decide +kernel
theorem dX2_copyRun_38 : decode cX2_copyRun 38 = .ok (.if_icmp .ge 31, 3) := by decide +kernel
theorem dX2_copyRun_41 : decode cX2_copyRun 41 = .ok (.aload_n 0, 1) := by decide +kernel
theorem dX2_copyRun_42 : decode cX2_copyRun 42 = .ok (.getfield 9, 3) := by decide +kernel
theorem dX2_copyRun_45 : decode cX2_copyRun 45 = .ok (.iload_n 2, 1) := by decide +kernel
theorem dX2_copyRun_46 : decode cX2_copyRun 46 = .ok (.iload 4, 2) := by decide +kernel
theorem dX2_copyRun_48 : decode cX2_copyRun 48 = .ok (.iadd, 1) := by decide +kernel
theorem dX2_copyRun_49 : decode cX2_copyRun 49 = .ok (.aload_n 0, 1) := by decide +kernel
theorem dX2_copyRun_50 : decode cX2_copyRun 50 = .ok (.getfield 15, 3) := by decide +kernel
theorem dX2_copyRun_53 : decode cX2_copyRun 53 = .ok (.iload_n 1, 1) := by decide +kernel
theorem dX2_copyRun_54 : decode cX2_copyRun 54 = .ok (.iload 4, 2) := by decide +kernel
theorem dX2_copyRun_56 : decode cX2_copyRun 56 = .ok (.iadd, 1) := by decide +kernel
theorem dX2_copyRun_57 : decode cX2_copyRun 57 = .ok (.invokestatic 30, 3) := by decide +kernel
theorem dX2_copyRun_60 : decode cX2_copyRun 60 = .ok (.invokestatic 34, 3) := by decide +kernel
theorem dX2_copyRun_63 : decode cX2_copyRun 63 = .ok (.iinc 4 1, 3) := by decide +kernel
theorem dX2_copyRun_66 : decode cX2_copyRun 66 = .ok (.goto (-31), 3) := by decide +kernel
theorem dX2_copyRun_69 : decode cX2_copyRun 69 = .ok (.return_, 1) := by decide +kernel
set_option maxRecDepth 20000 in
theorem ggX2_hasSquare_X2_bitsOf : GoodIn wsX2_hasSquare wsX2_bitsOf := goodIn_r _ [5, 6, 7, 8, 9, 17, 18, 19, 20, 21] (by decide +kernel) (by decide +kernel)
set_option maxRecDepth 20000 in
theorem gX2_hasSquare_X2_bitsOf : GoodIn wsX2_hasSquare (wsV RX2 38 RX2 yX2_bitsOf wsX2_bitsOf) := goodIn_app (goodIn_of _ (by decide +kernel)) ggX2_hasSquare_X2_bitsOf
set_option maxRecDepth 20000 in
theorem ggX2_hasSquare_X2_isRow : GoodIn wsX2_hasSquare wsX2_isRow := goodIn_r _ [13, 14, 15, 8, 16, 17, 18, 19, 20, 21] (by decide +kernel) (by decide +kernel)
set_option maxRecDepth 20000 in
theorem gX2_hasSquare_X2_isRow : GoodIn wsX2_hasSquare (wsV RX2 42 RX2 yX2_isRow wsX2_isRow) := goodIn_app (goodIn_of _ (by decide +kernel)) ggX2_hasSquare_X2_isRow
theorem dX2_hasSquare_0 : decode cX2_hasSquare 0 = .ok (.aload_n 0, 1) := by decide +kernel
theorem dX2_hasSquare_1 : decode cX2_hasSquare 1 = .ok (.iload_n 2, 1) := by decide +kernel
theorem dX2_hasSquare_2 : decode cX2_hasSquare 2 = .ok (.invokevirtual 38, 3) := by decide +kernel
theorem dX2_hasSquare_5 : decode cX2_hasSquare 5 = .ok (.istore_n 3, 1) := by decide +kernel
theorem dX2_hasSquare_6 : decode cX2_hasSquare 6 = .ok (.aload_n 0, 1) := by decide +kernel
theorem dX2_hasSquare_7 : decode cX2_hasSquare 7 = .ok (.iload_n 2, 1) := by decide +kernel
theorem dX2_hasSquare_8 : decode cX2_hasSquare 8 = .ok (.invokevirtual 42, 3) := by decide +kernel
theorem dX2_hasSquare_11 : decode cX2_hasSquare 11 = .ok (.ifCond .eq 22, 3) := by decide +kernel
theorem dX2_hasSquare_14 : decode cX2_hasSquare 14 = .ok (.iload_n 3, 1) := by decide +kernel
theorem dX2_hasSquare_15 : decode cX2_hasSquare 15 = .ok (.bipush (-9), 2) := by decide +kernel
theorem dX2_hasSquare_17 : decode cX2_hasSquare 17 = .ok (.if_icmp .eq 16, 3) := by decide +kernel
theorem dX2_hasSquare_20 : decode cX2_hasSquare 20 = .ok (.iload_n 3, 1) := by decide +kernel
theorem dX2_hasSquare_21 : decode cX2_hasSquare 21 = .ok (.iload_n 1, 1) := by decide +kernel
theorem dX2_hasSquare_22 : decode cX2_hasSquare 22 = .ok (.ishr, 1) := by decide +kernel
theorem dX2_hasSquare_23 : decode cX2_hasSquare 23 = .ok (.iconst 1, 1) := by decide +kernel
theorem dX2_hasSquare_24 : decode cX2_hasSquare 24 = .ok (.iand, 1) := by decide +kernel
theorem dX2_hasSquare_25 : decode cX2_hasSquare 25 = .ok (.iconst 1, 1) := by decide +kernel
theorem dX2_hasSquare_26 : decode cX2_hasSquare 26 = .ok (.if_icmp .ne 7, 3) := by decide +kernel
theorem dX2_hasSquare_29 : decode cX2_hasSquare 29 = .ok (.iconst 1, 1) := by decide +kernel
theorem dX2_hasSquare_30 : decode cX2_hasSquare 30 = .ok (.goto 4, 3) := by decide +kernel
theorem dX2_hasSquare_33 : decode cX2_hasSquare 33 = .ok (.iconst 0, 1) := by decide +kernel
theorem dX2_hasSquare_34 : decode cX2_hasSquare 34 = .ok (.ireturn, 1) := by decide +kernel
set_option maxRecDepth 20000 in
theorem ggX2_squares_X2_bitsOf : GoodIn wsX2_squares wsX2_bitsOf := goodIn_r _ [6, 7, 8, 9, 10, 18, 19, 20, 21, 22] (by decide +kernel) (by decide +kernel)
set_option maxRecDepth 20000 in
theorem gX2_squares_X2_bitsOf : GoodIn wsX2_squares (wsV RX2 38 RX2 yX2_bitsOf wsX2_bitsOf) := goodIn_app (goodIn_of _ (by decide +kernel)) ggX2_squares_X2_bitsOf
set_option maxRecDepth 20000 in
theorem ggX2_squares_J6_bitCount_0f7a4 : GoodIn wsX2_squares wsJ6_bitCount_0f7a4 := goodIn_r _ [14, 15, 16, 17] (by decide +kernel) (by decide +kernel)
set_option maxRecDepth 20000 in
theorem gX2_squares_J6_bitCount_0f7a4 : GoodIn wsX2_squares (va_wsS RX2 46 yJ6_bitCount_0f7a4 wsJ6_bitCount_0f7a4) := goodIn_app (goodIn_of _ (by decide +kernel)) ggX2_squares_J6_bitCount_0f7a4
theorem dX2_squares_0 : decode cX2_squares 0 = .ok (.iconst 0, 1) := by decide +kernel
theorem dX2_squares_1 : decode cX2_squares 1 = .ok (.istore_n 1, 1) := by decide +kernel
theorem dX2_squares_2 : decode cX2_squares 2 = .ok (.iconst 0, 1) := by decide +kernel
theorem dX2_squares_3 : decode cX2_squares 3 = .ok (.istore_n 2, 1) := by decide +kernel
theorem dX2_squares_4 : decode cX2_squares 4 = .ok (.iload_n 2, 1) := by decide +kernel
theorem dX2_squares_5 : decode cX2_squares 5 = .ok (.aload_n 0, 1) := by decide +kernel
theorem dX2_squares_6 : decode cX2_squares 6 = .ok (.getfield 18, 3) := by decide +kernel
theorem dX2_squares_9 : decode cX2_squares 9 = .ok (.if_icmp .ge 30, 3) := by decide +kernel
theorem dX2_squares_12 : decode cX2_squares 12 = .ok (.aload_n 0, 1) := by decide +kernel
theorem dX2_squares_13 : decode cX2_squares 13 = .ok (.iload_n 2, 1) := by decide +kernel
theorem dX2_squares_14 : decode cX2_squares 14 = .ok (.invokevirtual 38, 3) := by decide +kernel
theorem dX2_squares_17 : decode cX2_squares 17 = .ok (.bipush (-9), 2) := by decide +kernel
theorem dX2_squares_19 : decode cX2_squares 19 = .ok (.if_icmp .eq 14, 3) := by decide +kernel
theorem dX2_squares_22 : decode cX2_squares 22 = .ok (.iload_n 1, 1) := by decide +kernel
theorem dX2_squares_23 : decode cX2_squares 23 = .ok (.aload_n 0, 1) := by decide +kernel
theorem dX2_squares_24 : decode cX2_squares 24 = .ok (.iload_n 2, 1) := by decide +kernel
theorem dX2_squares_25 : decode cX2_squares 25 = .ok (.invokevirtual 38, 3) := by decide +kernel
theorem dX2_squares_28 : decode cX2_squares 28 = .ok (.invokestatic 46, 3) := by decide +kernel
theorem dX2_squares_31 : decode cX2_squares 31 = .ok (.iadd, 1) := by decide +kernel
theorem dX2_squares_32 : decode cX2_squares 32 = .ok (.istore_n 1, 1) := by decide +kernel
theorem dX2_squares_33 : decode cX2_squares 33 = .ok (.iinc 2 1, 3) := by decide +kernel
theorem dX2_squares_36 : decode cX2_squares 36 = .ok (.goto (-32), 3) := by decide +kernel
theorem dX2_squares_39 : decode cX2_squares 39 = .ok (.iload_n 1, 1) := by decide +kernel
theorem dX2_squares_40 : decode cX2_squares 40 = .ok (.ireturn, 1) := by decide +kernel
set_option maxRecDepth 20000 in
theorem ggX2_isWhole_X2_bitsOf : GoodIn wsX2_isWhole wsX2_bitsOf := goodIn_r _ [6, 7, 8, 9, 10, 22, 23, 24, 25, 26] (by decide +kernel) (by decide +kernel)
set_option maxRecDepth 20000 in
theorem gX2_isWhole_X2_bitsOf : GoodIn wsX2_isWhole (wsV RX2 38 RX2 yX2_bitsOf wsX2_bitsOf) := goodIn_app (goodIn_of _ (by decide +kernel)) ggX2_isWhole_X2_bitsOf
set_option maxRecDepth 20000 in
theorem ggX2_isWhole_X2_squares : GoodIn wsX2_isWhole wsX2_squares := goodIn_r _ [14, 1, 2, 3, 4, 5, 6, 7, 8, 9, 10, 15, 16, 17, 18, 19, 20, 21, 22, 23, 24, 25, 26] (by decide +kernel) (by decide +kernel)
set_option maxRecDepth 20000 in
theorem gX2_isWhole_X2_squares : GoodIn wsX2_isWhole (wsV RX2 51 RX2 yX2_squares wsX2_squares) := goodIn_app (goodIn_of _ (by decide +kernel)) ggX2_isWhole_X2_squares
theorem dX2_isWhole_0 : decode cX2_isWhole 0 = .ok (.iconst 0, 1) := by decide +kernel
theorem dX2_isWhole_1 : decode cX2_isWhole 1 = .ok (.istore_n 1, 1) := by decide +kernel
theorem dX2_isWhole_2 : decode cX2_isWhole 2 = .ok (.iconst 0, 1) := by decide +kernel
theorem dX2_isWhole_3 : decode cX2_isWhole 3 = .ok (.istore_n 2, 1) := by decide +kernel
theorem dX2_isWhole_4 : decode cX2_isWhole 4 = .ok (.iload_n 2, 1) := by decide +kernel
theorem dX2_isWhole_5 : decode cX2_isWhole 5 = .ok (.aload_n 0, 1) := by decide +kernel
theorem dX2_isWhole_6 : decode cX2_isWhole 6 = .ok (.getfield 18, 3) := by decide +kernel
theorem dX2_isWhole_9 : decode cX2_isWhole 9 = .ok (.if_icmp .ge 30, 3) := by decide +kernel
theorem dX2_isWhole_12 : decode cX2_isWhole 12 = .ok (.aload_n 0, 1) := by decide +kernel
theorem dX2_isWhole_13 : decode cX2_isWhole 13 = .ok (.iload_n 2, 1) := by decide +kernel
theorem dX2_isWhole_14 : decode cX2_isWhole 14 = .ok (.invokevirtual 38, 3) := by decide +kernel
theorem dX2_isWhole_17 : decode cX2_isWhole 17 = .ok (.bipush (-9), 2) := by decide +kernel
theorem dX2_isWhole_19 : decode cX2_isWhole 19 = .ok (.if_icmp .ne 8, 3) := by decide +kernel
theorem dX2_isWhole_22 : decode cX2_isWhole 22 = .ok (.iconst 1, 1) := by decide +kernel
theorem dX2_isWhole_23 : decode cX2_isWhole 23 = .ok (.istore_n 1, 1) := by decide +kernel
theorem dX2_isWhole_24 : decode cX2_isWhole 24 = .ok (.goto 9, 3) := by decide +kernel
theorem dX2_isWhole_27 : decode cX2_isWhole 27 = .ok (.iload_n 1, 1) := by decide +kernel
theorem dX2_isWhole_28 : decode cX2_isWhole 28 = .ok (.ifCond .eq 5, 3) := by decide +kernel
theorem dX2_isWhole_31 : decode cX2_isWhole 31 = .ok (.iconst 0, 1) := by decide +kernel
theorem dX2_isWhole_32 : decode cX2_isWhole 32 = .ok (.ireturn, 1) := by decide +kernel
theorem dX2_isWhole_33 : decode cX2_isWhole 33 = .ok (.iinc 2 1, 3) := by decide +kernel
theorem dX2_isWhole_36 : decode cX2_isWhole 36 = .ok (.goto (-32), 3) := by decide +kernel
theorem dX2_isWhole_39 : decode cX2_isWhole 39 = .ok (.aload_n 0, 1) := by decide +kernel
theorem dX2_isWhole_40 : decode cX2_isWhole 40 = .ok (.invokevirtual 51, 3) := by decide +kernel
theorem dX2_isWhole_43 : decode cX2_isWhole 43 = .ok (.ifCond .le 7, 3) := by decide +kernel
theorem dX2_isWhole_46 : decode cX2_isWhole 46 = .ok (.iconst 1, 1) := by decide +kernel
theorem dX2_isWhole_47 : decode cX2_isWhole 47 = .ok (.goto 4, 3) := by decide +kernel
theorem dX2_isWhole_50 : decode cX2_isWhole 50 = .ok (.iconst 0, 1) := by decide +kernel
theorem dX2_isWhole_51 : decode cX2_isWhole 51 = .ok (.ireturn, 1) := by decide +kernel
set_option maxRecDepth 20000 in
theorem ggX2_farthest_X2_hasSquare : GoodIn wsX2_farthest wsX2_hasSquare := goodIn_r _ [15, 16, 17, 18, 14, 19, 20, 21, 22, 23, 24, 25, 26, 27, 1, 28, 29, 30, 31, 32, 33, 34] (by decide +kernel) (by decide +kernel)
set_option maxRecDepth 20000 in
theorem gX2_farthest_X2_hasSquare : GoodIn wsX2_farthest (wsV RX2 55 RX2 yX2_hasSquare wsX2_hasSquare) := goodIn_app (goodIn_of _ (by decide +kernel)) ggX2_farthest_X2_hasSquare
theorem dX2_farthest_0 : decode cX2_farthest 0 = .ok (.iconst 0, 1) := by decide +kernel
theorem dX2_farthest_1 : decode cX2_farthest 1 = .ok (.istore_n 1, 1) := by decide +kernel
theorem dX2_farthest_2 : decode cX2_farthest 2 = .ok (.iconst 0, 1) := by decide +kernel
theorem dX2_farthest_3 : decode cX2_farthest 3 = .ok (.istore_n 2, 1) := by decide +kernel
theorem dX2_farthest_4 : decode cX2_farthest 4 = .ok (.iload_n 2, 1) := by decide +kernel
theorem dX2_farthest_5 : decode cX2_farthest 5 = .ok (.aload_n 0, 1) := by decide +kernel
theorem dX2_farthest_6 : decode cX2_farthest 6 = .ok (.getfield 18, 3) := by decide +kernel
theorem dX2_farthest_9 : decode cX2_farthest 9 = .ok (.if_icmp .ge 101, 3) := by decide +kernel
theorem dX2_farthest_12 : decode cX2_farthest 12 = .ok (.iconst 0, 1) := by decide +kernel
theorem dX2_farthest_13 : decode cX2_farthest 13 = .ok (.istore_n 3, 1) := by decide +kernel
theorem dX2_farthest_14 : decode cX2_farthest 14 = .ok (.iload_n 3, 1) := by decide +kernel
theorem dX2_farthest_15 : decode cX2_farthest 15 = .ok (.bipush 6, 2) := by decide +kernel
theorem dX2_farthest_17 : decode cX2_farthest 17 = .ok (.if_icmp .ge 87, 3) := by decide +kernel
theorem dX2_farthest_20 : decode cX2_farthest 20 = .ok (.aload_n 0, 1) := by decide +kernel
theorem dX2_farthest_21 : decode cX2_farthest 21 = .ok (.iload_n 3, 1) := by decide +kernel
theorem dX2_farthest_22 : decode cX2_farthest 22 = .ok (.iload_n 2, 1) := by decide +kernel
theorem dX2_farthest_23 : decode cX2_farthest 23 = .ok (.invokevirtual 55, 3) := by decide +kernel
theorem dX2_farthest_26 : decode cX2_farthest 26 = .ok (.ifCond .ne 6, 3) := by decide +kernel
theorem dX2_farthest_29 : decode cX2_farthest 29 = .ok (.goto 69, 3) := by decide +kernel
theorem dX2_farthest_32 : decode cX2_farthest 32 = .ok (.iload_n 3, 1) := by decide +kernel
theorem dX2_farthest_33 : decode cX2_farthest 33 = .ok (.aload_n 0, 1) := by decide +kernel
theorem dX2_farthest_34 : decode cX2_farthest 34 = .ok (.getfield 59, 3) := by decide +kernel
theorem dX2_farthest_37 : decode cX2_farthest 37 = .ok (.isub, 1) := by decide +kernel
theorem dX2_farthest_38 : decode cX2_farthest 38 = .ok (.invokestatic 62, 3) := by decide +kernel
theorem dX2_farthest_41 : decode cX2_farthest 41 = .ok (.iload_n 3, 1) := by decide +kernel
theorem dX2_farthest_42 : decode cX2_farthest 42 = .ok (.iconst 1, 1) := by decide +kernel
theorem dX2_farthest_43 : decode cX2_farthest 43 = .ok (.iadd, 1) := by decide +kernel
theorem dX2_farthest_44 : decode cX2_farthest 44 = .ok (.aload_n 0, 1) := by decide +kernel
theorem dX2_farthest_45 : decode cX2_farthest 45 = .ok (.getfield 59, 3) := by decide +kernel
theorem dX2_farthest_48 : decode cX2_farthest 48 = .ok (.isub, 1) := by decide +kernel
theorem dX2_farthest_49 : decode cX2_farthest 49 = .ok (.invokestatic 62, 3) := by decide +kernel
theorem dX2_farthest_52 : decode cX2_farthest 52 = .ok (.invokestatic 67, 3) := by decide +kernel
theorem dX2_farthest_55 : decode cX2_farthest 55 = .ok (.istore 4, 2) := by decide +kernel
theorem dX2_farthest_57 : decode cX2_farthest 57 = .ok (.iload_n 2, 1) := by decide +kernel
theorem dX2_farthest_58 : decode cX2_farthest 58 = .ok (.aload_n 0, 1) := by decide +kernel
theorem dX2_farthest_59 : decode cX2_farthest 59 = .ok (.getfield 71, 3) := by decide +kernel
theorem dX2_farthest_62 : decode cX2_farthest 62 = .ok (.isub, 1) := by decide +kernel
theorem dX2_farthest_63 : decode cX2_farthest 63 = .ok (.invokestatic 62, 3) := by decide +kernel
theorem dX2_farthest_66 : decode cX2_farthest 66 = .ok (.iload_n 2, 1) := by decide +kernel
theorem dX2_farthest_67 : decode cX2_farthest 67 = .ok (.iconst 1, 1) := by decide +kernel
theorem dX2_farthest_68 : decode cX2_farthest 68 = .ok (.iadd, 1) := by decide +kernel
theorem dX2_farthest_69 : decode cX2_farthest 69 = .ok (.aload_n 0, 1) := by decide +kernel
theorem dX2_farthest_70 : decode cX2_farthest 70 = .ok (.getfield 71, 3) := by decide +kernel
theorem dX2_farthest_73 : decode cX2_farthest 73 = .ok (.isub, 1) := by decide +kernel
theorem dX2_farthest_74 : decode cX2_farthest 74 = .ok (.invokestatic 62, 3) := by decide +kernel
theorem dX2_farthest_77 : decode cX2_farthest 77 = .ok (.invokestatic 67, 3) := by decide +kernel
theorem dX2_farthest_80 : decode cX2_farthest 80 = .ok (.istore 5, 2) := by decide +kernel
theorem dX2_farthest_82 : decode cX2_farthest 82 = .ok (.iload_n 1, 1) := by decide +kernel
theorem dX2_farthest_83 : decode cX2_farthest 83 = .ok (.iload 4, 2) := by decide +kernel
theorem dX2_farthest_85 : decode cX2_farthest 85 = .ok (.iload 4, 2) := by decide +kernel
theorem dX2_farthest_87 : decode cX2_farthest 87 = .ok (.imul, 1) := by decide +kernel
theorem dX2_farthest_88 : decode cX2_farthest 88 = .ok (.iload 5, 2) := by decide +kernel
theorem dX2_farthest_90 : decode cX2_farthest 90 = .ok (.iload 5, 2) := by decide +kernel
theorem dX2_farthest_92 : decode cX2_farthest 92 = .ok (.imul, 1) := by decide +kernel
theorem dX2_farthest_93 : decode cX2_farthest 93 = .ok (.iadd, 1) := by decide +kernel
theorem dX2_farthest_94 : decode cX2_farthest 94 = .ok (.invokestatic 67, 3) := by decide +kernel
theorem dX2_farthest_97 : decode cX2_farthest 97 = .ok (.istore_n 1, 1) := by decide +kernel
theorem dX2_farthest_98 : decode cX2_farthest 98 = .ok (.iinc 3 1, 3) := by decide +kernel
theorem dX2_farthest_101 : decode cX2_farthest 101 = .ok (.goto (-87), 3) := by decide +kernel
theorem dX2_farthest_104 : decode cX2_farthest 104 = .ok (.iinc 2 1, 3) := by decide +kernel
theorem dX2_farthest_107 : decode cX2_farthest 107 = .ok (.goto (-103), 3) := by decide +kernel
theorem dX2_farthest_110 : decode cX2_farthest 110 = .ok (.iload_n 1, 1) := by decide +kernel
theorem dX2_farthest_111 : decode cX2_farthest 111 = .ok (.ireturn, 1) := by decide +kernel
theorem dX3_init_0 : decode cX3_init 0 = .ok (.aload_n 0, 1) := by decide +kernel
theorem dX3_init_1 : decode cX3_init 1 = .ok (.invokespecial 3, 3) := by decide +kernel
theorem dX3_init_4 : decode cX3_init 4 = .ok (.aload_n 0, 1) := by decide +kernel
theorem dX3_init_5 : decode cX3_init 5 = .ok (.sipush 441, 3) := by decide +kernel
theorem dX3_init_8 : decode cX3_init 8 = .ok (.newarray .int, 2) := by decide +kernel
theorem dX3_init_10 : decode cX3_init 10 = .ok (.putfield 9, 3) := by decide +kernel
theorem dX3_init_13 : decode cX3_init 13 = .ok (.aload_n 0, 1) := by decide +kernel
theorem dX3_init_14 : decode cX3_init 14 = .ok (.sipush 441, 3) := by decide +kernel
theorem dX3_init_17 : decode cX3_init 17 = .ok (.newarray .int, 2) := by decide +kernel
theorem dX3_init_19 : decode cX3_init 19 = .ok (.putfield 15, 3) := by decide +kernel
theorem dX3_init_22 : decode cX3_init 22 = .ok (.return_, 1) := by decide +kernel
set_option maxRecDepth 20000 in
theorem ggX3_split_X7_fillWith : GoodIn wsX3_split wsX7_fillWith := goodIn_r _ [7] (by decide +kernel) (by decide +kernel)
set_option maxRecDepth 20000 in
theorem gX3_split_X7_fillWith_n22 : GoodIn wsX3_split (wsX7_fillWith) := ggX3_split_X7_fillWith
set_option maxRecDepth 20000 in
theorem ggX3_split_X1_fits : GoodIn wsX3_split wsX1_fits := goodIn_r _ [12, 13, 14, 15, 16, 6, 17, 52, 53, 54, 55, 56] (by decide +kernel) (by decide +kernel)
set_option maxRecDepth 20000 in
theorem gX3_split_X1_fits : GoodIn wsX3_split (wsV RX3 34 RX1 yX1_fits wsX1_fits) := goodIn_app (goodIn_of _ (by decide +kernel)) ggX3_split_X1_fits
set_option maxRecDepth 20000 in
theorem ggX3_split_X3_regionOf : GoodIn wsX3_split wsX3_regionOf := goodIn_r _ [22, 2, 23, 6, 24, 16, 17, 48, 49, 50, 51] (by decide +kernel) (by decide +kernel)
set_option maxRecDepth 20000 in
theorem gX3_split_X3_regionOf : GoodIn wsX3_split (wsV RX3 38 RX3 yX3_regionOf wsX3_regionOf) := goodIn_app (goodIn_of _ (by decide +kernel)) ggX3_split_X3_regionOf
set_option maxRecDepth 20000 in
theorem ggX3_split_X7_stateOf : GoodIn wsX3_split wsX7_stateOf := goodIn_r _ [24] (by decide +kernel) (by decide +kernel)
set_option maxRecDepth 20000 in
theorem gX3_split_X7_stateOf_n42 : GoodIn wsX3_split (wsX7_stateOf) := ggX3_split_X7_stateOf
set_option maxRecDepth 20000 in
theorem ggX3_split_X3_spread : GoodIn wsX3_split wsX3_spread := goodIn_r _ [28, 29, 30, 2, 1, 31, 32, 33, 21, 34, 35, 6, 36, 16, 17, 37, 38, 39, 11, 40, 41, 42, 43, 44, 45, 46, 47, 9, 10, 12, 13, 14, 15, 23, 24, 48, 49, 50, 51, 52, 53, 54, 55, 56] (by decide +kernel) (by decide +kernel)
set_option maxRecDepth 20000 in
theorem gX3_split_X3_spread : GoodIn wsX3_split (wsV RX3 46 RX3 yX3_spread wsX3_spread) := goodIn_app (goodIn_of _ (by decide +kernel)) ggX3_split_X3_spread
theorem dX3_split_0 : decode cX3_split 0 = .ok (.aload_n 0, 1) := by decide +kernel
theorem dX3_split_1 : decode cX3_split 1 = .ok (.iconst 0, 1) := by decide +kernel
theorem dX3_split_2 : decode cX3_split 2 = .ok (.putfield 18, 3) := by decide +kernel
theorem dX3_split_5 : decode cX3_split 5 = .ok (.aload_n 0, 1) := by decide +kernel
theorem dX3_split_6 : decode cX3_split 6 = .ok (.getfield 9, 3) := by decide +kernel
theorem dX3_split_9 : decode cX3_split 9 = .ok (.bipush (-9), 2) := by decide +kernel
theorem dX3_split_11 : decode cX3_split 11 = .ok (.invokestatic 22, 3) := by decide +kernel
theorem dX3_split_14 : decode cX3_split 14 = .ok (.iconst 0, 1) := by decide +kernel
theorem dX3_split_15 : decode cX3_split 15 = .ok (.istore_n 3, 1) := by decide +kernel
theorem dX3_split_16 : decode cX3_split 16 = .ok (.iload_n 3, 1) := by decide +kernel
theorem dX3_split_17 : decode cX3_split 17 = .ok (.aload_n 1, 1) := by decide +kernel
theorem dX3_split_18 : decode cX3_split 18 = .ok (.getfield 26, 3) := by decide +kernel
theorem dX3_split_21 : decode cX3_split 21 = .ok (.if_icmp .gt 62, 3) := by decide +kernel
theorem dX3_split_24 : decode cX3_split 24 = .ok (.iconst 0, 1) := by decide +kernel
theorem dX3_split_25 : decode cX3_split 25 = .ok (.istore 4, 2) := by decide +kernel
theorem dX3_split_27 : decode cX3_split 27 = .ok (.iload 4, 2) := by decide +kernel
theorem dX3_split_29 : decode cX3_split 29 = .ok (.aload_n 1, 1) := by decide +kernel
theorem dX3_split_30 : decode cX3_split 30 = .ok (.getfield 31, 3) := by decide +kernel
theorem dX3_split_33 : decode cX3_split 33 = .ok (.if_icmp .gt 44, 3) := by decide +kernel
theorem dX3_split_36 : decode cX3_split 36 = .ok (.aload_n 1, 1) := by decide +kernel
theorem dX3_split_37 : decode cX3_split 37 = .ok (.iload_n 2, 1) := by decide +kernel
theorem dX3_split_38 : decode cX3_split 38 = .ok (.iload 4, 2) := by decide +kernel
theorem dX3_split_40 : decode cX3_split 40 = .ok (.iload_n 3, 1) := by decide +kernel
theorem dX3_split_41 : decode cX3_split 41 = .ok (.invokevirtual 34, 3) := by decide +kernel
theorem dX3_split_44 : decode cX3_split 44 = .ok (.ifCond .eq 27, 3) := by decide +kernel
theorem dX3_split_47 : decode cX3_split 47 = .ok (.aload_n 0, 1) := by decide +kernel
theorem dX3_split_48 : decode cX3_split 48 = .ok (.iload 4, 2) := by decide +kernel
theorem dX3_split_50 : decode cX3_split 50 = .ok (.iload_n 3, 1) := by decide +kernel
theorem dX3_split_51 : decode cX3_split 51 = .ok (.invokevirtual 38, 3) := by decide +kernel
theorem dX3_split_54 : decode cX3_split 54 = .ok (.bipush (-9), 2) := by decide +kernel
theorem dX3_split_56 : decode cX3_split 56 = .ok (.if_icmp .ne 15, 3) := by decide +kernel
theorem dX3_split_59 : decode cX3_split 59 = .ok (.aload_n 0, 1) := by decide +kernel
theorem dX3_split_60 : decode cX3_split 60 = .ok (.aload_n 1, 1) := by decide +kernel
theorem dX3_split_61 : decode cX3_split 61 = .ok (.iload 4, 2) := by decide +kernel
theorem dX3_split_63 : decode cX3_split 63 = .ok (.iload_n 3, 1) := by decide +kernel
theorem dX3_split_64 : decode cX3_split 64 = .ok (.iload_n 2, 1) := by decide +kernel
theorem dX3_split_65 : decode cX3_split 65 = .ok (.invokestatic 42, 3) := by decide +kernel
theorem dX3_split_68 : decode cX3_split 68 = .ok (.invokevirtual 46, 3) := by decide +kernel
theorem dX3_split_71 : decode cX3_split 71 = .ok (.iinc 4 1, 3) := by decide +kernel
theorem dX3_split_74 : decode cX3_split 74 = .ok (.goto (-47), 3) := by decide +kernel
theorem dX3_split_77 : decode cX3_split 77 = .ok (.iinc 3 1, 3) := by decide +kernel
theorem dX3_split_80 : decode cX3_split 80 = .ok (.goto (-64), 3) := by decide +kernel
theorem dX3_split_83 : decode cX3_split 83 = .ok (.return_, 1) := by decide +kernel
set_option maxRecDepth 20000 in
theorem ggX3_regionOf_X7_stateOf : GoodIn wsX3_regionOf wsX7_stateOf := goodIn_r _ [4] (by decide +kernel) (by decide +kernel)
set_option maxRecDepth 20000 in
theorem gX3_regionOf_X7_stateOf_n42 : GoodIn wsX3_regionOf (wsX7_stateOf) := ggX3_regionOf_X7_stateOf
set_option maxRecDepth 20000 in
theorem ggX3_regionOf_X7_at : GoodIn wsX3_regionOf wsX7_at := goodIn_r _ [6] (by decide +kernel) (by decide +kernel)
set_option maxRecDepth 20000 in
theorem gX3_regionOf_X7_at_n50 : GoodIn wsX3_regionOf (wsX7_at) := ggX3_regionOf_X7_at
theorem dX3_regionOf_0 : decode cX3_regionOf 0 = .ok (.aload_n 0, 1) := by decide +kernel
theorem dX3_regionOf_1 : decode cX3_regionOf 1 = .ok (.getfield 9, 3) := by decide +kernel
theorem dX3_regionOf_4 : decode cX3_regionOf 4 = .ok (.iload_n 1, 1) := by decide +kernel
theorem dX3_regionOf_5 : decode cX3_regionOf 5 = .ok (.iload_n 2, 1) := by decide +kernel
theorem dX3_regionOf_6 : decode cX3_regionOf 6 = .ok (.iconst 0, 1) := by decide +kernel
theorem dX3_regionOf_7 : decode cX3_regionOf 7 = .ok (.invokestatic 42, 3) := by decide +kernel
theorem dX3_regionOf_10 : decode cX3_regionOf 10 = .ok (.invokestatic 50, 3) := by decide +kernel
theorem dX3_regionOf_13 : decode cX3_regionOf 13 = .ok (.ireturn, 1) := by decide +kernel
set_option maxRecDepth 20000 in
theorem ggX3_spread_X3_join : GoodIn wsX3_spread wsX3_join := goodIn_r _ [9, 3, 4, 2, 1, 10, 11, 12, 35, 36, 37, 38] (by decide +kernel) (by decide +kernel)
set_option maxRecDepth 20000 in
theorem gX3_spread_X3_join : GoodIn wsX3_spread (wsV RX3 57 RX3 yX3_join wsX3_join) := goodIn_app (goodIn_of _ (by decide +kernel)) ggX3_spread_X3_join
set_option maxRecDepth 20000 in
theorem ggX3_spread_X7_at : GoodIn wsX3_spread wsX7_at := goodIn_r _ [14] (by decide +kernel) (by decide +kernel)
set_option maxRecDepth 20000 in
theorem gX3_spread_X7_at_n50 : GoodIn wsX3_spread (wsX7_at) := ggX3_spread_X7_at
set_option maxRecDepth 20000 in
theorem ggX3_spread_X1_lead : GoodIn wsX3_spread wsX1_lead := goodIn_r _ [19, 20, 11, 21, 22, 23, 24, 25, 26, 27, 28, 18, 29, 30, 31, 32, 13, 14, 33, 34, 39, 40, 41, 42, 43] (by decide +kernel) (by decide +kernel)
set_option maxRecDepth 20000 in
theorem gX3_spread_X1_lead : GoodIn wsX3_spread (wsV RX3 61 RX1 yX1_lead wsX1_lead) := goodIn_app (goodIn_of _ (by decide +kernel)) ggX3_spread_X1_lead
theorem dX3_spread_0 : decode cX3_spread 0 = .ok (.aload_n 0, 1) := by decide +kernel
theorem dX3_spread_1 : decode cX3_spread 1 = .ok (.iconst 0, 1) := by decide +kernel
theorem dX3_spread_2 : decode cX3_spread 2 = .ok (.putfield 54, 3) := by decide +kernel
theorem dX3_spread_5 : decode cX3_spread 5 = .ok (.aload_n 0, 1) := by decide +kernel
theorem dX3_spread_6 : decode cX3_spread 6 = .ok (.iload_n 2, 1) := by decide +kernel
theorem dX3_spread_7 : decode cX3_spread 7 = .ok (.invokevirtual 57, 3) := by decide +kernel
theorem dX3_spread_10 : decode cX3_spread 10 = .ok (.iconst 0, 1) := by decide +kernel
theorem dX3_spread_11 : decode cX3_spread 11 = .ok (.istore_n 3, 1) := by decide +kernel
theorem dX3_spread_12 : decode cX3_spread 12 = .ok (.iload_n 3, 1) := by decide +kernel
theorem dX3_spread_13 : decode cX3_spread 13 = .ok (.sipush 441, 3) := by decide +kernel
theorem dX3_spread_16 : decode cX3_spread 16 = .ok (.if_icmp .ge 79, 3) := by decide +kernel
theorem dX3_spread_19 : decode cX3_spread 19 = .ok (.iload_n 3, 1) := by decide +kernel
theorem dX3_spread_20 : decode cX3_spread 20 = .ok (.aload_n 0, 1) := by decide +kernel
theorem dX3_spread_21 : decode cX3_spread 21 = .ok (.getfield 54, 3) := by decide +kernel
theorem dX3_spread_24 : decode cX3_spread 24 = .ok (.if_icmp .ge 71, 3) := by decide +kernel
theorem dX3_spread_27 : decode cX3_spread 27 = .ok (.iconst 0, 1) := by decide +kernel
theorem dX3_spread_28 : decode cX3_spread 28 = .ok (.istore 4, 2) := by decide +kernel
theorem dX3_spread_30 : decode cX3_spread 30 = .ok (.iload 4, 2) := by decide +kernel
theorem dX3_spread_32 : decode cX3_spread 32 = .ok (.iconst 4, 1) := by decide +kernel
theorem dX3_spread_33 : decode cX3_spread 33 = .ok (.if_icmp .ge 56, 3) := by decide +kernel
theorem dX3_spread_36 : decode cX3_spread 36 = .ok (.aload_n 1, 1) := by decide +kernel
theorem dX3_spread_37 : decode cX3_spread 37 = .ok (.aload_n 0, 1) := by decide +kernel
theorem dX3_spread_38 : decode cX3_spread 38 = .ok (.getfield 15, 3) := by decide +kernel
theorem dX3_spread_41 : decode cX3_spread 41 = .ok (.iload_n 3, 1) := by decide +kernel
theorem dX3_spread_42 : decode cX3_spread 42 = .ok (.invokestatic 50, 3) := by decide +kernel
theorem dX3_spread_45 : decode cX3_spread 45 = .ok (.iload 4, 2) := by decide +kernel
theorem dX3_spread_47 : decode cX3_spread 47 = .ok (.invokevirtual 61, 3) := by decide +kernel
theorem dX3_spread_50 : decode cX3_spread 50 = .ok (.istore 5, 2) := by decide +kernel
theorem dX3_spread_52 : decode cX3_spread 52 = .ok (.iload 5, 2) := by decide +kernel
theorem dX3_spread_54 : decode cX3_spread 54 = .ok (.bipush (-9), 2) := by decide +kernel
theorem dX3_spread_56 : decode cX3_spread 56 = .ok (.if_icmp .eq 27, 3) := by decide +kernel
theorem dX3_spread_59 : decode cX3_spread 59 = .ok (.aload_n 0, 1) := by decide +kernel
theorem dX3_spread_60 : decode cX3_spread 60 = .ok (.getfield 9, 3) := by decide +kernel
theorem dX3_spread_63 : decode cX3_spread 63 = .ok (.iload 5, 2) := by decide +kernel
theorem dX3_spread_65 : decode cX3_spread 65 = .ok (.sipush 441, 3) := by decide +kernel
theorem dX3_spread_68 : decode cX3_spread 68 = .ok (.irem, 1) := by decide +kernel
theorem dX3_spread_69 : decode cX3_spread 69 = .ok (.invokestatic 50, 3) := by decide +kernel
theorem dX3_spread_72 : decode cX3_spread 72 = .ok (.bipush (-9), 2) := by decide +kernel
theorem dX3_spread_74 : decode cX3_spread 74 = .ok (.if_icmp .ne 9, 3) := by decide +kernel
theorem dX3_spread_77 : decode cX3_spread 77 = .ok (.aload_n 0, 1) := by decide +kernel
theorem dX3_spread_78 : decode cX3_spread 78 = .ok (.iload 5, 2) := by decide +kernel
theorem dX3_spread_80 : decode cX3_spread 80 = .ok (.invokevirtual 57, 3) := by decide +kernel
theorem dX3_spread_83 : decode cX3_spread 83 = .ok (.iinc 4 1, 3) := by decide +kernel
theorem dX3_spread_86 : decode cX3_spread 86 = .ok (.goto (-56), 3) := by decide +kernel
theorem dX3_spread_89 : decode cX3_spread 89 = .ok (.iinc 3 1, 3) := by decide +kernel
theorem dX3_spread_92 : decode cX3_spread 92 = .ok (.goto (-80), 3) := by decide +kernel
theorem dX3_spread_95 : decode cX3_spread 95 = .ok (.aload_n 0, 1) := by decide +kernel
theorem dX3_spread_96 : decode cX3_spread 96 = .ok (.dup, 1) := by decide +kernel
theorem dX3_spread_97 : decode cX3_spread 97 = .ok (.getfield 18, 3) := by decide +kernel
theorem dX3_spread_100 : decode cX3_spread 100 = .ok (.iconst 1, 1) := by decide +kernel
theorem dX3_spread_101 : decode cX3_spread 101 = .ok (.iadd, 1) := by decide +kernel
theorem dX3_spread_102 : decode cX3_spread 102 = .ok (.putfield 18, 3) := by decide +kernel
theorem dX3_spread_105 : decode cX3_spread 105 = .ok (.return_, 1) := by decide +kernel
set_option maxRecDepth 20000 in
theorem ggX3_join_X7_put : GoodIn wsX3_join wsX7_put := goodIn_r _ [7] (by decide +kernel) (by decide +kernel)
set_option maxRecDepth 20000 in
theorem gX3_join_X7_put_n64 : GoodIn wsX3_join (wsX7_put) := ggX3_join_X7_put
theorem dX3_join_0 : decode cX3_join 0 = .ok (.aload_n 0, 1) := by decide +kernel
theorem dX3_join_1 : decode cX3_join 1 = .ok (.getfield 9, 3) := by decide +kernel
theorem dX3_join_4 : decode cX3_join 4 = .ok (.iload_n 1, 1) := by decide +kernel
theorem dX3_join_5 : decode cX3_join 5 = .ok (.sipush 441, 3) := by decide +kernel
theorem dX3_join_8 : decode cX3_join 8 = .ok (.irem, 1) := by decide +kernel
theorem dX3_join_9 : decode cX3_join 9 = .ok (.aload_n 0, 1) := by decide +kernel
theorem dX3_join_10 : decode cX3_join 10 = .ok (.getfield 18, 3) := by decide +kernel
theorem dX3_join_13 : decode cX3_join 13 = .ok (.invokestatic 64, 3) := by decide +kernel
theorem dX3_join_16 : decode cX3_join 16 = .ok (.aload_n 0, 1) := by decide +kernel
theorem dX3_join_17 : decode cX3_join 17 = .ok (.getfield 15, 3) := by decide +kernel
theorem dX3_join_20 : decode cX3_join 20 = .ok (.aload_n 0, 1) := by decide +kernel
theorem dX3_join_21 : decode cX3_join 21 = .ok (.getfield 54, 3) := by decide +kernel
theorem dX3_join_24 : decode cX3_join 24 = .ok (.iload_n 1, 1) := by decide +kernel
theorem dX3_join_25 : decode cX3_join 25 = .ok (.invokestatic 64, 3) := by decide +kernel
theorem dX3_join_28 : decode cX3_join 28 = .ok (.aload_n 0, 1) := by decide +kernel
theorem dX3_join_29 : decode cX3_join 29 = .ok (.dup, 1) := by decide +kernel
theorem dX3_join_30 : decode cX3_join 30 = .ok (.getfield 54, 3) := by decide +kernel
theorem dX3_join_33 : decode cX3_join 33 = .ok (.iconst 1, 1) := by decide +kernel
theorem dX3_join_34 : decode cX3_join 34 = .ok (.iadd, 1) := by decide +kernel
theorem dX3_join_35 : decode cX3_join 35 = .ok (.putfield 54, 3) := by decide +kernel
theorem dX3_join_38 : decode cX3_join 38 = .ok (.return_, 1) := by decide +kernel
set_option maxRecDepth 20000 in
theorem ggX3_measure_X3_regionOf : GoodIn wsX3_measure wsX3_regionOf := goodIn_r _ [7, 8, 9, 10, 11, 12, 13, 45, 46, 47, 48] (by decide +kernel) (by decide +kernel)
set_option maxRecDepth 20000 in
theorem gX3_measure_X3_regionOf : GoodIn wsX3_measure (wsV RX3 38 RX3 yX3_regionOf wsX3_regionOf) := goodIn_app (goodIn_of _ (by decide +kernel)) ggX3_measure_X3_regionOf
set_option maxRecDepth 20000 in
theorem ggX3_measure_X7_stateOf : GoodIn wsX3_measure wsX7_stateOf := goodIn_r _ [11] (by decide +kernel) (by decide +kernel)
set_option maxRecDepth 20000 in
theorem gX3_measure_X7_stateOf_n42 : GoodIn wsX3_measure (wsX7_stateOf) := ggX3_measure_X7_stateOf
set_option maxRecDepth 20000 in
theorem ggX3_measure_X3_counts : GoodIn wsX3_measure wsX3_counts := goodIn_r _ [16, 17, 10, 18, 19, 20, 21, 22, 23, 24, 25, 26, 27, 28, 12, 13, 29, 30, 31, 32, 33, 34, 35, 36, 37, 38, 39, 9, 11, 40, 41, 42, 43, 44] (by decide +kernel) (by decide +kernel)
set_option maxRecDepth 20000 in
theorem gX3_measure_X3_counts : GoodIn wsX3_measure (va_wsS RX3 68 yX3_counts wsX3_counts) := goodIn_app (goodIn_of _ (by decide +kernel)) ggX3_measure_X3_counts
theorem dX3_measure_0 : decode cX3_measure 0 = .ok (.iconst 0, 1) := by decide +kernel
theorem dX3_measure_1 : decode cX3_measure 1 = .ok (.istore 5, 2) := by decide +kernel
theorem dX3_measure_3 : decode cX3_measure 3 = .ok (.iconst 0, 1) := by decide +kernel
theorem dX3_measure_4 : decode cX3_measure 4 = .ok (.istore 6, 2) := by decide +kernel
theorem dX3_measure_6 : decode cX3_measure 6 = .ok (.iload 6, 2) := by decide +kernel
theorem dX3_measure_8 : decode cX3_measure 8 = .ok (.aload_n 1, 1) := by decide +kernel
theorem dX3_measure_9 : decode cX3_measure 9 = .ok (.getfield 26, 3) := by decide +kernel
theorem dX3_measure_12 : decode cX3_measure 12 = .ok (.if_icmp .gt 59, 3) := by decide +kernel
theorem dX3_measure_15 : decode cX3_measure 15 = .ok (.iconst 0, 1) := by decide +kernel
theorem dX3_measure_16 : decode cX3_measure 16 = .ok (.istore 7, 2) := by decide +kernel
theorem dX3_measure_18 : decode cX3_measure 18 = .ok (.iload 7, 2) := by decide +kernel
theorem dX3_measure_20 : decode cX3_measure 20 = .ok (.aload_n 1, 1) := by decide +kernel
theorem dX3_measure_21 : decode cX3_measure 21 = .ok (.getfield 31, 3) := by decide +kernel
theorem dX3_measure_24 : decode cX3_measure 24 = .ok (.if_icmp .gt 41, 3) := by decide +kernel
theorem dX3_measure_27 : decode cX3_measure 27 = .ok (.aload_n 0, 1) := by decide +kernel
theorem dX3_measure_28 : decode cX3_measure 28 = .ok (.iload 7, 2) := by decide +kernel
theorem dX3_measure_30 : decode cX3_measure 30 = .ok (.iload 6, 2) := by decide +kernel
theorem dX3_measure_32 : decode cX3_measure 32 = .ok (.invokevirtual 38, 3) := by decide +kernel
theorem dX3_measure_35 : decode cX3_measure 35 = .ok (.iload_n 3, 1) := by decide +kernel
theorem dX3_measure_36 : decode cX3_measure 36 = .ok (.if_icmp .ne 23, 3) := by decide +kernel
theorem dX3_measure_39 : decode cX3_measure 39 = .ok (.aload_n 1, 1) := by decide +kernel
theorem dX3_measure_40 : decode cX3_measure 40 = .ok (.iload 7, 2) := by decide +kernel
theorem dX3_measure_42 : decode cX3_measure 42 = .ok (.iload 6, 2) := by decide +kernel
theorem dX3_measure_44 : decode cX3_measure 44 = .ok (.iload_n 2, 1) := by decide +kernel
theorem dX3_measure_45 : decode cX3_measure 45 = .ok (.invokestatic 42, 3) := by decide +kernel
theorem dX3_measure_48 : decode cX3_measure 48 = .ok (.iload 4, 2) := by decide +kernel
theorem dX3_measure_50 : decode cX3_measure 50 = .ok (.invokestatic 68, 3) := by decide +kernel
theorem dX3_measure_53 : decode cX3_measure 53 = .ok (.ifCond .eq 6, 3) := by decide +kernel
theorem dX3_measure_56 : decode cX3_measure 56 = .ok (.iinc 5 1, 3) := by decide +kernel
theorem dX3_measure_59 : decode cX3_measure 59 = .ok (.iinc 7 1, 3) := by decide +kernel
theorem dX3_measure_62 : decode cX3_measure 62 = .ok (.goto (-44), 3) := by decide +kernel
theorem dX3_measure_65 : decode cX3_measure 65 = .ok (.iinc 6 1, 3) := by decide +kernel
theorem dX3_measure_68 : decode cX3_measure 68 = .ok (.goto (-62), 3) := by decide +kernel
theorem dX3_measure_71 : decode cX3_measure 71 = .ok (.iload 5, 2) := by decide +kernel
theorem dX3_measure_73 : decode cX3_measure 73 = .ok (.ireturn, 1) := by decide +kernel
set_option maxRecDepth 20000 in
theorem ggX3_counts_X7_xOf : GoodIn wsX3_counts wsX7_xOf := goodIn_r _ [3] (by decide +kernel) (by decide +kernel)
set_option maxRecDepth 20000 in
theorem gX3_counts_X7_xOf_n72 : GoodIn wsX3_counts (wsX7_xOf) := ggX3_counts_X7_xOf
set_option maxRecDepth 20000 in
theorem ggX3_counts_X7_yOf : GoodIn wsX3_counts wsX7_yOf := goodIn_r _ [5] (by decide +kernel) (by decide +kernel)
set_option maxRecDepth 20000 in
theorem gX3_counts_X7_yOf_n76 : GoodIn wsX3_counts (wsX7_yOf) := ggX3_counts_X7_yOf
set_option maxRecDepth 20000 in
theorem ggX3_counts_X1_fits : GoodIn wsX3_counts wsX1_fits := goodIn_r _ [10, 11, 12, 13, 14, 2, 15, 29, 30, 31, 32, 33] (by decide +kernel) (by decide +kernel)
set_option maxRecDepth 20000 in
theorem gX3_counts_X1_fits : GoodIn wsX3_counts (wsV RX3 34 RX1 yX1_fits wsX1_fits) := goodIn_app (goodIn_of _ (by decide +kernel)) ggX3_counts_X1_fits
set_option maxRecDepth 20000 in
theorem ggX3_counts_X1_slidesFrom : GoodIn wsX3_counts wsX1_slidesFrom := goodIn_r _ [19, 20, 21, 22, 9, 23, 1, 2, 3, 4, 5, 24, 25, 26, 7, 8, 10, 11, 12, 13, 14, 15, 27, 28, 29, 30, 31, 32, 33] (by decide +kernel) (by decide +kernel)
set_option maxRecDepth 20000 in
theorem gX3_counts_X1_slidesFrom : GoodIn wsX3_counts (wsV RX3 79 RX1 yX1_slidesFrom wsX1_slidesFrom) := goodIn_app (goodIn_of _ (by decide +kernel)) ggX3_counts_X1_slidesFrom
theorem dX3_counts_0 : decode cX3_counts 0 = .ok (.iload_n 2, 1) := by decide +kernel
theorem dX3_counts_1 : decode cX3_counts 1 = .ok (.iconst 1, 1) := by decide +kernel
theorem dX3_counts_2 : decode cX3_counts 2 = .ok (.if_icmp .ne 17, 3) := by decide +kernel
theorem dX3_counts_5 : decode cX3_counts 5 = .ok (.aload_n 0, 1) := by decide +kernel
theorem dX3_counts_6 : decode cX3_counts 6 = .ok (.iconst 4, 1) := by decide +kernel
theorem dX3_counts_7 : decode cX3_counts 7 = .ok (.iload_n 1, 1) := by decide +kernel
theorem dX3_counts_8 : decode cX3_counts 8 = .ok (.invokestatic 72, 3) := by decide +kernel
theorem dX3_counts_11 : decode cX3_counts 11 = .ok (.iload_n 1, 1) := by decide +kernel
theorem dX3_counts_12 : decode cX3_counts 12 = .ok (.invokestatic 76, 3) := by decide +kernel
theorem dX3_counts_15 : decode cX3_counts 15 = .ok (.invokevirtual 34, 3) := by decide +kernel
theorem dX3_counts_18 : decode cX3_counts 18 = .ok (.ireturn, 1) := by decide +kernel
theorem dX3_counts_19 : decode cX3_counts 19 = .ok (.iload_n 2, 1) := by decide +kernel
theorem dX3_counts_20 : decode cX3_counts 20 = .ok (.ifCond .eq 12, 3) := by decide +kernel
theorem dX3_counts_23 : decode cX3_counts 23 = .ok (.aload_n 0, 1) := by decide +kernel
theorem dX3_counts_24 : decode cX3_counts 24 = .ok (.iload_n 1, 1) := by decide +kernel
theorem dX3_counts_25 : decode cX3_counts 25 = .ok (.invokevirtual 79, 3) := by decide +kernel
theorem dX3_counts_28 : decode cX3_counts 28 = .ok (.iconst 4, 1) := by decide +kernel
theorem dX3_counts_29 : decode cX3_counts 29 = .ok (.if_icmp .ge 7, 3) := by decide +kernel
theorem dX3_counts_32 : decode cX3_counts 32 = .ok (.iconst 1, 1) := by decide +kernel
theorem dX3_counts_33 : decode cX3_counts 33 = .ok (.goto 4, 3) := by decide +kernel
theorem dX3_counts_36 : decode cX3_counts 36 = .ok (.iconst 0, 1) := by decide +kernel
theorem dX3_counts_37 : decode cX3_counts 37 = .ok (.ireturn, 1) := by decide +kernel
