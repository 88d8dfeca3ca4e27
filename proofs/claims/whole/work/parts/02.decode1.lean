theorem dX0_init_0 : decode cX0_init 0 = .ok (.aload_n 0, 1) := by decide +kernel
theorem dX0_init_1 : decode cX0_init 1 = .ok (.invokespecial 3, 3) := by decide +kernel
theorem dX0_init_4 : decode cX0_init 4 = .ok (.aload_n 0, 1) := by decide +kernel
theorem dX0_init_5 : decode cX0_init 5 = .ok (.sipush 128, 3) := by decide +kernel
theorem dX0_init_8 : decode cX0_init 8 = .ok (.newarray .int, 2) := by decide +kernel
theorem dX0_init_10 : decode cX0_init 10 = .ok (.putfield 9, 3) := by decide +kernel
theorem dX0_init_13 : decode cX0_init 13 = .ok (.aload_n 0, 1) := by decide +kernel
theorem dX0_init_14 : decode cX0_init 14 = .ok (.sipush 128, 3) := by decide +kernel
theorem dX0_init_17 : decode cX0_init 17 = .ok (.newarray .int, 2) := by decide +kernel
theorem dX0_init_19 : decode cX0_init 19 = .ok (.putfield 15, 3) := by decide +kernel
theorem dX0_init_22 : decode cX0_init 22 = .ok (.aload_n 0, 1) := by decide +kernel
theorem dX0_init_23 : decode cX0_init 23 = .ok (.sipush 128, 3) := by decide +kernel
theorem dX0_init_26 : decode cX0_init 26 = .ok (.newarray .int, 2) := by decide +kernel
theorem dX0_init_28 : decode cX0_init 28 = .ok (.putfield 18, 3) := by decide +kernel
theorem dX0_init_31 : decode cX0_init 31 = .ok (.aload_n 0, 1) := by decide +kernel
theorem dX0_init_32 : decode cX0_init 32 = .ok (.iconst 0, 1) := by decide +kernel
theorem dX0_init_33 : decode cX0_init 33 = .ok (.putfield 21, 3) := by decide +kernel
theorem dX0_init_36 : decode cX0_init 36 = .ok (.return_, 1) := by decide +kernel
theorem dX0_passesTo_0 : decode cX0_passesTo 0 = .ok (.iload_n 1, 1) := by decide +kernel
theorem dX0_passesTo_1 : decode cX0_passesTo 1 = .ok (.ifCond .lt 19, 3) := by decide +kernel
theorem dX0_passesTo_4 : decode cX0_passesTo 4 = .ok (.iload_n 1, 1) := by decide +kernel
theorem dX0_passesTo_5 : decode cX0_passesTo 5 = .ok (.sipush 128, 3) := by decide +kernel
theorem dX0_passesTo_8 : decode cX0_passesTo 8 = .ok (.if_icmp .ge 12, 3) := by decide +kernel
theorem dX0_passesTo_11 : decode cX0_passesTo 11 = .ok (.aload_n 0, 1) := by decide +kernel
theorem dX0_passesTo_12 : decode cX0_passesTo 12 = .ok (.getfield 9, 3) := by decide +kernel
theorem dX0_passesTo_15 : decode cX0_passesTo 15 = .ok (.iload_n 1, 1) := by decide +kernel
theorem dX0_passesTo_16 : decode cX0_passesTo 16 = .ok (.iaload, 1) := by decide +kernel
theorem dX0_passesTo_17 : decode cX0_passesTo 17 = .ok (.goto 4, 3) := by decide +kernel
theorem dX0_passesTo_20 : decode cX0_passesTo 20 = .ok (.iconst (-1), 1) := by decide +kernel
theorem dX0_passesTo_21 : decode cX0_passesTo 21 = .ok (.ireturn, 1) := by decide +kernel
theorem dX0_firstPassTo_0 : decode cX0_firstPassTo 0 = .ok (.iload_n 1, 1) := by decide +kernel
theorem dX0_firstPassTo_1 : decode cX0_firstPassTo 1 = .ok (.ifCond .lt 19, 3) := by decide +kernel
theorem dX0_firstPassTo_4 : decode cX0_firstPassTo 4 = .ok (.iload_n 1, 1) := by decide +kernel
theorem dX0_firstPassTo_5 : decode cX0_firstPassTo 5 = .ok (.sipush 128, 3) := by decide +kernel
theorem dX0_firstPassTo_8 : decode cX0_firstPassTo 8 = .ok (.if_icmp .ge 12, 3) := by decide +kernel
theorem dX0_firstPassTo_11 : decode cX0_firstPassTo 11 = .ok (.aload_n 0, 1) := by decide +kernel
theorem dX0_firstPassTo_12 : decode cX0_firstPassTo 12 = .ok (.getfield 15, 3) := by decide +kernel
theorem dX0_firstPassTo_15 : decode cX0_firstPassTo 15 = .ok (.iload_n 1, 1) := by decide +kernel
theorem dX0_firstPassTo_16 : decode cX0_firstPassTo 16 = .ok (.iaload, 1) := by decide +kernel
theorem dX0_firstPassTo_17 : decode cX0_firstPassTo 17 = .ok (.goto 4, 3) := by decide +kernel
theorem dX0_firstPassTo_20 : decode cX0_firstPassTo 20 = .ok (.iconst (-1), 1) := by decide +kernel
theorem dX0_firstPassTo_21 : decode cX0_firstPassTo 21 = .ok (.ireturn, 1) := by decide +kernel
set_option maxRecDepth 20000 in
theorem ggX0_measure_J7_fill_53178 : GoodIn wsX0_measure wsJ7_fill_53178 := goodIn_r _ [8] (by decide +kernel) (by decide +kernel)
set_option maxRecDepth 20000 in
theorem gX0_measure_J7_fill_53178 : GoodIn wsX0_measure (va_wsS RX0 25 yJ7_fill_53178 wsJ7_fill_53178) := goodIn_app (goodIn_of _ (by decide +kernel)) ggX0_measure_J7_fill_53178
set_option maxRecDepth 20000 in
theorem ggX0_measure_X0_reach : GoodIn wsX0_measure wsX0_reach := goodIn_r _ [13, 1, 3, 2, 4, 71, 72, 73, 74] (by decide +kernel) (by decide +kernel)
set_option maxRecDepth 20000 in
theorem gX0_measure_X0_reach : GoodIn wsX0_measure (wsV RX0 31 RX0 yX0_reach wsX0_reach) := goodIn_app (goodIn_of _ (by decide +kernel)) ggX0_measure_X0_reach
set_option maxRecDepth 20000 in
theorem ggX0_measure_X0_reachFrom : GoodIn wsX0_measure wsX0_reachFrom := goodIn_r _ [17, 18, 19, 20, 12, 21, 1, 22, 23, 24, 25, 26, 27, 28, 2, 29, 30, 31, 32, 33, 34, 35, 36, 37, 38, 39, 40, 41, 42, 43, 44, 45, 46, 47, 48, 49, 50, 51, 52, 53, 54, 55, 56, 57, 58, 59, 60, 61, 62, 63, 64, 65, 66, 67, 68, 69, 70, 9, 10, 11, 13, 3, 4, 75, 76, 71, 72, 73, 74, 77] (by decide +kernel) (by decide +kernel)
set_option maxRecDepth 20000 in
theorem gX0_measure_X0_reachFrom : GoodIn wsX0_measure (wsV RX0 35 RX0 yX0_reachFrom wsX0_reachFrom) := goodIn_app (goodIn_of _ (by decide +kernel)) ggX0_measure_X0_reachFrom
theorem dX0_measure_0 : decode cX0_measure 0 = .ok (.aload_n 0, 1) := by decide +kernel
theorem dX0_measure_1 : decode cX0_measure 1 = .ok (.getfield 9, 3) := by decide +kernel
theorem dX0_measure_4 : decode cX0_measure 4 = .ok (.iconst (-1), 1) := by decide +kernel
theorem dX0_measure_5 : decode cX0_measure 5 = .ok (.invokestatic 25, 3) := by decide +kernel
theorem dX0_measure_8 : decode cX0_measure 8 = .ok (.aload_n 0, 1) := by decide +kernel
theorem dX0_measure_9 : decode cX0_measure 9 = .ok (.getfield 15, 3) := by decide +kernel
theorem dX0_measure_12 : decode cX0_measure 12 = .ok (.iconst (-1), 1) := by decide +kernel
theorem dX0_measure_13 : decode cX0_measure 13 = .ok (.invokestatic 25, 3) := by decide +kernel
theorem dX0_measure_16 : decode cX0_measure 16 = .ok (.aload_n 0, 1) := by decide +kernel
theorem dX0_measure_17 : decode cX0_measure 17 = .ok (.iconst 0, 1) := by decide +kernel
theorem dX0_measure_18 : decode cX0_measure 18 = .ok (.putfield 21, 3) := by decide +kernel
theorem dX0_measure_21 : decode cX0_measure 21 = .ok (.aload_n 0, 1) := by decide +kernel
theorem dX0_measure_22 : decode cX0_measure 22 = .ok (.iload_n 2, 1) := by decide +kernel
theorem dX0_measure_23 : decode cX0_measure 23 = .ok (.iconst 0, 1) := by decide +kernel
theorem dX0_measure_24 : decode cX0_measure 24 = .ok (.iconst (-1), 1) := by decide +kernel
theorem dX0_measure_25 : decode cX0_measure 25 = .ok (.invokevirtual 31, 3) := by decide +kernel
theorem dX0_measure_28 : decode cX0_measure 28 = .ok (.iconst 0, 1) := by decide +kernel
theorem dX0_measure_29 : decode cX0_measure 29 = .ok (.istore_n 3, 1) := by decide +kernel
theorem dX0_measure_30 : decode cX0_measure 30 = .ok (.iload_n 3, 1) := by decide +kernel
theorem dX0_measure_31 : decode cX0_measure 31 = .ok (.aload_n 0, 1) := by decide +kernel
theorem dX0_measure_32 : decode cX0_measure 32 = .ok (.getfield 21, 3) := by decide +kernel
theorem dX0_measure_35 : decode cX0_measure 35 = .ok (.if_icmp .ge 27, 3) := by decide +kernel
theorem dX0_measure_38 : decode cX0_measure 38 = .ok (.iload_n 3, 1) := by decide +kernel
theorem dX0_measure_39 : decode cX0_measure 39 = .ok (.sipush 128, 3) := by decide +kernel
theorem dX0_measure_42 : decode cX0_measure 42 = .ok (.if_icmp .ge 20, 3) := by decide +kernel
theorem dX0_measure_45 : decode cX0_measure 45 = .ok (.aload_n 0, 1) := by decide +kernel
theorem dX0_measure_46 : decode cX0_measure 46 = .ok (.aload_n 0, 1) := by decide +kernel
theorem dX0_measure_47 : decode cX0_measure 47 = .ok (.getfield 18, 3) := by decide +kernel
theorem dX0_measure_50 : decode cX0_measure 50 = .ok (.iload_n 3, 1) := by decide +kernel
theorem dX0_measure_51 : decode cX0_measure 51 = .ok (.iaload, 1) := by decide +kernel
theorem dX0_measure_52 : decode cX0_measure 52 = .ok (.aload_n 1, 1) := by decide +kernel
theorem dX0_measure_53 : decode cX0_measure 53 = .ok (.invokevirtual 35, 3) := by decide +kernel
theorem dX0_measure_56 : decode cX0_measure 56 = .ok (.iinc 3 1, 3) := by decide +kernel
theorem dX0_measure_59 : decode cX0_measure 59 = .ok (.goto (-29), 3) := by decide +kernel
theorem dX0_measure_62 : decode cX0_measure 62 = .ok (.return_, 1) := by decide +kernel
set_option maxRecDepth 20000 in
theorem ggX0_reachFrom_X0_passesTo : GoodIn wsX0_reachFrom wsX0_passesTo := goodIn_r _ [5, 6, 65, 66, 67, 68] (by decide +kernel) (by decide +kernel)
set_option maxRecDepth 20000 in
theorem gX0_reachFrom_X0_passesTo : GoodIn wsX0_reachFrom (wsV RX0 39 RX0 yX0_passesTo wsX0_passesTo) := goodIn_app (goodIn_of _ (by decide +kernel)) ggX0_reachFrom_X0_passesTo
set_option maxRecDepth 20000 in
theorem ggX0_reachFrom_X11_holderAt : GoodIn wsX0_reachFrom wsX11_holderAt := goodIn_r _ [9] (by decide +kernel) (by decide +kernel)
set_option maxRecDepth 20000 in
theorem gX0_reachFrom_X11_holderAt_n48 : GoodIn wsX0_reachFrom (wsX11_holderAt) := ggX0_reachFrom_X11_holderAt
set_option maxRecDepth 20000 in
theorem ggX0_reachFrom_X0_firstPassTo : GoodIn wsX0_reachFrom wsX0_firstPassTo := goodIn_r _ [13, 14, 65, 66, 67, 68] (by decide +kernel) (by decide +kernel)
set_option maxRecDepth 20000 in
theorem gX0_reachFrom_X0_firstPassTo : GoodIn wsX0_reachFrom (wsV RX0 51 RX0 yX0_firstPassTo wsX0_firstPassTo) := goodIn_app (goodIn_of _ (by decide +kernel)) ggX0_reachFrom_X0_firstPassTo
set_option maxRecDepth 20000 in
theorem ggX0_reachFrom_X11_marksAt : GoodIn wsX0_reachFrom wsX11_marksAt := goodIn_r _ [16] (by decide +kernel) (by decide +kernel)
set_option maxRecDepth 20000 in
theorem gX0_reachFrom_X11_marksAt_n54 : GoodIn wsX0_reachFrom (wsX11_marksAt) := ggX0_reachFrom_X11_marksAt
set_option maxRecDepth 20000 in
theorem ggX0_reachFrom_X5_touched : GoodIn wsX0_reachFrom wsX5_touched := goodIn_r _ [20, 21, 22, 23, 18, 24, 25, 26, 27, 28, 29, 30, 31, 32, 33, 34, 35, 36, 37, 38, 39, 40, 41, 42, 43, 44, 45, 46, 47, 48, 49, 50, 51, 52, 53, 54, 63, 64, 69] (by decide +kernel) (by decide +kernel)
set_option maxRecDepth 20000 in
theorem gX0_reachFrom_X5_touched_n57 : GoodIn wsX0_reachFrom (wsX5_touched) := ggX0_reachFrom_X5_touched
set_option maxRecDepth 20000 in
theorem ggX0_reachFrom_X11_placeOf : GoodIn wsX0_reachFrom wsX11_placeOf := goodIn_r _ [56] (by decide +kernel) (by decide +kernel)
set_option maxRecDepth 20000 in
theorem gX0_reachFrom_X11_placeOf_n61 : GoodIn wsX0_reachFrom (wsX11_placeOf) := ggX0_reachFrom_X11_placeOf
set_option maxRecDepth 20000 in
theorem ggX0_reachFrom_X0_reach : GoodIn wsX0_reachFrom wsX0_reach := goodIn_r _ [60, 6, 61, 14, 62, 65, 66, 67, 68] (by decide +kernel) (by decide +kernel)
set_option maxRecDepth 20000 in
theorem gX0_reachFrom_X0_reach : GoodIn wsX0_reachFrom (wsV RX0 31 RX0 yX0_reach wsX0_reach) := goodIn_app (goodIn_of _ (by decide +kernel)) ggX0_reachFrom_X0_reach
theorem dX0_reachFrom_0 : decode cX0_reachFrom 0 = .ok (.aload_n 0, 1) := by decide +kernel
theorem dX0_reachFrom_1 : decode cX0_reachFrom 1 = .ok (.iload_n 1, 1) := by decide +kernel
theorem dX0_reachFrom_2 : decode cX0_reachFrom 2 = .ok (.invokevirtual 39, 3) := by decide +kernel
theorem dX0_reachFrom_5 : decode cX0_reachFrom 5 = .ok (.iconst 1, 1) := by decide +kernel
theorem dX0_reachFrom_6 : decode cX0_reachFrom 6 = .ok (.iadd, 1) := by decide +kernel
theorem dX0_reachFrom_7 : decode cX0_reachFrom 7 = .ok (.istore_n 3, 1) := by decide +kernel
theorem dX0_reachFrom_8 : decode cX0_reachFrom 8 = .ok (.iconst 0, 1) := by decide +kernel
theorem dX0_reachFrom_9 : decode cX0_reachFrom 9 = .ok (.istore 4, 2) := by decide +kernel
theorem dX0_reachFrom_11 : decode cX0_reachFrom 11 = .ok (.iload 4, 2) := by decide +kernel
theorem dX0_reachFrom_13 : decode cX0_reachFrom 13 = .ok (.aload_n 2, 1) := by decide +kernel
theorem dX0_reachFrom_14 : decode cX0_reachFrom 14 = .ok (.getfield 43, 3) := by decide +kernel
theorem dX0_reachFrom_17 : decode cX0_reachFrom 17 = .ok (.if_icmp .ge 60, 3) := by decide +kernel
theorem dX0_reachFrom_20 : decode cX0_reachFrom 20 = .ok (.iload 4, 2) := by decide +kernel
theorem dX0_reachFrom_22 : decode cX0_reachFrom 22 = .ok (.iload_n 1, 1) := by decide +kernel
theorem dX0_reachFrom_23 : decode cX0_reachFrom 23 = .ok (.invokestatic 48, 3) := by decide +kernel
theorem dX0_reachFrom_26 : decode cX0_reachFrom 26 = .ok (.if_icmp .ne 6, 3) := by decide +kernel
theorem dX0_reachFrom_29 : decode cX0_reachFrom 29 = .ok (.goto 42, 3) := by decide +kernel
theorem dX0_reachFrom_32 : decode cX0_reachFrom 32 = .ok (.iload_n 3, 1) := by decide +kernel
theorem dX0_reachFrom_33 : decode cX0_reachFrom 33 = .ok (.iconst 1, 1) := by decide +kernel
theorem dX0_reachFrom_34 : decode cX0_reachFrom 34 = .ok (.if_icmp .ne 8, 3) := by decide +kernel
theorem dX0_reachFrom_37 : decode cX0_reachFrom 37 = .ok (.iload 4, 2) := by decide +kernel
theorem dX0_reachFrom_39 : decode cX0_reachFrom 39 = .ok (.goto 8, 3) := by decide +kernel
theorem dX0_reachFrom_42 : decode cX0_reachFrom 42 = .ok (.aload_n 0, 1) := by decide +kernel
theorem dX0_reachFrom_43 : decode cX0_reachFrom 43 = .ok (.iload_n 1, 1) := by decide +kernel
theorem dX0_reachFrom_44 : decode cX0_reachFrom 44 = .ok (.invokevirtual 51, 3) := by decide +kernel
theorem dX0_reachFrom_47 : decode cX0_reachFrom 47 = .ok (.istore 5, 2) := by decide +kernel
theorem dX0_reachFrom_49 : decode cX0_reachFrom 49 = .ok (.aload_n 0, 1) := by decide +kernel
theorem dX0_reachFrom_50 : decode cX0_reachFrom 50 = .ok (.iload 4, 2) := by decide +kernel
theorem dX0_reachFrom_52 : decode cX0_reachFrom 52 = .ok (.aload_n 2, 1) := by decide +kernel
theorem dX0_reachFrom_53 : decode cX0_reachFrom 53 = .ok (.iload 4, 2) := by decide +kernel
theorem dX0_reachFrom_55 : decode cX0_reachFrom 55 = .ok (.iload_n 1, 1) := by decide +kernel
theorem dX0_reachFrom_56 : decode cX0_reachFrom 56 = .ok (.invokestatic 54, 3) := by decide +kernel
theorem dX0_reachFrom_59 : decode cX0_reachFrom 59 = .ok (.invokevirtual 57, 3) := by decide +kernel
theorem dX0_reachFrom_62 : decode cX0_reachFrom 62 = .ok (.invokestatic 61, 3) := by decide +kernel
theorem dX0_reachFrom_65 : decode cX0_reachFrom 65 = .ok (.iload_n 3, 1) := by decide +kernel
theorem dX0_reachFrom_66 : decode cX0_reachFrom 66 = .ok (.iload 5, 2) := by decide +kernel
theorem dX0_reachFrom_68 : decode cX0_reachFrom 68 = .ok (.invokevirtual 31, 3) := by decide +kernel
theorem dX0_reachFrom_71 : decode cX0_reachFrom 71 = .ok (.iinc 4 1, 3) := by decide +kernel
theorem dX0_reachFrom_74 : decode cX0_reachFrom 74 = .ok (.goto (-63), 3) := by decide +kernel
theorem dX0_reachFrom_77 : decode cX0_reachFrom 77 = .ok (.return_, 1) := by decide +kernel
theorem dX0_reach_0 : decode cX0_reach 0 = .ok (.iload_n 1, 1) := by decide +kernel
theorem dX0_reach_1 : decode cX0_reach 1 = .ok (.ifCond .lt 30, 3) := by decide +kernel
theorem dX0_reach_4 : decode cX0_reach 4 = .ok (.iload_n 1, 1) := by decide +kernel
theorem dX0_reach_5 : decode cX0_reach 5 = .ok (.sipush 128, 3) := by decide +kernel
theorem dX0_reach_8 : decode cX0_reach 8 = .ok (.if_icmp .ge 23, 3) := by decide +kernel
theorem dX0_reach_11 : decode cX0_reach 11 = .ok (.aload_n 0, 1) := by decide +kernel
theorem dX0_reach_12 : decode cX0_reach 12 = .ok (.getfield 9, 3) := by decide +kernel
theorem dX0_reach_15 : decode cX0_reach 15 = .ok (.iload_n 1, 1) := by decide +kernel
theorem dX0_reach_16 : decode cX0_reach 16 = .ok (.iaload, 1) := by decide +kernel
theorem dX0_reach_17 : decode cX0_reach 17 = .ok (.iconst (-1), 1) := by decide +kernel
theorem dX0_reach_18 : decode cX0_reach 18 = .ok (.if_icmp .ne 13, 3) := by decide +kernel
theorem dX0_reach_21 : decode cX0_reach 21 = .ok (.aload_n 0, 1) := by decide +kernel
theorem dX0_reach_22 : decode cX0_reach 22 = .ok (.getfield 21, 3) := by decide +kernel
theorem dX0_reach_25 : decode cX0_reach 25 = .ok (.sipush 128, 3) := by decide +kernel
theorem dX0_reach_28 : decode cX0_reach 28 = .ok (.if_icmp .lt 4, 3) := by decide +kernel
theorem dX0_reach_31 : decode cX0_reach 31 = .ok (.return_, 1) := by decide +kernel
theorem dX0_reach_32 : decode cX0_reach 32 = .ok (.aload_n 0, 1) := by decide +kernel
theorem dX0_reach_33 : decode cX0_reach 33 = .ok (.getfield 9, 3) := by decide +kernel
theorem dX0_reach_36 : decode cX0_reach 36 = .ok (.iload_n 1, 1) := by decide +kernel
theorem dX0_reach_37 : decode cX0_reach 37 = .ok (.iload_n 2, 1) := by decide +kernel
theorem dX0_reach_38 : decode cX0_reach 38 = .ok (.iastore, 1) := by decide +kernel
theorem dX0_reach_39 : decode cX0_reach 39 = .ok (.aload_n 0, 1) := by decide +kernel
theorem dX0_reach_40 : decode cX0_reach 40 = .ok (.getfield 15, 3) := by decide +kernel
theorem dX0_reach_43 : decode cX0_reach 43 = .ok (.iload_n 1, 1) := by decide +kernel
theorem dX0_reach_44 : decode cX0_reach 44 = .ok (.iload_n 3, 1) := by decide +kernel
theorem dX0_reach_45 : decode cX0_reach 45 = .ok (.iastore, 1) := by decide +kernel
theorem dX0_reach_46 : decode cX0_reach 46 = .ok (.aload_n 0, 1) := by decide +kernel
theorem dX0_reach_47 : decode cX0_reach 47 = .ok (.getfield 18, 3) := by decide +kernel
theorem dX0_reach_50 : decode cX0_reach 50 = .ok (.aload_n 0, 1) := by decide +kernel
theorem dX0_reach_51 : decode cX0_reach 51 = .ok (.getfield 21, 3) := by decide +kernel
theorem dX0_reach_54 : decode cX0_reach 54 = .ok (.iload_n 1, 1) := by decide +kernel
theorem dX0_reach_55 : decode cX0_reach 55 = .ok (.iastore, 1) := by decide +kernel
theorem dX0_reach_56 : decode cX0_reach 56 = .ok (.aload_n 0, 1) := by decide +kernel
theorem dX0_reach_57 : decode cX0_reach 57 = .ok (.dup, 1) := by decide +kernel
theorem dX0_reach_58 : decode cX0_reach 58 = .ok (.getfield 21, 3) := by decide +kernel
theorem dX0_reach_61 : decode cX0_reach 61 = .ok (.iconst 1, 1) := by decide +kernel
theorem dX0_reach_62 : decode cX0_reach 62 = .ok (.iadd, 1) := by decide +kernel
theorem dX0_reach_63 : decode cX0_reach 63 = .ok (.putfield 21, 3) := by decide +kernel
theorem dX0_reach_66 : decode cX0_reach 66 = .ok (.return_, 1) := by decide +kernel
set_option maxRecDepth 20000 in
theorem ggX1_init_X6_init : GoodIn wsX1_init wsX6_init := goodIn_r _ [3, 4, 5, 6] (by decide +kernel) (by decide +kernel)
set_option maxRecDepth 20000 in
theorem gX1_init_X6_init_n3 : GoodIn wsX1_init (wsX6_init) := ggX1_init_X6_init
theorem dX1_init_0 : decode cX1_init 0 = .ok (.aload_n 0, 1) := by decide +kernel
theorem dX1_init_1 : decode cX1_init 1 = .ok (.invokespecial 3, 3) := by decide +kernel
theorem dX1_init_4 : decode cX1_init 4 = .ok (.return_, 1) := by decide +kernel
theorem dX1_kind_0 : decode cX1_kind 0 = .ok (.iconst 1, 1) := by decide +kernel
theorem dX1_kind_1 : decode cX1_kind 1 = .ok (.ireturn, 1) := by decide +kernel
theorem dX1_touched_0 : decode cX1_touched 0 = .ok (.iload_n 1, 1) := by decide +kernel
theorem dX1_touched_1 : decode cX1_touched 1 = .ok (.bipush 8, 2) := by decide +kernel
theorem dX1_touched_3 : decode cX1_touched 3 = .ok (.iadd, 1) := by decide +kernel
theorem dX1_touched_4 : decode cX1_touched 4 = .ok (.bipush 32, 2) := by decide +kernel
theorem dX1_touched_6 : decode cX1_touched 6 = .ok (.irem, 1) := by decide +kernel
theorem dX1_touched_7 : decode cX1_touched 7 = .ok (.ireturn, 1) := by decide +kernel
set_option maxRecDepth 20000 in
theorem ggX2_init_X1_init : GoodIn wsX2_init wsX1_init := goodIn_r _ [3, 4, 5, 6, 7, 8, 9] (by decide +kernel) (by decide +kernel)
set_option maxRecDepth 20000 in
theorem gX2_init_X1_init_n3 : GoodIn wsX2_init (wsX1_init) := ggX2_init_X1_init
theorem dX2_init_0 : decode cX2_init 0 = .ok (.aload_n 0, 1) := by decide +kernel
theorem dX2_init_1 : decode cX2_init 1 = .ok (.invokespecial 3, 3) := by decide +kernel
theorem dX2_init_4 : decode cX2_init 4 = .ok (.return_, 1) := by decide +kernel
theorem dX2_kind_0 : decode cX2_kind 0 = .ok (.iconst 4, 1) := by decide +kernel
theorem dX2_kind_1 : decode cX2_kind 1 = .ok (.ireturn, 1) := by decide +kernel
set_option maxRecDepth 20000 in
theorem ggX2_touched_X1_touched : GoodIn wsX2_touched wsX1_touched := goodIn_r _ [6] (by decide +kernel) (by decide +kernel)
set_option maxRecDepth 20000 in
theorem gX2_touched_X1_touched_s9 : GoodIn wsX2_touched (va_wsSU RX2 9 yX1_touched wsX1_touched) := goodIn_app (goodIn_of _ (by decide +kernel)) ggX2_touched_X1_touched
theorem dX2_touched_0 : decode cX2_touched 0 = .ok (.aload_n 0, 1) := by decide +kernel
theorem dX2_touched_1 : decode cX2_touched 1 = .ok (.iload_n 1, 1) := by decide +kernel
theorem dX2_touched_2 : decode cX2_touched 2 = .ok (.invokespecial 9, 3) := by decide +kernel
theorem dX2_touched_5 : decode cX2_touched 5 = .ok (.istore_n 2, 1) := by decide +kernel
theorem dX2_touched_6 : decode cX2_touched 6 = .ok (.iload_n 2, 1) := by decide +kernel
theorem dX2_touched_7 : decode cX2_touched 7 = .ok (.iload_n 2, 1) := by decide +kernel
theorem dX2_touched_8 : decode cX2_touched 8 = .ok (.bipush 8, 2) := by decide +kernel
theorem dX2_touched_10 : decode cX2_touched 10 = .ok (.irem, 1) := by decide +kernel
theorem dX2_touched_11 : decode cX2_touched 11 = .ok (.isub, 1) := by decide +kernel
theorem dX2_touched_12 : decode cX2_touched 12 = .ok (.bipush 7, 2) := by decide +kernel
theorem dX2_touched_14 : decode cX2_touched 14 = .ok (.iload_n 2, 1) := by decide +kernel
theorem dX2_touched_15 : decode cX2_touched 15 = .ok (.bipush 8, 2) := by decide +kernel
theorem dX2_touched_17 : decode cX2_touched 17 = .ok (.irem, 1) := by decide +kernel
theorem dX2_touched_18 : decode cX2_touched 18 = .ok (.isub, 1) := by decide +kernel
theorem dX2_touched_19 : decode cX2_touched 19 = .ok (.iadd, 1) := by decide +kernel
theorem dX2_touched_20 : decode cX2_touched 20 = .ok (.ireturn, 1) := by decide +kernel
theorem dX3_init_0 : decode cX3_init 0 = .ok (.aload_n 0, 1) := by decide +kernel
theorem dX3_init_1 : decode cX3_init 1 = .ok (.invokespecial 3, 3) := by decide +kernel
theorem dX3_init_4 : decode cX3_init 4 = .ok (.aload_n 0, 1) := by decide +kernel
theorem dX3_init_5 : decode cX3_init 5 = .ok (.bipush 8, 2) := by decide +kernel
theorem dX3_init_7 : decode cX3_init 7 = .ok (.newarray .int, 2) := by decide +kernel
theorem dX3_init_9 : decode cX3_init 9 = .ok (.putfield 9, 3) := by decide +kernel
theorem dX3_init_12 : decode cX3_init 12 = .ok (.aload_n 0, 1) := by decide +kernel
theorem dX3_init_13 : decode cX3_init 13 = .ok (.bipush 8, 2) := by decide +kernel
theorem dX3_init_15 : decode cX3_init 15 = .ok (.newarray .int, 2) := by decide +kernel
theorem dX3_init_17 : decode cX3_init 17 = .ok (.putfield 15, 3) := by decide +kernel
theorem dX3_init_20 : decode cX3_init 20 = .ok (.aload_n 0, 1) := by decide +kernel
theorem dX3_init_21 : decode cX3_init 21 = .ok (.bipush 8, 2) := by decide +kernel
theorem dX3_init_23 : decode cX3_init 23 = .ok (.newarray .int, 2) := by decide +kernel
theorem dX3_init_25 : decode cX3_init 25 = .ok (.putfield 18, 3) := by decide +kernel
theorem dX3_init_28 : decode cX3_init 28 = .ok (.aload_n 0, 1) := by decide +kernel
theorem dX3_init_29 : decode cX3_init 29 = .ok (.iconst 0, 1) := by decide +kernel
theorem dX3_init_30 : decode cX3_init 30 = .ok (.putfield 21, 3) := by decide +kernel
theorem dX3_init_33 : decode cX3_init 33 = .ok (.return_, 1) := by decide +kernel
theorem dX3_add_0 : decode cX3_add 0 = .ok (.aload_n 0, 1) := by decide +kernel
theorem dX3_add_1 : decode cX3_add 1 = .ok (.getfield 21, 3) := by decide +kernel
theorem dX3_add_4 : decode cX3_add 4 = .ok (.bipush 8, 2) := by decide +kernel
theorem dX3_add_6 : decode cX3_add 6 = .ok (.if_icmp .lt 5, 3) := by decide +kernel
theorem dX3_add_9 : decode cX3_add 9 = .ok (.iconst 0, 1) := by decide +kernel
theorem dX3_add_10 : decode cX3_add 10 = .ok (.ireturn, 1) := by decide +kernel
theorem dX3_add_11 : decode cX3_add 11 = .ok (.aload_n 0, 1) := by decide +kernel
theorem dX3_add_12 : decode cX3_add 12 = .ok (.getfield 9, 3) := by decide +kernel
theorem dX3_add_15 : decode cX3_add 15 = .ok (.aload_n 0, 1) := by decide +kernel
theorem dX3_add_16 : decode cX3_add 16 = .ok (.getfield 21, 3) := by decide +kernel
theorem dX3_add_19 : decode cX3_add 19 = .ok (.iload_n 1, 1) := by decide +kernel
theorem dX3_add_20 : decode cX3_add 20 = .ok (.iastore, 1) := by decide +kernel
theorem dX3_add_21 : decode cX3_add 21 = .ok (.aload_n 0, 1) := by decide +kernel
theorem dX3_add_22 : decode cX3_add 22 = .ok (.getfield 15, 3) := by decide +kernel
theorem dX3_add_25 : decode cX3_add 25 = .ok (.aload_n 0, 1) := by decide +kernel
theorem dX3_add_26 : decode cX3_add 26 = .ok (.getfield 21, 3) := by decide +kernel
theorem dX3_add_29 : decode cX3_add 29 = .ok (.iload_n 2, 1) := by decide +kernel
theorem dX3_add_30 : decode cX3_add 30 = .ok (.iastore, 1) := by decide +kernel
theorem dX3_add_31 : decode cX3_add 31 = .ok (.aload_n 0, 1) := by decide +kernel
theorem dX3_add_32 : decode cX3_add 32 = .ok (.getfield 18, 3) := by decide +kernel
theorem dX3_add_35 : decode cX3_add 35 = .ok (.aload_n 0, 1) := by decide +kernel
theorem dX3_add_36 : decode cX3_add 36 = .ok (.getfield 21, 3) := by decide +kernel
theorem dX3_add_39 : decode cX3_add 39 = .ok (.iload_n 3, 1) := by decide +kernel
theorem dX3_add_40 : decode cX3_add 40 = .ok (.iastore, 1) := by decide +kernel
theorem dX3_add_41 : decode cX3_add 41 = .ok (.aload_n 0, 1) := by decide +kernel
theorem dX3_add_42 : decode cX3_add 42 = .ok (.dup, 1) := by decide +kernel
theorem dX3_add_43 : decode cX3_add 43 = .ok (.getfield 21, 3) := by decide +kernel
theorem dX3_add_46 : decode cX3_add 46 = .ok (.iconst 1, 1) := by decide +kernel
theorem dX3_add_47 : decode cX3_add 47 = .ok (.iadd, 1) := by decide +kernel
theorem dX3_add_48 : decode cX3_add 48 = .ok (.putfield 21, 3) := by decide +kernel
theorem dX3_add_51 : decode cX3_add 51 = .ok (.iconst 1, 1) := by decide +kernel
theorem dX3_add_52 : decode cX3_add 52 = .ok (.ireturn, 1) := by decide +kernel
theorem dX3_clear_0 : decode cX3_clear 0 = .ok (.aload_n 0, 1) := by decide +kernel
theorem dX3_clear_1 : decode cX3_clear 1 = .ok (.iconst 0, 1) := by decide +kernel
theorem dX3_clear_2 : decode cX3_clear 2 = .ok (.putfield 21, 3) := by decide +kernel
theorem dX3_clear_5 : decode cX3_clear 5 = .ok (.return_, 1) := by decide +kernel
theorem dX3_copyFrom_0 : decode cX3_copyFrom 0 = .ok (.aload_n 0, 1) := by decide +kernel
theorem dX3_copyFrom_1 : decode cX3_copyFrom 1 = .ok (.aload_n 1, 1) := by decide +kernel
theorem dX3_copyFrom_2 : decode cX3_copyFrom 2 = .ok (.getfield 21, 3) := by decide +kernel
theorem dX3_copyFrom_5 : decode cX3_copyFrom 5 = .ok (.putfield 21, 3) := by decide +kernel
theorem dX3_copyFrom_8 : decode cX3_copyFrom 8 = .ok (.iconst 0, 1) := by decide +kernel
theorem dX3_copyFrom_9 : decode cX3_copyFrom 9 = .ok (.istore_n 2, 1) := by decide +kernel
theorem dX3_copyFrom_10 : decode cX3_copyFrom 10 = .ok (.iload_n 2, 1) := by decide +kernel
theorem dX3_copyFrom_11 : decode cX3_copyFrom 11 = .ok (.bipush 8, 2) := by decide +kernel
theorem dX3_copyFrom_13 : decode cX3_copyFrom 13 = .ok (.if_icmp .ge 45, 3) := by decide +kernel
theorem dX3_copyFrom_16 : decode cX3_copyFrom 16 = .ok (.aload_n 0, 1) := by decide +kernel
theorem dX3_copyFrom_17 : decode cX3_copyFrom 17 = .ok (.getfield 9, 3) := by decide +kernel
theorem dX3_copyFrom_20 : decode cX3_copyFrom 20 = .ok (.iload_n 2, 1) := by decide +kernel
theorem dX3_copyFrom_21 : decode cX3_copyFrom 21 = .ok (.aload_n 1, 1) := by decide +kernel
theorem dX3_copyFrom_22 : decode cX3_copyFrom 22 = .ok (.getfield 9, 3) := by decide +kernel
theorem dX3_copyFrom_25 : decode cX3_copyFrom 25 = .ok (.iload_n 2, 1) := by decide +kernel
theorem dX3_copyFrom_26 : decode cX3_copyFrom 26 = .ok (.iaload, 1) := by decide +kernel
theorem dX3_copyFrom_27 : decode cX3_copyFrom 27 = .ok (.iastore, 1) := by decide +kernel
theorem dX3_copyFrom_28 : decode cX3_copyFrom 28 = .ok (.aload_n 0, 1) := by decide +kernel
theorem dX3_copyFrom_29 : decode cX3_copyFrom 29 = .ok (.getfield 15, 3) := by decide +kernel
theorem dX3_copyFrom_32 : decode cX3_copyFrom 32 = .ok (.iload_n 2, 1) := by decide +kernel
theorem dX3_copyFrom_33 : decode cX3_copyFrom 33 = .ok (.aload_n 1, 1) := by decide +kernel
theorem dX3_copyFrom_34 : decode cX3_copyFrom 34 = .ok (.getfield 15, 3) := by decide +kernel
theorem dX3_copyFrom_37 : decode cX3_copyFrom 37 = .ok (.iload_n 2, 1) := by decide +kernel
theorem dX3_copyFrom_38 : decode cX3_copyFrom 38 = .ok (.iaload, 1) := by decide +kernel
theorem dX3_copyFrom_39 : decode cX3_copyFrom 39 = .ok (.iastore, 1) := by decide +kernel
theorem dX3_copyFrom_40 : decode cX3_copyFrom 40 = .ok (.aload_n 0, 1) := by decide +kernel
theorem dX3_copyFrom_41 : decode cX3_copyFrom 41 = .ok (.getfield 18, 3) := by decide +kernel
theorem dX3_copyFrom_44 : decode cX3_copyFrom 44 = .ok (.iload_n 2, 1) := by decide +kernel
theorem dX3_copyFrom_45 : decode cX3_copyFrom 45 = .ok (.aload_n 1, 1) := by decide +kernel
theorem dX3_copyFrom_46 : decode cX3_copyFrom 46 = .ok (.getfield 18, 3) := by decide +kernel
theorem dX3_copyFrom_49 : decode cX3_copyFrom 49 = .ok (.iload_n 2, 1) := by decide +kernel
theorem dX3_copyFrom_50 : decode cX3_copyFrom 50 = .ok (.iaload, 1) := by decide +kernel
theorem dX3_copyFrom_51 : decode cX3_copyFrom 51 = .ok (.iastore, 1) := by decide +kernel
theorem dX3_copyFrom_52 : decode cX3_copyFrom 52 = .ok (.iinc 2 1, 3) := by decide +kernel
theorem dX3_copyFrom_55 : decode cX3_copyFrom 55 = .ok (.goto (-45), 3) := by decide +kernel
theorem dX3_copyFrom_58 : decode cX3_copyFrom 58 = .ok (.return_, 1) := by decide +kernel
set_option maxRecDepth 20000 in
theorem ggX3_fit_X11_seenAt : GoodIn wsX3_fit wsX11_seenAt := goodIn_r _ [7, 8, 9, 6, 10, 11, 12, 13] (by decide +kernel) (by decide +kernel)
set_option maxRecDepth 20000 in
theorem gX3_fit_X11_seenAt_n25 : GoodIn wsX3_fit (wsX11_seenAt) := ggX3_fit_X11_seenAt
theorem dX3_fit_0 : decode cX3_fit 0 = .ok (.iconst 0, 1) := by decide +kernel
theorem dX3_fit_1 : decode cX3_fit 1 = .ok (.istore_n 3, 1) := by decide +kernel
theorem dX3_fit_2 : decode cX3_fit 2 = .ok (.iload_n 3, 1) := by decide +kernel
theorem dX3_fit_3 : decode cX3_fit 3 = .ok (.aload_n 0, 1) := by decide +kernel
theorem dX3_fit_4 : decode cX3_fit 4 = .ok (.getfield 21, 3) := by decide +kernel
theorem dX3_fit_7 : decode cX3_fit 7 = .ok (.if_icmp .ge 46, 3) := by decide +kernel
theorem dX3_fit_10 : decode cX3_fit 10 = .ok (.iload_n 3, 1) := by decide +kernel
theorem dX3_fit_11 : decode cX3_fit 11 = .ok (.bipush 8, 2) := by decide +kernel
theorem dX3_fit_13 : decode cX3_fit 13 = .ok (.if_icmp .ge 40, 3) := by decide +kernel
theorem dX3_fit_16 : decode cX3_fit 16 = .ok (.aload_n 0, 1) := by decide +kernel
theorem dX3_fit_17 : decode cX3_fit 17 = .ok (.getfield 9, 3) := by decide +kernel
theorem dX3_fit_20 : decode cX3_fit 20 = .ok (.iload_n 3, 1) := by decide +kernel
theorem dX3_fit_21 : decode cX3_fit 21 = .ok (.iaload, 1) := by decide +kernel
theorem dX3_fit_22 : decode cX3_fit 22 = .ok (.iload_n 1, 1) := by decide +kernel
theorem dX3_fit_23 : decode cX3_fit 23 = .ok (.if_icmp .ne 24, 3) := by decide +kernel
theorem dX3_fit_26 : decode cX3_fit 26 = .ok (.iload_n 2, 1) := by decide +kernel
theorem dX3_fit_27 : decode cX3_fit 27 = .ok (.aload_n 0, 1) := by decide +kernel
theorem dX3_fit_28 : decode cX3_fit 28 = .ok (.getfield 15, 3) := by decide +kernel
theorem dX3_fit_31 : decode cX3_fit 31 = .ok (.iload_n 3, 1) := by decide +kernel
theorem dX3_fit_32 : decode cX3_fit 32 = .ok (.iaload, 1) := by decide +kernel
theorem dX3_fit_33 : decode cX3_fit 33 = .ok (.invokestatic 25, 3) := by decide +kernel
theorem dX3_fit_36 : decode cX3_fit 36 = .ok (.aload_n 0, 1) := by decide +kernel
theorem dX3_fit_37 : decode cX3_fit 37 = .ok (.getfield 18, 3) := by decide +kernel
theorem dX3_fit_40 : decode cX3_fit 40 = .ok (.iload_n 3, 1) := by decide +kernel
theorem dX3_fit_41 : decode cX3_fit 41 = .ok (.iaload, 1) := by decide +kernel
theorem dX3_fit_42 : decode cX3_fit 42 = .ok (.if_icmp .eq 5, 3) := by decide +kernel
theorem dX3_fit_45 : decode cX3_fit 45 = .ok (.iconst 0, 1) := by decide +kernel
theorem dX3_fit_46 : decode cX3_fit 46 = .ok (.ireturn, 1) := by decide +kernel
theorem dX3_fit_47 : decode cX3_fit 47 = .ok (.iinc 3 1, 3) := by decide +kernel
theorem dX3_fit_50 : decode cX3_fit 50 = .ok (.goto (-48), 3) := by decide +kernel
theorem dX3_fit_53 : decode cX3_fit 53 = .ok (.iconst 1, 1) := by decide +kernel
theorem dX3_fit_54 : decode cX3_fit 54 = .ok (.ireturn, 1) := by decide +kernel
theorem dX4_init_0 : decode cX4_init 0 = .ok (.aload_n 0, 1) := by decide +kernel
theorem dX4_init_1 : decode cX4_init 1 = .ok (.invokespecial 3, 3) := by decide +kernel
theorem dX4_init_4 : decode cX4_init 4 = .ok (.aload_n 0, 1) := by decide +kernel
theorem dX4_init_5 : decode cX4_init 5 = .ok (.bipush 10, 2) := by decide +kernel
theorem dX4_init_7 : decode cX4_init 7 = .ok (.newarray .int, 2) := by decide +kernel
theorem dX4_init_9 : decode cX4_init 9 = .ok (.putfield 9, 3) := by decide +kernel
theorem dX4_init_12 : decode cX4_init 12 = .ok (.aload_n 0, 1) := by decide +kernel
theorem dX4_init_13 : decode cX4_init 13 = .ok (.iconst 0, 1) := by decide +kernel
theorem dX4_init_14 : decode cX4_init 14 = .ok (.putfield 15, 3) := by decide +kernel
theorem dX4_init_17 : decode cX4_init 17 = .ok (.return_, 1) := by decide +kernel
theorem dX4_add_0 : decode cX4_add 0 = .ok (.aload_n 0, 1) := by decide +kernel
theorem dX4_add_1 : decode cX4_add 1 = .ok (.getfield 15, 3) := by decide +kernel
theorem dX4_add_4 : decode cX4_add 4 = .ok (.bipush 10, 2) := by decide +kernel
theorem dX4_add_6 : decode cX4_add 6 = .ok (.if_icmp .lt 5, 3) := by decide +kernel
theorem dX4_add_9 : decode cX4_add 9 = .ok (.iconst 0, 1) := by decide +kernel
theorem dX4_add_10 : decode cX4_add 10 = .ok (.ireturn, 1) := by decide +kernel
theorem dX4_add_11 : decode cX4_add 11 = .ok (.aload_n 0, 1) := by decide +kernel
theorem dX4_add_12 : decode cX4_add 12 = .ok (.getfield 9, 3) := by decide +kernel
theorem dX4_add_15 : decode cX4_add 15 = .ok (.aload_n 0, 1) := by decide +kernel
theorem dX4_add_16 : decode cX4_add 16 = .ok (.getfield 15, 3) := by decide +kernel
theorem dX4_add_19 : decode cX4_add 19 = .ok (.iload_n 1, 1) := by decide +kernel
theorem dX4_add_20 : decode cX4_add 20 = .ok (.iastore, 1) := by decide +kernel
theorem dX4_add_21 : decode cX4_add 21 = .ok (.aload_n 0, 1) := by decide +kernel
theorem dX4_add_22 : decode cX4_add 22 = .ok (.dup, 1) := by decide +kernel
theorem dX4_add_23 : decode cX4_add 23 = .ok (.getfield 15, 3) := by decide +kernel
theorem dX4_add_26 : decode cX4_add 26 = .ok (.iconst 1, 1) := by decide +kernel
theorem dX4_add_27 : decode cX4_add 27 = .ok (.iadd, 1) := by decide +kernel
theorem dX4_add_28 : decode cX4_add 28 = .ok (.putfield 15, 3) := by decide +kernel
theorem dX4_add_31 : decode cX4_add 31 = .ok (.iconst 1, 1) := by decide +kernel
theorem dX4_add_32 : decode cX4_add 32 = .ok (.ireturn, 1) := by decide +kernel
theorem dX4_clear_0 : decode cX4_clear 0 = .ok (.aload_n 0, 1) := by decide +kernel
theorem dX4_clear_1 : decode cX4_clear 1 = .ok (.iconst 0, 1) := by decide +kernel
theorem dX4_clear_2 : decode cX4_clear 2 = .ok (.putfield 15, 3) := by decide +kernel
theorem dX4_clear_5 : decode cX4_clear 5 = .ok (.return_, 1) := by decide +kernel
theorem dX4_at_0 : decode cX4_at 0 = .ok (.iload_n 1, 1) := by decide +kernel
theorem dX4_at_1 : decode cX4_at 1 = .ok (.ifCond .lt 26, 3) := by decide +kernel
theorem dX4_at_4 : decode cX4_at 4 = .ok (.iload_n 1, 1) := by decide +kernel
theorem dX4_at_5 : decode cX4_at 5 = .ok (.aload_n 0, 1) := by decide +kernel
theorem dX4_at_6 : decode cX4_at 6 = .ok (.getfield 15, 3) := by decide +kernel
theorem dX4_at_9 : decode cX4_at 9 = .ok (.if_icmp .ge 18, 3) := by decide +kernel
theorem dX4_at_12 : decode cX4_at 12 = .ok (.iload_n 1, 1) := by decide +kernel
theorem dX4_at_13 : decode cX4_at 13 = .ok (.bipush 10, 2) := by decide +kernel
theorem dX4_at_15 : decode cX4_at 15 = .ok (.if_icmp .ge 12, 3) := by decide +kernel
theorem dX4_at_18 : decode cX4_at 18 = .ok (.aload_n 0, 1) := by decide +kernel
theorem dX4_at_19 : decode cX4_at 19 = .ok (.getfield 9, 3) := by decide +kernel
theorem dX4_at_22 : decode cX4_at 22 = .ok (.iload_n 1, 1) := by decide +kernel
theorem dX4_at_23 : decode cX4_at 23 = .ok (.iaload, 1) := by decide +kernel
theorem dX4_at_24 : decode cX4_at 24 = .ok (.goto 4, 3) := by decide +kernel
theorem dX4_at_27 : decode cX4_at 27 = .ok (.iconst 0, 1) := by decide +kernel
theorem dX4_at_28 : decode cX4_at 28 = .ok (.ireturn, 1) := by decide +kernel
set_option maxRecDepth 20000 in
theorem ggX4_leadingPeople_X4_at : GoodIn wsX4_leadingPeople wsX4_at := goodIn_r _ [5, 6, 7, 11, 12] (by decide +kernel) (by decide +kernel)
set_option maxRecDepth 20000 in
theorem gX4_leadingPeople_X4_at : GoodIn wsX4_leadingPeople (wsV RX4 19 RX4 yX4_at wsX4_at) := goodIn_app (goodIn_of _ (by decide +kernel)) ggX4_leadingPeople_X4_at
set_option maxRecDepth 20000 in
theorem ggX4_leadingPeople_X5_isKindLetter : GoodIn wsX4_leadingPeople wsX5_isKindLetter := goodIn_r _ [10] (by decide +kernel) (by decide +kernel)
set_option maxRecDepth 20000 in
theorem gX4_leadingPeople_X5_isKindLetter_n23 : GoodIn wsX4_leadingPeople (wsX5_isKindLetter) := ggX4_leadingPeople_X5_isKindLetter
theorem dX4_leadingPeople_0 : decode cX4_leadingPeople 0 = .ok (.iconst 0, 1) := by decide +kernel
theorem dX4_leadingPeople_1 : decode cX4_leadingPeople 1 = .ok (.istore_n 1, 1) := by decide +kernel
theorem dX4_leadingPeople_2 : decode cX4_leadingPeople 2 = .ok (.iload_n 1, 1) := by decide +kernel
theorem dX4_leadingPeople_3 : decode cX4_leadingPeople 3 = .ok (.iconst 4, 1) := by decide +kernel
theorem dX4_leadingPeople_4 : decode cX4_leadingPeople 4 = .ok (.if_icmp .ge 20, 3) := by decide +kernel
theorem dX4_leadingPeople_7 : decode cX4_leadingPeople 7 = .ok (.aload_n 0, 1) := by decide +kernel
theorem dX4_leadingPeople_8 : decode cX4_leadingPeople 8 = .ok (.iload_n 1, 1) := by decide +kernel
theorem dX4_leadingPeople_9 : decode cX4_leadingPeople 9 = .ok (.invokevirtual 19, 3) := by decide +kernel
theorem dX4_leadingPeople_12 : decode cX4_leadingPeople 12 = .ok (.invokestatic 23, 3) := by decide +kernel
theorem dX4_leadingPeople_15 : decode cX4_leadingPeople 15 = .ok (.ifCond .eq 9, 3) := by decide +kernel
theorem dX4_leadingPeople_18 : decode cX4_leadingPeople 18 = .ok (.iinc 1 1, 3) := by decide +kernel
theorem dX4_leadingPeople_21 : decode cX4_leadingPeople 21 = .ok (.goto (-19), 3) := by decide +kernel
theorem dX4_leadingPeople_24 : decode cX4_leadingPeople 24 = .ok (.iload_n 1, 1) := by decide +kernel
theorem dX4_leadingPeople_25 : decode cX4_leadingPeople 25 = .ok (.ireturn, 1) := by decide +kernel
set_option maxRecDepth 20000 in
theorem ggX4_faultPlace_X4_leadingPeople : GoodIn wsX4_faultPlace wsX4_leadingPeople := goodIn_r _ [6, 7, 8, 9, 5, 10, 1, 11, 12, 13, 14, 19, 20] (by decide +kernel) (by decide +kernel)
set_option maxRecDepth 20000 in
theorem gX4_faultPlace_X4_leadingPeople : GoodIn wsX4_faultPlace (wsV RX4 29 RX4 yX4_leadingPeople wsX4_leadingPeople) := goodIn_app (goodIn_of _ (by decide +kernel)) ggX4_faultPlace_X4_leadingPeople
set_option maxRecDepth 20000 in
theorem ggX4_faultPlace_X4_fitsInTail : GoodIn wsX4_faultPlace wsX4_fitsInTail := goodIn_r _ [18, 7, 8, 9, 5, 10, 1, 11, 19, 20] (by decide +kernel) (by decide +kernel)
set_option maxRecDepth 20000 in
theorem gX4_faultPlace_X4_fitsInTail : GoodIn wsX4_faultPlace (wsV RX4 33 RX4 yX4_fitsInTail wsX4_fitsInTail) := goodIn_app (goodIn_of _ (by decide +kernel)) ggX4_faultPlace_X4_fitsInTail
theorem dX4_faultPlace_0 : decode cX4_faultPlace 0 = .ok (.aload_n 0, 1) := by decide +kernel
theorem dX4_faultPlace_1 : decode cX4_faultPlace 1 = .ok (.invokevirtual 29, 3) := by decide +kernel
theorem dX4_faultPlace_4 : decode cX4_faultPlace 4 = .ok (.istore_n 1, 1) := by decide +kernel
theorem dX4_faultPlace_5 : decode cX4_faultPlace 5 = .ok (.iload_n 1, 1) := by decide +kernel
theorem dX4_faultPlace_6 : decode cX4_faultPlace 6 = .ok (.istore_n 2, 1) := by decide +kernel
theorem dX4_faultPlace_7 : decode cX4_faultPlace 7 = .ok (.iload_n 2, 1) := by decide +kernel
theorem dX4_faultPlace_8 : decode cX4_faultPlace 8 = .ok (.aload_n 0, 1) := by decide +kernel
theorem dX4_faultPlace_9 : decode cX4_faultPlace 9 = .ok (.getfield 15, 3) := by decide +kernel
theorem dX4_faultPlace_12 : decode cX4_faultPlace 12 = .ok (.if_icmp .ge 20, 3) := by decide +kernel
theorem dX4_faultPlace_15 : decode cX4_faultPlace 15 = .ok (.aload_n 0, 1) := by decide +kernel
theorem dX4_faultPlace_16 : decode cX4_faultPlace 16 = .ok (.iload_n 2, 1) := by decide +kernel
theorem dX4_faultPlace_17 : decode cX4_faultPlace 17 = .ok (.iload_n 1, 1) := by decide +kernel
theorem dX4_faultPlace_18 : decode cX4_faultPlace 18 = .ok (.invokevirtual 33, 3) := by decide +kernel
theorem dX4_faultPlace_21 : decode cX4_faultPlace 21 = .ok (.ifCond .ne 5, 3) := by decide +kernel
theorem dX4_faultPlace_24 : decode cX4_faultPlace 24 = .ok (.iload_n 2, 1) := by decide +kernel
theorem dX4_faultPlace_25 : decode cX4_faultPlace 25 = .ok (.ireturn, 1) := by decide +kernel
theorem dX4_faultPlace_26 : decode cX4_faultPlace 26 = .ok (.iinc 2 1, 3) := by decide +kernel
theorem dX4_faultPlace_29 : decode cX4_faultPlace 29 = .ok (.goto (-22), 3) := by decide +kernel
theorem dX4_faultPlace_32 : decode cX4_faultPlace 32 = .ok (.aload_n 0, 1) := by decide +kernel
theorem dX4_faultPlace_33 : decode cX4_faultPlace 33 = .ok (.getfield 15, 3) := by decide +kernel
theorem dX4_faultPlace_36 : decode cX4_faultPlace 36 = .ok (.ireturn, 1) := by decide +kernel
set_option maxRecDepth 20000 in
theorem ggX4_fitsInTail_X4_at : GoodIn wsX4_fitsInTail wsX4_at := goodIn_r _ [5, 6, 7, 8, 9] (by decide +kernel) (by decide +kernel)
set_option maxRecDepth 20000 in
theorem gX4_fitsInTail_X4_at : GoodIn wsX4_fitsInTail (wsV RX4 19 RX4 yX4_at wsX4_at) := goodIn_app (goodIn_of _ (by decide +kernel)) ggX4_fitsInTail_X4_at
theorem dX4_fitsInTail_0 : decode cX4_fitsInTail 0 = .ok (.aload_n 0, 1) := by decide +kernel
theorem dX4_fitsInTail_1 : decode cX4_fitsInTail 1 = .ok (.iload_n 1, 1) := by decide +kernel
theorem dX4_fitsInTail_2 : decode cX4_fitsInTail 2 = .ok (.invokevirtual 19, 3) := by decide +kernel
theorem dX4_fitsInTail_5 : decode cX4_fitsInTail 5 = .ok (.istore_n 3, 1) := by decide +kernel
theorem dX4_fitsInTail_6 : decode cX4_fitsInTail 6 = .ok (.iload_n 1, 1) := by decide +kernel
theorem dX4_fitsInTail_7 : decode cX4_fitsInTail 7 = .ok (.iload_n 2, 1) := by decide +kernel
theorem dX4_fitsInTail_8 : decode cX4_fitsInTail 8 = .ok (.isub, 1) := by decide +kernel
theorem dX4_fitsInTail_9 : decode cX4_fitsInTail 9 = .ok (.tableswitch 80 0 2 #[27, 44, 62], 27) := by decide +kernel
theorem dX4_fitsInTail_36 : decode cX4_fitsInTail 36 = .ok (.iload_n 2, 1) := by decide +kernel
theorem dX4_fitsInTail_37 : decode cX4_fitsInTail 37 = .ok (.iconst 2, 1) := by decide +kernel
theorem dX4_fitsInTail_38 : decode cX4_fitsInTail 38 = .ok (.if_icmp .lt 13, 3) := by decide +kernel
theorem dX4_fitsInTail_41 : decode cX4_fitsInTail 41 = .ok (.iload_n 3, 1) := by decide +kernel
theorem dX4_fitsInTail_42 : decode cX4_fitsInTail 42 = .ok (.bipush 59, 2) := by decide +kernel
theorem dX4_fitsInTail_44 : decode cX4_fitsInTail 44 = .ok (.if_icmp .ne 7, 3) := by decide +kernel
theorem dX4_fitsInTail_47 : decode cX4_fitsInTail 47 = .ok (.iconst 1, 1) := by decide +kernel
theorem dX4_fitsInTail_48 : decode cX4_fitsInTail 48 = .ok (.goto 4, 3) := by decide +kernel
theorem dX4_fitsInTail_51 : decode cX4_fitsInTail 51 = .ok (.iconst 0, 1) := by decide +kernel
theorem dX4_fitsInTail_52 : decode cX4_fitsInTail 52 = .ok (.ireturn, 1) := by decide +kernel
theorem dX4_fitsInTail_53 : decode cX4_fitsInTail 53 = .ok (.iload_n 3, 1) := by decide +kernel
theorem dX4_fitsInTail_54 : decode cX4_fitsInTail 54 = .ok (.bipush 48, 2) := by decide +kernel
theorem dX4_fitsInTail_56 : decode cX4_fitsInTail 56 = .ok (.if_icmp .lt 13, 3) := by decide +kernel
theorem dX4_fitsInTail_59 : decode cX4_fitsInTail 59 = .ok (.iload_n 3, 1) := by decide +kernel
theorem dX4_fitsInTail_60 : decode cX4_fitsInTail 60 = .ok (.bipush 52, 2) := by decide +kernel
theorem dX4_fitsInTail_62 : decode cX4_fitsInTail 62 = .ok (.if_icmp .ge 7, 3) := by decide +kernel
theorem dX4_fitsInTail_65 : decode cX4_fitsInTail 65 = .ok (.iconst 1, 1) := by decide +kernel
theorem dX4_fitsInTail_66 : decode cX4_fitsInTail 66 = .ok (.goto 4, 3) := by decide +kernel
theorem dX4_fitsInTail_69 : decode cX4_fitsInTail 69 = .ok (.iconst 0, 1) := by decide +kernel
theorem dX4_fitsInTail_70 : decode cX4_fitsInTail 70 = .ok (.ireturn, 1) := by decide +kernel
theorem dX4_fitsInTail_71 : decode cX4_fitsInTail 71 = .ok (.iload_n 3, 1) := by decide +kernel
theorem dX4_fitsInTail_72 : decode cX4_fitsInTail 72 = .ok (.bipush 48, 2) := by decide +kernel
theorem dX4_fitsInTail_74 : decode cX4_fitsInTail 74 = .ok (.if_icmp .lt 13, 3) := by decide +kernel
theorem dX4_fitsInTail_77 : decode cX4_fitsInTail 77 = .ok (.iload_n 3, 1) := by decide +kernel
theorem dX4_fitsInTail_78 : decode cX4_fitsInTail 78 = .ok (.bipush 56, 2) := by decide +kernel
theorem dX4_fitsInTail_80 : decode cX4_fitsInTail 80 = .ok (.if_icmp .ge 7, 3) := by decide +kernel
theorem dX4_fitsInTail_83 : decode cX4_fitsInTail 83 = .ok (.iconst 1, 1) := by decide +kernel
theorem dX4_fitsInTail_84 : decode cX4_fitsInTail 84 = .ok (.goto 4, 3) := by decide +kernel
theorem dX4_fitsInTail_87 : decode cX4_fitsInTail 87 = .ok (.iconst 0, 1) := by decide +kernel
theorem dX4_fitsInTail_88 : decode cX4_fitsInTail 88 = .ok (.ireturn, 1) := by decide +kernel
theorem dX4_fitsInTail_89 : decode cX4_fitsInTail 89 = .ok (.iconst 0, 1) := by decide +kernel
theorem dX4_fitsInTail_90 : decode cX4_fitsInTail 90 = .ok (.ireturn, 1) := by decide +kernel
set_option maxRecDepth 20000 in
theorem ggX4_isRing_X4_leadingPeople : GoodIn wsX4_isRing wsX4_leadingPeople := goodIn_r _ [6, 7, 8, 9, 5, 10, 1, 11, 12, 13, 14, 23, 24] (by decide +kernel) (by decide +kernel)
set_option maxRecDepth 20000 in
theorem gX4_isRing_X4_leadingPeople : GoodIn wsX4_isRing (wsV RX4 29 RX4 yX4_leadingPeople wsX4_leadingPeople) := goodIn_app (goodIn_of _ (by decide +kernel)) ggX4_isRing_X4_leadingPeople
set_option maxRecDepth 20000 in
theorem ggX4_isRing_X4_faultPlace : GoodIn wsX4_isRing wsX4_faultPlace := goodIn_r _ [18, 1, 2, 3, 4, 5, 6, 7, 8, 9, 10, 11, 12, 13, 14, 19, 20, 21, 22, 23, 24] (by decide +kernel) (by decide +kernel)
set_option maxRecDepth 20000 in
theorem gX4_isRing_X4_faultPlace : GoodIn wsX4_isRing (wsV RX4 37 RX4 yX4_faultPlace wsX4_faultPlace) := goodIn_app (goodIn_of _ (by decide +kernel)) ggX4_isRing_X4_faultPlace
theorem dX4_isRing_0 : decode cX4_isRing 0 = .ok (.aload_n 0, 1) := by decide +kernel
theorem dX4_isRing_1 : decode cX4_isRing 1 = .ok (.getfield 15, 3) := by decide +kernel
theorem dX4_isRing_4 : decode cX4_isRing 4 = .ok (.aload_n 0, 1) := by decide +kernel
theorem dX4_isRing_5 : decode cX4_isRing 5 = .ok (.invokevirtual 29, 3) := by decide +kernel
theorem dX4_isRing_8 : decode cX4_isRing 8 = .ok (.iconst 3, 1) := by decide +kernel
theorem dX4_isRing_9 : decode cX4_isRing 9 = .ok (.iadd, 1) := by decide +kernel
theorem dX4_isRing_10 : decode cX4_isRing 10 = .ok (.if_icmp .ne 18, 3) := by decide +kernel
theorem dX4_isRing_13 : decode cX4_isRing 13 = .ok (.aload_n 0, 1) := by decide +kernel
theorem dX4_isRing_14 : decode cX4_isRing 14 = .ok (.invokevirtual 37, 3) := by decide +kernel
theorem dX4_isRing_17 : decode cX4_isRing 17 = .ok (.aload_n 0, 1) := by decide +kernel
theorem dX4_isRing_18 : decode cX4_isRing 18 = .ok (.getfield 15, 3) := by decide +kernel
theorem dX4_isRing_21 : decode cX4_isRing 21 = .ok (.if_icmp .ne 7, 3) := by decide +kernel
theorem dX4_isRing_24 : decode cX4_isRing 24 = .ok (.iconst 1, 1) := by decide +kernel
theorem dX4_isRing_25 : decode cX4_isRing 25 = .ok (.goto 4, 3) := by decide +kernel
theorem dX4_isRing_28 : decode cX4_isRing 28 = .ok (.iconst 0, 1) := by decide +kernel
theorem dX4_isRing_29 : decode cX4_isRing 29 = .ok (.ireturn, 1) := by decide +kernel
theorem dX5_init_0 : decode cX5_init 0 = .ok (.aload_n 0, 1) := by decide +kernel
theorem dX5_init_1 : decode cX5_init 1 = .ok (.invokespecial 3, 3) := by decide +kernel
theorem dX5_init_4 : decode cX5_init 4 = .ok (.aload_n 0, 1) := by decide +kernel
theorem dX5_init_5 : decode cX5_init 5 = .ok (.iconst 4, 1) := by decide +kernel
theorem dX5_init_6 : decode cX5_init 6 = .ok (.anewarray 9, 3) := by decide +kernel
theorem dX5_init_9 : decode cX5_init 9 = .ok (.putfield 11, 3) := by decide +kernel
theorem dX5_init_12 : decode cX5_init 12 = .ok (.aload_n 0, 1) := by decide +kernel
theorem dX5_init_13 : decode cX5_init 13 = .ok (.iconst 0, 1) := by decide +kernel
theorem dX5_init_14 : decode cX5_init 14 = .ok (.putfield 17, 3) := by decide +kernel
theorem dX5_init_17 : decode cX5_init 17 = .ok (.return_, 1) := by decide +kernel
theorem dX5_isKindLetter_0 : decode cX5_isKindLetter 0 = .ok (.iload_n 0, 1) := by decide +kernel
theorem dX5_isKindLetter_1 : decode cX5_isKindLetter 1 = .ok (.bipush 112, 2) := by decide +kernel
theorem dX5_isKindLetter_3 : decode cX5_isKindLetter 3 = .ok (.if_icmp .eq 27, 3) := by decide +kernel
theorem dX5_isKindLetter_6 : decode cX5_isKindLetter 6 = .ok (.iload_n 0, 1) := by decide +kernel
theorem dX5_isKindLetter_7 : decode cX5_isKindLetter 7 = .ok (.bipush 99, 2) := by decide +kernel
theorem dX5_isKindLetter_9 : decode cX5_isKindLetter 9 = .ok (.if_icmp .eq 21, 3) := by decide +kernel
theorem dX5_isKindLetter_12 : decode cX5_isKindLetter 12 = .ok (.iload_n 0, 1) := by decide +kernel
theorem dX5_isKindLetter_13 : decode cX5_isKindLetter 13 = .ok (.bipush 115, 2) := by decide +kernel
theorem dX5_isKindLetter_15 : decode cX5_isKindLetter 15 = .ok (.if_icmp .eq 15, 3) := by decide +kernel
theorem dX5_isKindLetter_18 : decode cX5_isKindLetter 18 = .ok (.iload_n 0, 1) := by decide +kernel
theorem dX5_isKindLetter_19 : decode cX5_isKindLetter 19 = .ok (.bipush 119, 2) := by decide +kernel
theorem dX5_isKindLetter_21 : decode cX5_isKindLetter 21 = .ok (.if_icmp .eq 9, 3) := by decide +kernel
theorem dX5_isKindLetter_24 : decode cX5_isKindLetter 24 = .ok (.iload_n 0, 1) := by decide +kernel
theorem dX5_isKindLetter_25 : decode cX5_isKindLetter 25 = .ok (.bipush 100, 2) := by decide +kernel
theorem dX5_isKindLetter_27 : decode cX5_isKindLetter 27 = .ok (.if_icmp .ne 7, 3) := by decide +kernel
theorem dX5_isKindLetter_30 : decode cX5_isKindLetter 30 = .ok (.iconst 1, 1) := by decide +kernel
theorem dX5_isKindLetter_31 : decode cX5_isKindLetter 31 = .ok (.goto 4, 3) := by decide +kernel
theorem dX5_isKindLetter_34 : decode cX5_isKindLetter 34 = .ok (.iconst 0, 1) := by decide +kernel
theorem dX5_isKindLetter_35 : decode cX5_isKindLetter 35 = .ok (.ireturn, 1) := by decide +kernel
set_option maxRecDepth 20000 in
theorem ggX5_personOf_X1_init : GoodIn wsX5_personOf wsX1_init := goodIn_r _ [17, 18, 15, 19, 20, 21, 22] (by decide +kernel) (by decide +kernel)
set_option maxRecDepth 20000 in
theorem gX5_personOf_X1_init_n23 : GoodIn wsX5_personOf (wsX1_init) := ggX5_personOf_X1_init
set_option maxRecDepth 20000 in
theorem ggX5_personOf_X7_init : GoodIn wsX5_personOf wsX7_init := goodIn_r _ [24, 25, 18, 15, 19, 20, 21, 22, 30] (by decide +kernel) (by decide +kernel)
set_option maxRecDepth 20000 in
theorem gX5_personOf_X7_init_n26 : GoodIn wsX5_personOf (wsX7_init) := ggX5_personOf_X7_init
set_option maxRecDepth 20000 in
theorem ggX5_personOf_X9_init : GoodIn wsX5_personOf wsX9_init := goodIn_r _ [27, 18, 15, 19, 20, 21, 22] (by decide +kernel) (by decide +kernel)
set_option maxRecDepth 20000 in
theorem gX5_personOf_X9_init_n31 : GoodIn wsX5_personOf (wsX9_init) := ggX5_personOf_X9_init
set_option maxRecDepth 20000 in
theorem ggX5_personOf_X2_init : GoodIn wsX5_personOf wsX2_init := goodIn_r _ [29, 16, 3, 17, 18, 15, 19, 20, 21, 22] (by decide +kernel) (by decide +kernel)
set_option maxRecDepth 20000 in
theorem gX5_personOf_X2_init_n34 : GoodIn wsX5_personOf (wsX2_init) := ggX5_personOf_X2_init
set_option maxRecDepth 20000 in
theorem ggX5_personOf_X6_init : GoodIn wsX5_personOf wsX6_init := goodIn_r _ [19, 20, 21, 22] (by decide +kernel) (by decide +kernel)
set_option maxRecDepth 20000 in
theorem gX5_personOf_X6_init_n35 : GoodIn wsX5_personOf (wsX6_init) := ggX5_personOf_X6_init
theorem dX5_personOf_0 : decode cX5_personOf 0 = .ok (.iload_n 0, 1) := by decide +kernel
theorem dX5_personOf_1 : decode cX5_personOf 1 = .ok (.lookupswitch 76 #[(99, 43), (100, 68), (115, 51), (119, 60)], 43) := by decide +kernel
theorem dX5_personOf_44 : decode cX5_personOf 44 = .ok (.new 21, 3) := by decide +kernel
theorem dX5_personOf_47 : decode cX5_personOf 47 = .ok (.dup, 1) := by decide +kernel
theorem dX5_personOf_48 : decode cX5_personOf 48 = .ok (.invokespecial 23, 3) := by decide +kernel
theorem dX5_personOf_51 : decode cX5_personOf 51 = .ok (.areturn, 1) := by decide +kernel
theorem dX5_personOf_52 : decode cX5_personOf 52 = .ok (.new 24, 3) := by decide +kernel
theorem dX5_personOf_55 : decode cX5_personOf 55 = .ok (.dup, 1) := by decide +kernel
theorem dX5_personOf_56 : decode cX5_personOf 56 = .ok (.iload_n 1, 1) := by decide +kernel
theorem dX5_personOf_57 : decode cX5_personOf 57 = .ok (.invokespecial 26, 3) := by decide +kernel
theorem dX5_personOf_60 : decode cX5_personOf 60 = .ok (.areturn, 1) := by decide +kernel
theorem dX5_personOf_61 : decode cX5_personOf 61 = .ok (.new 29, 3) := by decide +kernel
theorem dX5_personOf_64 : decode cX5_personOf 64 = .ok (.dup, 1) := by decide +kernel
theorem dX5_personOf_65 : decode cX5_personOf 65 = .ok (.invokespecial 31, 3) := by decide +kernel
theorem dX5_personOf_68 : decode cX5_personOf 68 = .ok (.areturn, 1) := by decide +kernel
theorem dX5_personOf_69 : decode cX5_personOf 69 = .ok (.new 32, 3) := by decide +kernel
theorem dX5_personOf_72 : decode cX5_personOf 72 = .ok (.dup, 1) := by decide +kernel
theorem dX5_personOf_73 : decode cX5_personOf 73 = .ok (.invokespecial 34, 3) := by decide +kernel
theorem dX5_personOf_76 : decode cX5_personOf 76 = .ok (.areturn, 1) := by decide +kernel
theorem dX5_personOf_77 : decode cX5_personOf 77 = .ok (.new 9, 3) := by decide +kernel
theorem dX5_personOf_80 : decode cX5_personOf 80 = .ok (.dup, 1) := by decide +kernel
theorem dX5_personOf_81 : decode cX5_personOf 81 = .ok (.invokespecial 35, 3) := by decide +kernel
theorem dX5_personOf_84 : decode cX5_personOf 84 = .ok (.areturn, 1) := by decide +kernel
theorem dX5_clear_0 : decode cX5_clear 0 = .ok (.aload_n 0, 1) := by decide +kernel
theorem dX5_clear_1 : decode cX5_clear 1 = .ok (.iconst 0, 1) := by decide +kernel
theorem dX5_clear_2 : decode cX5_clear 2 = .ok (.putfield 17, 3) := by decide +kernel
theorem dX5_clear_5 : decode cX5_clear 5 = .ok (.return_, 1) := by decide +kernel
set_option maxRecDepth 20000 in
theorem ggX5_join_X5_personOf : GoodIn wsX5_join wsX5_personOf := goodIn_r _ [6, 7, 8, 9, 10, 11, 12, 13, 14, 15, 16, 17, 18, 19, 20, 21, 22, 23, 24, 25, 26, 27, 28, 29, 30, 31, 32, 33, 34, 35, 38] (by decide +kernel) (by decide +kernel)
set_option maxRecDepth 20000 in
theorem gX5_join_X5_personOf : GoodIn wsX5_join (va_wsS RX5 36 yX5_personOf wsX5_personOf) := goodIn_app (goodIn_of _ (by decide +kernel)) ggX5_join_X5_personOf
theorem dX5_join_0 : decode cX5_join 0 = .ok (.aload_n 0, 1) := by decide +kernel
theorem dX5_join_1 : decode cX5_join 1 = .ok (.getfield 17, 3) := by decide +kernel
theorem dX5_join_4 : decode cX5_join 4 = .ok (.iconst 4, 1) := by decide +kernel
theorem dX5_join_5 : decode cX5_join 5 = .ok (.if_icmp .lt 4, 3) := by decide +kernel
theorem dX5_join_8 : decode cX5_join 8 = .ok (.return_, 1) := by decide +kernel
theorem dX5_join_9 : decode cX5_join 9 = .ok (.aload_n 0, 1) := by decide +kernel
theorem dX5_join_10 : decode cX5_join 10 = .ok (.getfield 11, 3) := by decide +kernel
theorem dX5_join_13 : decode cX5_join 13 = .ok (.aload_n 0, 1) := by decide +kernel
theorem dX5_join_14 : decode cX5_join 14 = .ok (.getfield 17, 3) := by decide +kernel
theorem dX5_join_17 : decode cX5_join 17 = .ok (.iload_n 1, 1) := by decide +kernel
theorem dX5_join_18 : decode cX5_join 18 = .ok (.aload_n 0, 1) := by decide +kernel
theorem dX5_join_19 : decode cX5_join 19 = .ok (.getfield 17, 3) := by decide +kernel
theorem dX5_join_22 : decode cX5_join 22 = .ok (.invokestatic 36, 3) := by decide +kernel
theorem dX5_join_25 : decode cX5_join 25 = .ok (.aastore, 1) := by decide +kernel
theorem dX5_join_26 : decode cX5_join 26 = .ok (.aload_n 0, 1) := by decide +kernel
theorem dX5_join_27 : decode cX5_join 27 = .ok (.dup, 1) := by decide +kernel
theorem dX5_join_28 : decode cX5_join 28 = .ok (.getfield 17, 3) := by decide +kernel
theorem dX5_join_31 : decode cX5_join 31 = .ok (.iconst 1, 1) := by decide +kernel
theorem dX5_join_32 : decode cX5_join 32 = .ok (.iadd, 1) := by decide +kernel
theorem dX5_join_33 : decode cX5_join 33 = .ok (.putfield 17, 3) := by decide +kernel
theorem dX5_join_36 : decode cX5_join 36 = .ok (.return_, 1) := by decide +kernel
theorem dX5_has_0 : decode cX5_has 0 = .ok (.iload_n 1, 1) := by decide +kernel
theorem dX5_has_1 : decode cX5_has 1 = .ok (.ifCond .lt 15, 3) := by decide +kernel
theorem dX5_has_4 : decode cX5_has 4 = .ok (.iload_n 1, 1) := by decide +kernel
theorem dX5_has_5 : decode cX5_has 5 = .ok (.aload_n 0, 1) := by decide +kernel
theorem dX5_has_6 : decode cX5_has 6 = .ok (.getfield 17, 3) := by decide +kernel
theorem dX5_has_9 : decode cX5_has 9 = .ok (.if_icmp .ge 7, 3) := by decide +kernel
theorem dX5_has_12 : decode cX5_has 12 = .ok (.iconst 1, 1) := by decide +kernel
theorem dX5_has_13 : decode cX5_has 13 = .ok (.goto 4, 3) := by decide +kernel
theorem dX5_has_16 : decode cX5_has 16 = .ok (.iconst 0, 1) := by decide +kernel
theorem dX5_has_17 : decode cX5_has 17 = .ok (.ireturn, 1) := by decide +kernel
theorem dX5_memberAt_0 : decode cX5_memberAt 0 = .ok (.iload_n 1, 1) := by decide +kernel
theorem dX5_memberAt_1 : decode cX5_memberAt 1 = .ok (.ifCond .lt 25, 3) := by decide +kernel
theorem dX5_memberAt_4 : decode cX5_memberAt 4 = .ok (.iload_n 1, 1) := by decide +kernel
theorem dX5_memberAt_5 : decode cX5_memberAt 5 = .ok (.aload_n 0, 1) := by decide +kernel
theorem dX5_memberAt_6 : decode cX5_memberAt 6 = .ok (.getfield 17, 3) := by decide +kernel
theorem dX5_memberAt_9 : decode cX5_memberAt 9 = .ok (.if_icmp .ge 17, 3) := by decide +kernel
theorem dX5_memberAt_12 : decode cX5_memberAt 12 = .ok (.iload_n 1, 1) := by decide +kernel
theorem dX5_memberAt_13 : decode cX5_memberAt 13 = .ok (.iconst 4, 1) := by decide +kernel
theorem dX5_memberAt_14 : decode cX5_memberAt 14 = .ok (.if_icmp .ge 12, 3) := by decide +kernel
theorem dX5_memberAt_17 : decode cX5_memberAt 17 = .ok (.aload_n 0, 1) := by decide +kernel
theorem dX5_memberAt_18 : decode cX5_memberAt 18 = .ok (.getfield 11, 3) := by decide +kernel
theorem dX5_memberAt_21 : decode cX5_memberAt 21 = .ok (.iload_n 1, 1) := by decide +kernel
theorem dX5_memberAt_22 : decode cX5_memberAt 22 = .ok (.aaload, 1) := by decide +kernel
theorem dX5_memberAt_23 : decode cX5_memberAt 23 = .ok (.goto 4, 3) := by decide +kernel
theorem dX5_memberAt_26 : decode cX5_memberAt 26 = .ok (.aconst_null, 1) := by decide +kernel
theorem dX5_memberAt_27 : decode cX5_memberAt 27 = .ok (.areturn, 1) := by decide +kernel
set_option maxRecDepth 20000 in
theorem ggX5_kindOf_X5_memberAt : GoodIn wsX5_kindOf wsX5_memberAt := goodIn_r _ [5, 6, 7, 32, 33] (by decide +kernel) (by decide +kernel)
set_option maxRecDepth 20000 in
theorem gX5_kindOf_X5_memberAt : GoodIn wsX5_kindOf (wsV RX5 40 RX5 yX5_memberAt wsX5_memberAt) := goodIn_app (goodIn_of _ (by decide +kernel)) ggX5_kindOf_X5_memberAt
set_option maxRecDepth 20000 in
theorem ggX5_kindOf_X1_kind : GoodIn wsX5_kindOf wsX1_kind := goodIn_r _ [14] (by decide +kernel) (by decide +kernel)
set_option maxRecDepth 20000 in
theorem gX5_kindOf_X1_kind_u44X1 : GoodIn wsX5_kindOf (va_wsO RX5 44 RX1 "RingOfThirds$Person" ⟨"RingOfThirds$Person", "kind", "()I"⟩ yX1_kind wsX1_kind) := goodIn_app (goodIn_of _ (by decide +kernel)) ggX5_kindOf_X1_kind
set_option maxRecDepth 20000 in
theorem ggX5_kindOf_X2_kind : GoodIn wsX5_kindOf wsX2_kind := goodIn_r _ [19] (by decide +kernel) (by decide +kernel)
set_option maxRecDepth 20000 in
theorem gX5_kindOf_X2_kind_u44X2 : GoodIn wsX5_kindOf (va_wsO RX5 44 RX2 "RingOfThirds$Person" ⟨"RingOfThirds$Person", "kind", "()I"⟩ yX2_kind wsX2_kind) := goodIn_app (goodIn_of _ (by decide +kernel)) ggX5_kindOf_X2_kind
set_option maxRecDepth 20000 in
theorem ggX5_kindOf_X6_kind : GoodIn wsX5_kindOf wsX6_kind := goodIn_r _ [15] (by decide +kernel) (by decide +kernel)
set_option maxRecDepth 20000 in
theorem gX5_kindOf_X6_kind : GoodIn wsX5_kindOf (wsV RX5 44 RX6 yX6_kind wsX6_kind) := goodIn_app (goodIn_of _ (by decide +kernel)) ggX5_kindOf_X6_kind
set_option maxRecDepth 20000 in
theorem ggX5_kindOf_X7_kind : GoodIn wsX5_kindOf wsX7_kind := goodIn_r _ [27] (by decide +kernel) (by decide +kernel)
set_option maxRecDepth 20000 in
theorem gX5_kindOf_X7_kind_u44X7 : GoodIn wsX5_kindOf (va_wsO RX5 44 RX7 "RingOfThirds$Person" ⟨"RingOfThirds$Person", "kind", "()I"⟩ yX7_kind wsX7_kind) := goodIn_app (goodIn_of _ (by decide +kernel)) ggX5_kindOf_X7_kind
set_option maxRecDepth 20000 in
theorem ggX5_kindOf_X9_kind : GoodIn wsX5_kindOf wsX9_kind := goodIn_r _ [31] (by decide +kernel) (by decide +kernel)
set_option maxRecDepth 20000 in
theorem gX5_kindOf_X9_kind_u44X9 : GoodIn wsX5_kindOf (va_wsO RX5 44 RX9 "RingOfThirds$Person" ⟨"RingOfThirds$Person", "kind", "()I"⟩ yX9_kind wsX9_kind) := goodIn_app (goodIn_of _ (by decide +kernel)) ggX5_kindOf_X9_kind
theorem dX5_kindOf_0 : decode cX5_kindOf 0 = .ok (.aload_n 0, 1) := by decide +kernel
theorem dX5_kindOf_1 : decode cX5_kindOf 1 = .ok (.iload_n 1, 1) := by decide +kernel
theorem dX5_kindOf_2 : decode cX5_kindOf 2 = .ok (.invokevirtual 40, 3) := by decide +kernel
theorem dX5_kindOf_5 : decode cX5_kindOf 5 = .ok (.astore_n 2, 1) := by decide +kernel
theorem dX5_kindOf_6 : decode cX5_kindOf 6 = .ok (.aload_n 2, 1) := by decide +kernel
theorem dX5_kindOf_7 : decode cX5_kindOf 7 = .ok (.ifnonnull 7, 3) := by decide +kernel
theorem dX5_kindOf_10 : decode cX5_kindOf 10 = .ok (.iconst (-1), 1) := by decide +kernel
theorem dX5_kindOf_11 : decode cX5_kindOf 11 = .ok (.goto 7, 3) := by decide +kernel
theorem dX5_kindOf_14 : decode cX5_kindOf 14 = .ok (.aload_n 2, 1) := by decide +kernel
theorem dX5_kindOf_15 : decode cX5_kindOf 15 = .ok (.invokevirtual 44, 3) := by decide +kernel
theorem dX5_kindOf_18 : decode cX5_kindOf 18 = .ok (.ireturn, 1) := by decide +kernel
set_option maxRecDepth 20000 in
theorem ggX5_isA_X5_memberAt : GoodIn wsX5_isA wsX5_memberAt := goodIn_r _ [9, 10, 11, 12, 13] (by decide +kernel) (by decide +kernel)
set_option maxRecDepth 20000 in
theorem gX5_isA_X5_memberAt : GoodIn wsX5_isA (wsV RX5 40 RX5 yX5_memberAt wsX5_memberAt) := goodIn_app (goodIn_of _ (by decide +kernel)) ggX5_isA_X5_memberAt
theorem dX5_isA_0 : decode cX5_isA 0 = .ok (.aload_n 0, 1) := by decide +kernel
theorem dX5_isA_1 : decode cX5_isA 1 = .ok (.iload_n 1, 1) := by decide +kernel
theorem dX5_isA_2 : decode cX5_isA 2 = .ok (.invokevirtual 40, 3) := by decide +kernel
theorem dX5_isA_5 : decode cX5_isA 5 = .ok (.astore_n 3, 1) := by decide +kernel
theorem dX5_isA_6 : decode cX5_isA 6 = .ok (.iload_n 2, 1) := by decide +kernel
theorem dX5_isA_7 : decode cX5_isA 7 = .ok (.tableswitch 63 0 4 #[33, 43, 48, 53, 58], 33) := by decide +kernel
theorem dX5_isA_40 : decode cX5_isA 40 = .ok (.aload_n 3, 1) := by decide +kernel
theorem dX5_isA_41 : decode cX5_isA 41 = .ok (.ifnull 7, 3) := by decide +kernel
theorem dX5_isA_44 : decode cX5_isA 44 = .ok (.iconst 1, 1) := by decide +kernel
theorem dX5_isA_45 : decode cX5_isA 45 = .ok (.goto 4, 3) := by decide +kernel
theorem dX5_isA_48 : decode cX5_isA 48 = .ok (.iconst 0, 1) := by decide +kernel
theorem dX5_isA_49 : decode cX5_isA 49 = .ok (.ireturn, 1) := by decide +kernel
theorem dX5_isA_50 : decode cX5_isA 50 = .ok (.aload_n 3, 1) := by decide +kernel
theorem dX5_isA_51 : decode cX5_isA 51 = .ok (.instanceof 21, 3) := by decide +kernel
theorem dX5_isA_54 : decode cX5_isA 54 = .ok (.ireturn, 1) := by decide +kernel
theorem dX5_isA_55 : decode cX5_isA 55 = .ok (.aload_n 3, 1) := by decide +kernel
theorem dX5_isA_56 : decode cX5_isA 56 = .ok (.instanceof 24, 3) := by decide +kernel
theorem dX5_isA_59 : decode cX5_isA 59 = .ok (.ireturn, 1) := by decide +kernel
theorem dX5_isA_60 : decode cX5_isA 60 = .ok (.aload_n 3, 1) := by decide +kernel
theorem dX5_isA_61 : decode cX5_isA 61 = .ok (.instanceof 29, 3) := by decide +kernel
theorem dX5_isA_64 : decode cX5_isA 64 = .ok (.ireturn, 1) := by decide +kernel
theorem dX5_isA_65 : decode cX5_isA 65 = .ok (.aload_n 3, 1) := by decide +kernel
theorem dX5_isA_66 : decode cX5_isA 66 = .ok (.instanceof 32, 3) := by decide +kernel
theorem dX5_isA_69 : decode cX5_isA 69 = .ok (.ireturn, 1) := by decide +kernel
theorem dX5_isA_70 : decode cX5_isA 70 = .ok (.iconst 0, 1) := by decide +kernel
theorem dX5_isA_71 : decode cX5_isA 71 = .ok (.ireturn, 1) := by decide +kernel
set_option maxRecDepth 20000 in
theorem ggX5_touched_X5_memberAt : GoodIn wsX5_touched wsX5_memberAt := goodIn_r _ [5, 6, 7, 36, 37] (by decide +kernel) (by decide +kernel)
set_option maxRecDepth 20000 in
theorem gX5_touched_X5_memberAt : GoodIn wsX5_touched (wsV RX5 40 RX5 yX5_memberAt wsX5_memberAt) := goodIn_app (goodIn_of _ (by decide +kernel)) ggX5_touched_X5_memberAt
set_option maxRecDepth 20000 in
theorem ggX5_touched_X1_touched : GoodIn wsX5_touched wsX1_touched := goodIn_r _ [14] (by decide +kernel) (by decide +kernel)
set_option maxRecDepth 20000 in
theorem gX5_touched_X1_touched_u48X1 : GoodIn wsX5_touched (va_wsO RX5 48 RX1 "RingOfThirds$Person" ⟨"RingOfThirds$Person", "touched", "(I)I"⟩ yX1_touched wsX1_touched) := goodIn_app (goodIn_of _ (by decide +kernel)) ggX5_touched_X1_touched
set_option maxRecDepth 20000 in
theorem ggX5_touched_X2_touched : GoodIn wsX5_touched wsX2_touched := goodIn_r _ [19, 20, 21, 22, 12, 13, 14] (by decide +kernel) (by decide +kernel)
set_option maxRecDepth 20000 in
theorem gX5_touched_X2_touched_u48X2 : GoodIn wsX5_touched (va_wsO RX5 48 RX2 "RingOfThirds$Person" ⟨"RingOfThirds$Person", "touched", "(I)I"⟩ yX2_touched wsX2_touched) := goodIn_app (goodIn_of _ (by decide +kernel)) ggX5_touched_X2_touched
set_option maxRecDepth 20000 in
theorem ggX5_touched_X6_touched : GoodIn wsX5_touched wsX6_touched := goodIn_r _ [15] (by decide +kernel) (by decide +kernel)
set_option maxRecDepth 20000 in
theorem gX5_touched_X6_touched : GoodIn wsX5_touched (wsV RX5 48 RX6 yX6_touched wsX6_touched) := goodIn_app (goodIn_of _ (by decide +kernel)) ggX5_touched_X6_touched
set_option maxRecDepth 20000 in
theorem ggX5_touched_X7_touched : GoodIn wsX5_touched wsX7_touched := goodIn_r _ [30, 31, 38] (by decide +kernel) (by decide +kernel)
set_option maxRecDepth 20000 in
theorem gX5_touched_X7_touched_u48X7 : GoodIn wsX5_touched (va_wsO RX5 48 RX7 "RingOfThirds$Person" ⟨"RingOfThirds$Person", "touched", "(I)I"⟩ yX7_touched wsX7_touched) := goodIn_app (goodIn_of _ (by decide +kernel)) ggX5_touched_X7_touched
set_option maxRecDepth 20000 in
theorem ggX5_touched_X9_touched : GoodIn wsX5_touched wsX9_touched := goodIn_r _ [35] (by decide +kernel) (by decide +kernel)
set_option maxRecDepth 20000 in
theorem gX5_touched_X9_touched_u48X9 : GoodIn wsX5_touched (va_wsO RX5 48 RX9 "RingOfThirds$Person" ⟨"RingOfThirds$Person", "touched", "(I)I"⟩ yX9_touched wsX9_touched) := goodIn_app (goodIn_of _ (by decide +kernel)) ggX5_touched_X9_touched
theorem dX5_touched_0 : decode cX5_touched 0 = .ok (.aload_n 0, 1) := by decide +kernel
theorem dX5_touched_1 : decode cX5_touched 1 = .ok (.iload_n 1, 1) := by decide +kernel
theorem dX5_touched_2 : decode cX5_touched 2 = .ok (.invokevirtual 40, 3) := by decide +kernel
theorem dX5_touched_5 : decode cX5_touched 5 = .ok (.astore_n 3, 1) := by decide +kernel
theorem dX5_touched_6 : decode cX5_touched 6 = .ok (.aload_n 3, 1) := by decide +kernel
theorem dX5_touched_7 : decode cX5_touched 7 = .ok (.ifnonnull 7, 3) := by decide +kernel
theorem dX5_touched_10 : decode cX5_touched 10 = .ok (.iload_n 2, 1) := by decide +kernel
theorem dX5_touched_11 : decode cX5_touched 11 = .ok (.goto 8, 3) := by decide +kernel
theorem dX5_touched_14 : decode cX5_touched 14 = .ok (.aload_n 3, 1) := by decide +kernel
theorem dX5_touched_15 : decode cX5_touched 15 = .ok (.iload_n 2, 1) := by decide +kernel
theorem dX5_touched_16 : decode cX5_touched 16 = .ok (.invokevirtual 48, 3) := by decide +kernel
theorem dX5_touched_19 : decode cX5_touched 19 = .ok (.ireturn, 1) := by decide +kernel
theorem dX6_init_0 : decode cX6_init 0 = .ok (.aload_n 0, 1) := by decide +kernel
theorem dX6_init_1 : decode cX6_init 1 = .ok (.invokespecial 3, 3) := by decide +kernel
theorem dX6_init_4 : decode cX6_init 4 = .ok (.return_, 1) := by decide +kernel
theorem dX6_kind_0 : decode cX6_kind 0 = .ok (.iconst 0, 1) := by decide +kernel
theorem dX6_kind_1 : decode cX6_kind 1 = .ok (.ireturn, 1) := by decide +kernel
theorem dX6_touched_0 : decode cX6_touched 0 = .ok (.iload_n 1, 1) := by decide +kernel
theorem dX6_touched_1 : decode cX6_touched 1 = .ok (.ireturn, 1) := by decide +kernel
set_option maxRecDepth 20000 in
theorem ggX7_init_X6_init : GoodIn wsX7_init wsX6_init := goodIn_r _ [4, 5, 6, 7] (by decide +kernel) (by decide +kernel)
set_option maxRecDepth 20000 in
theorem gX7_init_X6_init_n3 : GoodIn wsX7_init (wsX6_init) := ggX7_init_X6_init
theorem dX7_init_0 : decode cX7_init 0 = .ok (.aload_n 0, 1) := by decide +kernel
theorem dX7_init_1 : decode cX7_init 1 = .ok (.invokespecial 3, 3) := by decide +kernel
theorem dX7_init_4 : decode cX7_init 4 = .ok (.aload_n 0, 1) := by decide +kernel
theorem dX7_init_5 : decode cX7_init 5 = .ok (.iload_n 1, 1) := by decide +kernel
theorem dX7_init_6 : decode cX7_init 6 = .ok (.putfield 9, 3) := by decide +kernel
theorem dX7_init_9 : decode cX7_init 9 = .ok (.return_, 1) := by decide +kernel
theorem dX7_kind_0 : decode cX7_kind 0 = .ok (.iconst 2, 1) := by decide +kernel
theorem dX7_kind_1 : decode cX7_kind 1 = .ok (.ireturn, 1) := by decide +kernel
theorem dX7_touched_0 : decode cX7_touched 0 = .ok (.iload_n 1, 1) := by decide +kernel
theorem dX7_touched_1 : decode cX7_touched 1 = .ok (.bipush 8, 2) := by decide +kernel
theorem dX7_touched_3 : decode cX7_touched 3 = .ok (.irem, 1) := by decide +kernel
theorem dX7_touched_4 : decode cX7_touched 4 = .ok (.istore_n 2, 1) := by decide +kernel
theorem dX7_touched_5 : decode cX7_touched 5 = .ok (.iload_n 1, 1) := by decide +kernel
theorem dX7_touched_6 : decode cX7_touched 6 = .ok (.iload_n 2, 1) := by decide +kernel
theorem dX7_touched_7 : decode cX7_touched 7 = .ok (.isub, 1) := by decide +kernel
theorem dX7_touched_8 : decode cX7_touched 8 = .ok (.iconst 3, 1) := by decide +kernel
theorem dX7_touched_9 : decode cX7_touched 9 = .ok (.iload_n 2, 1) := by decide +kernel
theorem dX7_touched_10 : decode cX7_touched 10 = .ok (.imul, 1) := by decide +kernel
theorem dX7_touched_11 : decode cX7_touched 11 = .ok (.aload_n 0, 1) := by decide +kernel
theorem dX7_touched_12 : decode cX7_touched 12 = .ok (.getfield 9, 3) := by decide +kernel
theorem dX7_touched_15 : decode cX7_touched 15 = .ok (.iadd, 1) := by decide +kernel
theorem dX7_touched_16 : decode cX7_touched 16 = .ok (.iconst 1, 1) := by decide +kernel
theorem dX7_touched_17 : decode cX7_touched 17 = .ok (.iadd, 1) := by decide +kernel
theorem dX7_touched_18 : decode cX7_touched 18 = .ok (.bipush 8, 2) := by decide +kernel
theorem dX7_touched_20 : decode cX7_touched 20 = .ok (.irem, 1) := by decide +kernel
theorem dX7_touched_21 : decode cX7_touched 21 = .ok (.iadd, 1) := by decide +kernel
theorem dX7_touched_22 : decode cX7_touched 22 = .ok (.ireturn, 1) := by decide +kernel
theorem dX8_init_0 : decode cX8_init 0 = .ok (.aload_n 0, 1) := by decide +kernel
theorem dX8_init_1 : decode cX8_init 1 = .ok (.invokespecial 3, 3) := by decide +kernel
theorem dX8_init_4 : decode cX8_init 4 = .ok (.aload_n 0, 1) := by decide +kernel
theorem dX8_init_5 : decode cX8_init 5 = .ok (.iconst (-1), 1) := by decide +kernel
theorem dX8_init_6 : decode cX8_init 6 = .ok (.putfield 9, 3) := by decide +kernel
theorem dX8_init_9 : decode cX8_init 9 = .ok (.aload_n 0, 1) := by decide +kernel
theorem dX8_init_10 : decode cX8_init 10 = .ok (.iconst 0, 1) := by decide +kernel
theorem dX8_init_11 : decode cX8_init 11 = .ok (.putfield 15, 3) := by decide +kernel
theorem dX8_init_14 : decode cX8_init 14 = .ok (.aload_n 0, 1) := by decide +kernel
theorem dX8_init_15 : decode cX8_init 15 = .ok (.iconst 0, 1) := by decide +kernel
theorem dX8_init_16 : decode cX8_init 16 = .ok (.putfield 18, 3) := by decide +kernel
theorem dX8_init_19 : decode cX8_init 19 = .ok (.aload_n 0, 1) := by decide +kernel
theorem dX8_init_20 : decode cX8_init 20 = .ok (.iconst 4, 1) := by decide +kernel
theorem dX8_init_21 : decode cX8_init 21 = .ok (.newarray .int, 2) := by decide +kernel
theorem dX8_init_23 : decode cX8_init 23 = .ok (.putfield 21, 3) := by decide +kernel
theorem dX8_init_26 : decode cX8_init 26 = .ok (.aload_n 0, 1) := by decide +kernel
theorem dX8_init_27 : decode cX8_init 27 = .ok (.iconst 4, 1) := by decide +kernel
theorem dX8_init_28 : decode cX8_init 28 = .ok (.newarray .int, 2) := by decide +kernel
theorem dX8_init_30 : decode cX8_init 30 = .ok (.putfield 25, 3) := by decide +kernel
theorem dX8_init_33 : decode cX8_init 33 = .ok (.aload_n 0, 1) := by decide +kernel
theorem dX8_init_34 : decode cX8_init 34 = .ok (.iconst 4, 1) := by decide +kernel
theorem dX8_init_35 : decode cX8_init 35 = .ok (.newarray .boolean, 2) := by decide +kernel
theorem dX8_init_37 : decode cX8_init 37 = .ok (.putfield 28, 3) := by decide +kernel
theorem dX8_init_40 : decode cX8_init 40 = .ok (.return_, 1) := by decide +kernel
theorem dX8_begin_0 : decode cX8_begin 0 = .ok (.aload_n 0, 1) := by decide +kernel
theorem dX8_begin_1 : decode cX8_begin 1 = .ok (.iconst 0, 1) := by decide +kernel
theorem dX8_begin_2 : decode cX8_begin 2 = .ok (.putfield 9, 3) := by decide +kernel
theorem dX8_begin_5 : decode cX8_begin 5 = .ok (.aload_n 0, 1) := by decide +kernel
theorem dX8_begin_6 : decode cX8_begin 6 = .ok (.iload_n 1, 1) := by decide +kernel
theorem dX8_begin_7 : decode cX8_begin 7 = .ok (.putfield 15, 3) := by decide +kernel
theorem dX8_begin_10 : decode cX8_begin 10 = .ok (.aload_n 0, 1) := by decide +kernel
theorem dX8_begin_11 : decode cX8_begin 11 = .ok (.iconst 0, 1) := by decide +kernel
theorem dX8_begin_12 : decode cX8_begin 12 = .ok (.putfield 18, 3) := by decide +kernel
theorem dX8_begin_15 : decode cX8_begin 15 = .ok (.iconst 0, 1) := by decide +kernel
theorem dX8_begin_16 : decode cX8_begin 16 = .ok (.istore_n 2, 1) := by decide +kernel
theorem dX8_begin_17 : decode cX8_begin 17 = .ok (.iload_n 2, 1) := by decide +kernel
theorem dX8_begin_18 : decode cX8_begin 18 = .ok (.iconst 4, 1) := by decide +kernel
theorem dX8_begin_19 : decode cX8_begin 19 = .ok (.if_icmp .ge 30, 3) := by decide +kernel
theorem dX8_begin_22 : decode cX8_begin 22 = .ok (.aload_n 0, 1) := by decide +kernel
theorem dX8_begin_23 : decode cX8_begin 23 = .ok (.getfield 21, 3) := by decide +kernel
theorem dX8_begin_26 : decode cX8_begin 26 = .ok (.iload_n 2, 1) := by decide +kernel
theorem dX8_begin_27 : decode cX8_begin 27 = .ok (.iconst (-1), 1) := by decide +kernel
theorem dX8_begin_28 : decode cX8_begin 28 = .ok (.iastore, 1) := by decide +kernel
theorem dX8_begin_29 : decode cX8_begin 29 = .ok (.aload_n 0, 1) := by decide +kernel
theorem dX8_begin_30 : decode cX8_begin 30 = .ok (.getfield 25, 3) := by decide +kernel
theorem dX8_begin_33 : decode cX8_begin 33 = .ok (.iload_n 2, 1) := by decide +kernel
theorem dX8_begin_34 : decode cX8_begin 34 = .ok (.iconst 0, 1) := by decide +kernel
theorem dX8_begin_35 : decode cX8_begin 35 = .ok (.iastore, 1) := by decide +kernel
theorem dX8_begin_36 : decode cX8_begin 36 = .ok (.aload_n 0, 1) := by decide +kernel
theorem dX8_begin_37 : decode cX8_begin 37 = .ok (.getfield 28, 3) := by decide +kernel
theorem dX8_begin_40 : decode cX8_begin 40 = .ok (.iload_n 2, 1) := by decide +kernel
theorem dX8_begin_41 : decode cX8_begin 41 = .ok (.iconst 0, 1) := by decide +kernel
theorem dX8_begin_42 : decode cX8_begin 42 = .ok (.bastore, 1) := by decide +kernel
theorem dX8_begin_43 : decode cX8_begin 43 = .ok (.iinc 2 1, 3) := by decide +kernel
theorem dX8_begin_46 : decode cX8_begin 46 = .ok (.goto (-29), 3) := by decide +kernel
theorem dX8_begin_49 : decode cX8_begin 49 = .ok (.return_, 1) := by decide +kernel
theorem dX8_copyFrom_0 : decode cX8_copyFrom 0 = .ok (.aload_n 0, 1) := by decide +kernel
theorem dX8_copyFrom_1 : decode cX8_copyFrom 1 = .ok (.aload_n 1, 1) := by decide +kernel
theorem dX8_copyFrom_2 : decode cX8_copyFrom 2 = .ok (.getfield 9, 3) := by decide +kernel
theorem dX8_copyFrom_5 : decode cX8_copyFrom 5 = .ok (.putfield 9, 3) := by decide +kernel
theorem dX8_copyFrom_8 : decode cX8_copyFrom 8 = .ok (.aload_n 0, 1) := by decide +kernel
theorem dX8_copyFrom_9 : decode cX8_copyFrom 9 = .ok (.aload_n 1, 1) := by decide +kernel
theorem dX8_copyFrom_10 : decode cX8_copyFrom 10 = .ok (.getfield 15, 3) := by decide +kernel
theorem dX8_copyFrom_13 : decode cX8_copyFrom 13 = .ok (.putfield 15, 3) := by decide +kernel
theorem dX8_copyFrom_16 : decode cX8_copyFrom 16 = .ok (.aload_n 0, 1) := by decide +kernel
theorem dX8_copyFrom_17 : decode cX8_copyFrom 17 = .ok (.aload_n 1, 1) := by decide +kernel
theorem dX8_copyFrom_18 : decode cX8_copyFrom 18 = .ok (.getfield 18, 3) := by decide +kernel
theorem dX8_copyFrom_21 : decode cX8_copyFrom 21 = .ok (.putfield 18, 3) := by decide +kernel
theorem dX8_copyFrom_24 : decode cX8_copyFrom 24 = .ok (.iconst 0, 1) := by decide +kernel
theorem dX8_copyFrom_25 : decode cX8_copyFrom 25 = .ok (.istore_n 2, 1) := by decide +kernel
theorem dX8_copyFrom_26 : decode cX8_copyFrom 26 = .ok (.iload_n 2, 1) := by decide +kernel
theorem dX8_copyFrom_27 : decode cX8_copyFrom 27 = .ok (.iconst 4, 1) := by decide +kernel
theorem dX8_copyFrom_28 : decode cX8_copyFrom 28 = .ok (.if_icmp .ge 45, 3) := by decide +kernel
theorem dX8_copyFrom_31 : decode cX8_copyFrom 31 = .ok (.aload_n 0, 1) := by decide +kernel
theorem dX8_copyFrom_32 : decode cX8_copyFrom 32 = .ok (.getfield 21, 3) := by decide +kernel
theorem dX8_copyFrom_35 : decode cX8_copyFrom 35 = .ok (.iload_n 2, 1) := by decide +kernel
theorem dX8_copyFrom_36 : decode cX8_copyFrom 36 = .ok (.aload_n 1, 1) := by decide +kernel
theorem dX8_copyFrom_37 : decode cX8_copyFrom 37 = .ok (.getfield 21, 3) := by decide +kernel
theorem dX8_copyFrom_40 : decode cX8_copyFrom 40 = .ok (.iload_n 2, 1) := by decide +kernel
theorem dX8_copyFrom_41 : decode cX8_copyFrom 41 = .ok (.iaload, 1) := by decide +kernel
theorem dX8_copyFrom_42 : decode cX8_copyFrom 42 = .ok (.iastore, 1) := by decide +kernel
theorem dX8_copyFrom_43 : decode cX8_copyFrom 43 = .ok (.aload_n 0, 1) := by decide +kernel
theorem dX8_copyFrom_44 : decode cX8_copyFrom 44 = .ok (.getfield 25, 3) := by decide +kernel
theorem dX8_copyFrom_47 : decode cX8_copyFrom 47 = .ok (.iload_n 2, 1) := by decide +kernel
theorem dX8_copyFrom_48 : decode cX8_copyFrom 48 = .ok (.aload_n 1, 1) := by decide +kernel
theorem dX8_copyFrom_49 : decode cX8_copyFrom 49 = .ok (.getfield 25, 3) := by decide +kernel
theorem dX8_copyFrom_52 : decode cX8_copyFrom 52 = .ok (.iload_n 2, 1) := by decide +kernel
theorem dX8_copyFrom_53 : decode cX8_copyFrom 53 = .ok (.iaload, 1) := by decide +kernel
theorem dX8_copyFrom_54 : decode cX8_copyFrom 54 = .ok (.iastore, 1) := by decide +kernel
theorem dX8_copyFrom_55 : decode cX8_copyFrom 55 = .ok (.aload_n 0, 1) := by decide +kernel
theorem dX8_copyFrom_56 : decode cX8_copyFrom 56 = .ok (.getfield 28, 3) := by decide +kernel
theorem dX8_copyFrom_59 : decode cX8_copyFrom 59 = .ok (.iload_n 2, 1) := by decide +kernel
theorem dX8_copyFrom_60 : decode cX8_copyFrom 60 = .ok (.aload_n 1, 1) := by decide +kernel
theorem dX8_copyFrom_61 : decode cX8_copyFrom 61 = .ok (.getfield 28, 3) := by decide +kernel
theorem dX8_copyFrom_64 : decode cX8_copyFrom 64 = .ok (.iload_n 2, 1) := by decide +kernel
theorem dX8_copyFrom_65 : decode cX8_copyFrom 65 = .ok (.baload, 1) := by decide +kernel
theorem dX8_copyFrom_66 : decode cX8_copyFrom 66 = .ok (.bastore, 1) := by decide +kernel
theorem dX8_copyFrom_67 : decode cX8_copyFrom 67 = .ok (.iinc 2 1, 3) := by decide +kernel
theorem dX8_copyFrom_70 : decode cX8_copyFrom 70 = .ok (.goto (-44), 3) := by decide +kernel
theorem dX8_copyFrom_73 : decode cX8_copyFrom 73 = .ok (.return_, 1) := by decide +kernel
theorem dX8_isNumber_0 : decode cX8_isNumber 0 = .ok (.iload_n 0, 1) := by decide +kernel
theorem dX8_isNumber_1 : decode cX8_isNumber 1 = .ok (.ifCond .lt 12, 3) := by decide +kernel
theorem dX8_isNumber_4 : decode cX8_isNumber 4 = .ok (.iload_n 0, 1) := by decide +kernel
theorem dX8_isNumber_5 : decode cX8_isNumber 5 = .ok (.iconst 4, 1) := by decide +kernel
theorem dX8_isNumber_6 : decode cX8_isNumber 6 = .ok (.if_icmp .ge 7, 3) := by decide +kernel
theorem dX8_isNumber_9 : decode cX8_isNumber 9 = .ok (.iconst 1, 1) := by decide +kernel
theorem dX8_isNumber_10 : decode cX8_isNumber 10 = .ok (.goto 4, 3) := by decide +kernel
theorem dX8_isNumber_13 : decode cX8_isNumber 13 = .ok (.iconst 0, 1) := by decide +kernel
theorem dX8_isNumber_14 : decode cX8_isNumber 14 = .ok (.ireturn, 1) := by decide +kernel
set_option maxRecDepth 20000 in
theorem ggX8_moveTo_X8_isNumber : GoodIn wsX8_moveTo wsX8_isNumber := goodIn_r _ [9] (by decide +kernel) (by decide +kernel)
set_option maxRecDepth 20000 in
theorem gX8_moveTo_X8_isNumber : GoodIn wsX8_moveTo (va_wsS RX8 32 yX8_isNumber wsX8_isNumber) := goodIn_app (goodIn_of _ (by decide +kernel)) ggX8_moveTo_X8_isNumber
theorem dX8_moveTo_0 : decode cX8_moveTo 0 = .ok (.aload_n 0, 1) := by decide +kernel
theorem dX8_moveTo_1 : decode cX8_moveTo 1 = .ok (.getfield 9, 3) := by decide +kernel
theorem dX8_moveTo_4 : decode cX8_moveTo 4 = .ok (.invokestatic 32, 3) := by decide +kernel
theorem dX8_moveTo_7 : decode cX8_moveTo 7 = .ok (.ifCond .eq 26, 3) := by decide +kernel
theorem dX8_moveTo_10 : decode cX8_moveTo 10 = .ok (.aload_n 0, 1) := by decide +kernel
theorem dX8_moveTo_11 : decode cX8_moveTo 11 = .ok (.getfield 21, 3) := by decide +kernel
theorem dX8_moveTo_14 : decode cX8_moveTo 14 = .ok (.aload_n 0, 1) := by decide +kernel
theorem dX8_moveTo_15 : decode cX8_moveTo 15 = .ok (.getfield 9, 3) := by decide +kernel
theorem dX8_moveTo_18 : decode cX8_moveTo 18 = .ok (.aload_n 0, 1) := by decide +kernel
theorem dX8_moveTo_19 : decode cX8_moveTo 19 = .ok (.getfield 15, 3) := by decide +kernel
theorem dX8_moveTo_22 : decode cX8_moveTo 22 = .ok (.iastore, 1) := by decide +kernel
theorem dX8_moveTo_23 : decode cX8_moveTo 23 = .ok (.aload_n 0, 1) := by decide +kernel
theorem dX8_moveTo_24 : decode cX8_moveTo 24 = .ok (.getfield 28, 3) := by decide +kernel
theorem dX8_moveTo_27 : decode cX8_moveTo 27 = .ok (.aload_n 0, 1) := by decide +kernel
theorem dX8_moveTo_28 : decode cX8_moveTo 28 = .ok (.getfield 9, 3) := by decide +kernel
theorem dX8_moveTo_31 : decode cX8_moveTo 31 = .ok (.iconst 0, 1) := by decide +kernel
theorem dX8_moveTo_32 : decode cX8_moveTo 32 = .ok (.bastore, 1) := by decide +kernel
theorem dX8_moveTo_33 : decode cX8_moveTo 33 = .ok (.aload_n 0, 1) := by decide +kernel
theorem dX8_moveTo_34 : decode cX8_moveTo 34 = .ok (.iload_n 1, 1) := by decide +kernel
theorem dX8_moveTo_35 : decode cX8_moveTo 35 = .ok (.putfield 9, 3) := by decide +kernel
theorem dX8_moveTo_38 : decode cX8_moveTo 38 = .ok (.aload_n 0, 1) := by decide +kernel
theorem dX8_moveTo_39 : decode cX8_moveTo 39 = .ok (.iload_n 2, 1) := by decide +kernel
theorem dX8_moveTo_40 : decode cX8_moveTo 40 = .ok (.putfield 15, 3) := by decide +kernel
theorem dX8_moveTo_43 : decode cX8_moveTo 43 = .ok (.aload_n 0, 1) := by decide +kernel
theorem dX8_moveTo_44 : decode cX8_moveTo 44 = .ok (.dup, 1) := by decide +kernel
theorem dX8_moveTo_45 : decode cX8_moveTo 45 = .ok (.getfield 18, 3) := by decide +kernel
theorem dX8_moveTo_48 : decode cX8_moveTo 48 = .ok (.iconst 1, 1) := by decide +kernel
theorem dX8_moveTo_49 : decode cX8_moveTo 49 = .ok (.iadd, 1) := by decide +kernel
theorem dX8_moveTo_50 : decode cX8_moveTo 50 = .ok (.putfield 18, 3) := by decide +kernel
theorem dX8_moveTo_53 : decode cX8_moveTo 53 = .ok (.return_, 1) := by decide +kernel
set_option maxRecDepth 20000 in
theorem ggX8_memoryOf_X8_isNumber : GoodIn wsX8_memoryOf wsX8_isNumber := goodIn_r _ [5] (by decide +kernel) (by decide +kernel)
set_option maxRecDepth 20000 in
theorem gX8_memoryOf_X8_isNumber : GoodIn wsX8_memoryOf (va_wsS RX8 32 yX8_isNumber wsX8_isNumber) := goodIn_app (goodIn_of _ (by decide +kernel)) ggX8_memoryOf_X8_isNumber
theorem dX8_memoryOf_0 : decode cX8_memoryOf 0 = .ok (.iload_n 1, 1) := by decide +kernel
theorem dX8_memoryOf_1 : decode cX8_memoryOf 1 = .ok (.invokestatic 32, 3) := by decide +kernel
theorem dX8_memoryOf_4 : decode cX8_memoryOf 4 = .ok (.ifCond .eq 12, 3) := by decide +kernel
theorem dX8_memoryOf_7 : decode cX8_memoryOf 7 = .ok (.aload_n 0, 1) := by decide +kernel
theorem dX8_memoryOf_8 : decode cX8_memoryOf 8 = .ok (.getfield 21, 3) := by decide +kernel
theorem dX8_memoryOf_11 : decode cX8_memoryOf 11 = .ok (.iload_n 1, 1) := by decide +kernel
theorem dX8_memoryOf_12 : decode cX8_memoryOf 12 = .ok (.iaload, 1) := by decide +kernel
theorem dX8_memoryOf_13 : decode cX8_memoryOf 13 = .ok (.goto 4, 3) := by decide +kernel
theorem dX8_memoryOf_16 : decode cX8_memoryOf 16 = .ok (.iconst (-1), 1) := by decide +kernel
theorem dX8_memoryOf_17 : decode cX8_memoryOf 17 = .ok (.ireturn, 1) := by decide +kernel
set_option maxRecDepth 20000 in
theorem ggX8_timesPaid_X8_isNumber : GoodIn wsX8_timesPaid wsX8_isNumber := goodIn_r _ [5] (by decide +kernel) (by decide +kernel)
set_option maxRecDepth 20000 in
theorem gX8_timesPaid_X8_isNumber : GoodIn wsX8_timesPaid (va_wsS RX8 32 yX8_isNumber wsX8_isNumber) := goodIn_app (goodIn_of _ (by decide +kernel)) ggX8_timesPaid_X8_isNumber
theorem dX8_timesPaid_0 : decode cX8_timesPaid 0 = .ok (.iload_n 1, 1) := by decide +kernel
theorem dX8_timesPaid_1 : decode cX8_timesPaid 1 = .ok (.invokestatic 32, 3) := by decide +kernel
theorem dX8_timesPaid_4 : decode cX8_timesPaid 4 = .ok (.ifCond .eq 12, 3) := by decide +kernel
theorem dX8_timesPaid_7 : decode cX8_timesPaid 7 = .ok (.aload_n 0, 1) := by decide +kernel
theorem dX8_timesPaid_8 : decode cX8_timesPaid 8 = .ok (.getfield 25, 3) := by decide +kernel
theorem dX8_timesPaid_11 : decode cX8_timesPaid 11 = .ok (.iload_n 1, 1) := by decide +kernel
theorem dX8_timesPaid_12 : decode cX8_timesPaid 12 = .ok (.iaload, 1) := by decide +kernel
theorem dX8_timesPaid_13 : decode cX8_timesPaid 13 = .ok (.goto 4, 3) := by decide +kernel
theorem dX8_timesPaid_16 : decode cX8_timesPaid 16 = .ok (.iconst 0, 1) := by decide +kernel
theorem dX8_timesPaid_17 : decode cX8_timesPaid 17 = .ok (.ireturn, 1) := by decide +kernel
set_option maxRecDepth 20000 in
theorem ggX8_isWrong_X8_memoryOf : GoodIn wsX8_isWrong wsX8_memoryOf := goodIn_r _ [7, 8, 9, 10, 6, 11, 12, 13, 14, 15, 16, 17] (by decide +kernel) (by decide +kernel)
set_option maxRecDepth 20000 in
theorem gX8_isWrong_X8_memoryOf : GoodIn wsX8_isWrong (wsV RX8 36 RX8 yX8_memoryOf wsX8_memoryOf) := goodIn_app (goodIn_of _ (by decide +kernel)) ggX8_isWrong_X8_memoryOf
theorem dX8_isWrong_0 : decode cX8_isWrong 0 = .ok (.aload_n 0, 1) := by decide +kernel
theorem dX8_isWrong_1 : decode cX8_isWrong 1 = .ok (.iload_n 1, 1) := by decide +kernel
theorem dX8_isWrong_2 : decode cX8_isWrong 2 = .ok (.invokevirtual 36, 3) := by decide +kernel
theorem dX8_isWrong_5 : decode cX8_isWrong 5 = .ok (.istore_n 2, 1) := by decide +kernel
theorem dX8_isWrong_6 : decode cX8_isWrong 6 = .ok (.iload_n 2, 1) := by decide +kernel
theorem dX8_isWrong_7 : decode cX8_isWrong 7 = .ok (.iconst (-1), 1) := by decide +kernel
theorem dX8_isWrong_8 : decode cX8_isWrong 8 = .ok (.if_icmp .eq 31, 3) := by decide +kernel
theorem dX8_isWrong_11 : decode cX8_isWrong 11 = .ok (.aload_n 0, 1) := by decide +kernel
theorem dX8_isWrong_12 : decode cX8_isWrong 12 = .ok (.getfield 9, 3) := by decide +kernel
theorem dX8_isWrong_15 : decode cX8_isWrong 15 = .ok (.iconst (-1), 1) := by decide +kernel
theorem dX8_isWrong_16 : decode cX8_isWrong 16 = .ok (.if_icmp .eq 23, 3) := by decide +kernel
theorem dX8_isWrong_19 : decode cX8_isWrong 19 = .ok (.aload_n 0, 1) := by decide +kernel
theorem dX8_isWrong_20 : decode cX8_isWrong 20 = .ok (.getfield 9, 3) := by decide +kernel
theorem dX8_isWrong_23 : decode cX8_isWrong 23 = .ok (.iload_n 1, 1) := by decide +kernel
theorem dX8_isWrong_24 : decode cX8_isWrong 24 = .ok (.if_icmp .eq 15, 3) := by decide +kernel
theorem dX8_isWrong_27 : decode cX8_isWrong 27 = .ok (.iload_n 2, 1) := by decide +kernel
theorem dX8_isWrong_28 : decode cX8_isWrong 28 = .ok (.aload_n 0, 1) := by decide +kernel
theorem dX8_isWrong_29 : decode cX8_isWrong 29 = .ok (.getfield 15, 3) := by decide +kernel
theorem dX8_isWrong_32 : decode cX8_isWrong 32 = .ok (.if_icmp .eq 7, 3) := by decide +kernel
theorem dX8_isWrong_35 : decode cX8_isWrong 35 = .ok (.iconst 1, 1) := by decide +kernel
theorem dX8_isWrong_36 : decode cX8_isWrong 36 = .ok (.goto 4, 3) := by decide +kernel
theorem dX8_isWrong_39 : decode cX8_isWrong 39 = .ok (.iconst 0, 1) := by decide +kernel
theorem dX8_isWrong_40 : decode cX8_isWrong 40 = .ok (.ireturn, 1) := by decide +kernel
set_option maxRecDepth 20000 in
theorem ggX8_payIfDue_X8_isNumber : GoodIn wsX8_payIfDue wsX8_isNumber := goodIn_r _ [6] (by decide +kernel) (by decide +kernel)
set_option maxRecDepth 20000 in
theorem gX8_payIfDue_X8_isNumber : GoodIn wsX8_payIfDue (va_wsS RX8 32 yX8_isNumber wsX8_isNumber) := goodIn_app (goodIn_of _ (by decide +kernel)) ggX8_payIfDue_X8_isNumber
set_option maxRecDepth 20000 in
theorem ggX8_payIfDue_X8_isWrong : GoodIn wsX8_payIfDue wsX8_isWrong := goodIn_r _ [10, 11, 12, 13, 14, 15, 5, 16, 17, 3, 4, 6, 18, 19, 20, 21, 22, 23] (by decide +kernel) (by decide +kernel)
set_option maxRecDepth 20000 in
theorem gX8_payIfDue_X8_isWrong : GoodIn wsX8_payIfDue (wsV RX8 40 RX8 yX8_isWrong wsX8_isWrong) := goodIn_app (goodIn_of _ (by decide +kernel)) ggX8_payIfDue_X8_isWrong
theorem dX8_payIfDue_0 : decode cX8_payIfDue 0 = .ok (.iload_n 1, 1) := by decide +kernel
theorem dX8_payIfDue_1 : decode cX8_payIfDue 1 = .ok (.invokestatic 32, 3) := by decide +kernel
theorem dX8_payIfDue_4 : decode cX8_payIfDue 4 = .ok (.ifCond .eq 20, 3) := by decide +kernel
theorem dX8_payIfDue_7 : decode cX8_payIfDue 7 = .ok (.aload_n 0, 1) := by decide +kernel
theorem dX8_payIfDue_8 : decode cX8_payIfDue 8 = .ok (.iload_n 1, 1) := by decide +kernel
theorem dX8_payIfDue_9 : decode cX8_payIfDue 9 = .ok (.invokevirtual 40, 3) := by decide +kernel
theorem dX8_payIfDue_12 : decode cX8_payIfDue 12 = .ok (.ifCond .eq 12, 3) := by decide +kernel
theorem dX8_payIfDue_15 : decode cX8_payIfDue 15 = .ok (.aload_n 0, 1) := by decide +kernel
theorem dX8_payIfDue_16 : decode cX8_payIfDue 16 = .ok (.getfield 28, 3) := by decide +kernel
theorem dX8_payIfDue_19 : decode cX8_payIfDue 19 = .ok (.iload_n 1, 1) := by decide +kernel
theorem dX8_payIfDue_20 : decode cX8_payIfDue 20 = .ok (.baload, 1) := by decide +kernel
theorem dX8_payIfDue_21 : decode cX8_payIfDue 21 = .ok (.ifCond .eq 5, 3) := by decide +kernel
theorem dX8_payIfDue_24 : decode cX8_payIfDue 24 = .ok (.iconst 0, 1) := by decide +kernel
theorem dX8_payIfDue_25 : decode cX8_payIfDue 25 = .ok (.ireturn, 1) := by decide +kernel
theorem dX8_payIfDue_26 : decode cX8_payIfDue 26 = .ok (.aload_n 0, 1) := by decide +kernel
theorem dX8_payIfDue_27 : decode cX8_payIfDue 27 = .ok (.getfield 28, 3) := by decide +kernel
theorem dX8_payIfDue_30 : decode cX8_payIfDue 30 = .ok (.iload_n 1, 1) := by decide +kernel
theorem dX8_payIfDue_31 : decode cX8_payIfDue 31 = .ok (.iconst 1, 1) := by decide +kernel
theorem dX8_payIfDue_32 : decode cX8_payIfDue 32 = .ok (.bastore, 1) := by decide +kernel
theorem dX8_payIfDue_33 : decode cX8_payIfDue 33 = .ok (.aload_n 0, 1) := by decide +kernel
theorem dX8_payIfDue_34 : decode cX8_payIfDue 34 = .ok (.getfield 25, 3) := by decide +kernel
theorem dX8_payIfDue_37 : decode cX8_payIfDue 37 = .ok (.iload_n 1, 1) := by decide +kernel
theorem dX8_payIfDue_38 : decode cX8_payIfDue 38 = .ok (.dup2, 1) := by decide +kernel
theorem dX8_payIfDue_39 : decode cX8_payIfDue 39 = .ok (.iaload, 1) := by decide +kernel
theorem dX8_payIfDue_40 : decode cX8_payIfDue 40 = .ok (.iconst 1, 1) := by decide +kernel
theorem dX8_payIfDue_41 : decode cX8_payIfDue 41 = .ok (.iadd, 1) := by decide +kernel
theorem dX8_payIfDue_42 : decode cX8_payIfDue 42 = .ok (.iastore, 1) := by decide +kernel
theorem dX8_payIfDue_43 : decode cX8_payIfDue 43 = .ok (.iconst 1, 1) := by decide +kernel
theorem dX8_payIfDue_44 : decode cX8_payIfDue 44 = .ok (.ireturn, 1) := by decide +kernel
set_option maxRecDepth 20000 in
theorem ggX8_wrongPeople_X8_isWrong : GoodIn wsX8_wrongPeople wsX8_isWrong := goodIn_r _ [5, 6, 7, 8, 9, 10, 4, 11, 12, 13, 14, 15, 16, 17, 18, 19, 20, 21] (by decide +kernel) (by decide +kernel)
set_option maxRecDepth 20000 in
theorem gX8_wrongPeople_X8_isWrong : GoodIn wsX8_wrongPeople (wsV RX8 40 RX8 yX8_isWrong wsX8_isWrong) := goodIn_app (goodIn_of _ (by decide +kernel)) ggX8_wrongPeople_X8_isWrong
theorem dX8_wrongPeople_0 : decode cX8_wrongPeople 0 = .ok (.iconst 0, 1) := by decide +kernel
theorem dX8_wrongPeople_1 : decode cX8_wrongPeople 1 = .ok (.istore_n 1, 1) := by decide +kernel
theorem dX8_wrongPeople_2 : decode cX8_wrongPeople 2 = .ok (.iconst 0, 1) := by decide +kernel
theorem dX8_wrongPeople_3 : decode cX8_wrongPeople 3 = .ok (.istore_n 2, 1) := by decide +kernel
theorem dX8_wrongPeople_4 : decode cX8_wrongPeople 4 = .ok (.iload_n 2, 1) := by decide +kernel
theorem dX8_wrongPeople_5 : decode cX8_wrongPeople 5 = .ok (.iconst 4, 1) := by decide +kernel
theorem dX8_wrongPeople_6 : decode cX8_wrongPeople 6 = .ok (.if_icmp .ge 20, 3) := by decide +kernel
theorem dX8_wrongPeople_9 : decode cX8_wrongPeople 9 = .ok (.aload_n 0, 1) := by decide +kernel
theorem dX8_wrongPeople_10 : decode cX8_wrongPeople 10 = .ok (.iload_n 2, 1) := by decide +kernel
theorem dX8_wrongPeople_11 : decode cX8_wrongPeople 11 = .ok (.invokevirtual 40, 3) := by decide +kernel
theorem dX8_wrongPeople_14 : decode cX8_wrongPeople 14 = .ok (.ifCond .eq 6, 3) := by decide +kernel
theorem dX8_wrongPeople_17 : decode cX8_wrongPeople 17 = .ok (.iinc 1 1, 3) := by decide +kernel
theorem dX8_wrongPeople_20 : decode cX8_wrongPeople 20 = .ok (.iinc 2 1, 3) := by decide +kernel
theorem dX8_wrongPeople_23 : decode cX8_wrongPeople 23 = .ok (.goto (-19), 3) := by decide +kernel
theorem dX8_wrongPeople_26 : decode cX8_wrongPeople 26 = .ok (.iload_n 1, 1) := by decide +kernel
theorem dX8_wrongPeople_27 : decode cX8_wrongPeople 27 = .ok (.ireturn, 1) := by decide +kernel
theorem dX8_paidInAll_0 : decode cX8_paidInAll 0 = .ok (.iconst 0, 1) := by decide +kernel
theorem dX8_paidInAll_1 : decode cX8_paidInAll 1 = .ok (.istore_n 1, 1) := by decide +kernel
theorem dX8_paidInAll_2 : decode cX8_paidInAll 2 = .ok (.iconst 0, 1) := by decide +kernel
theorem dX8_paidInAll_3 : decode cX8_paidInAll 3 = .ok (.istore_n 2, 1) := by decide +kernel
theorem dX8_paidInAll_4 : decode cX8_paidInAll 4 = .ok (.iload_n 2, 1) := by decide +kernel
theorem dX8_paidInAll_5 : decode cX8_paidInAll 5 = .ok (.iconst 4, 1) := by decide +kernel
theorem dX8_paidInAll_6 : decode cX8_paidInAll 6 = .ok (.if_icmp .ge 18, 3) := by decide +kernel
theorem dX8_paidInAll_9 : decode cX8_paidInAll 9 = .ok (.iload_n 1, 1) := by decide +kernel
theorem dX8_paidInAll_10 : decode cX8_paidInAll 10 = .ok (.aload_n 0, 1) := by decide +kernel
theorem dX8_paidInAll_11 : decode cX8_paidInAll 11 = .ok (.getfield 25, 3) := by decide +kernel
theorem dX8_paidInAll_14 : decode cX8_paidInAll 14 = .ok (.iload_n 2, 1) := by decide +kernel
theorem dX8_paidInAll_15 : decode cX8_paidInAll 15 = .ok (.iaload, 1) := by decide +kernel
theorem dX8_paidInAll_16 : decode cX8_paidInAll 16 = .ok (.iadd, 1) := by decide +kernel
theorem dX8_paidInAll_17 : decode cX8_paidInAll 17 = .ok (.istore_n 1, 1) := by decide +kernel
theorem dX8_paidInAll_18 : decode cX8_paidInAll 18 = .ok (.iinc 2 1, 3) := by decide +kernel
theorem dX8_paidInAll_21 : decode cX8_paidInAll 21 = .ok (.goto (-17), 3) := by decide +kernel
theorem dX8_paidInAll_24 : decode cX8_paidInAll 24 = .ok (.iload_n 1, 1) := by decide +kernel
theorem dX8_paidInAll_25 : decode cX8_paidInAll 25 = .ok (.ireturn, 1) := by decide +kernel
set_option maxRecDepth 20000 in
theorem ggX9_init_X6_init : GoodIn wsX9_init wsX6_init := goodIn_r _ [3, 4, 5, 6] (by decide +kernel) (by decide +kernel)
set_option maxRecDepth 20000 in
theorem gX9_init_X6_init_n3 : GoodIn wsX9_init (wsX6_init) := ggX9_init_X6_init
theorem dX9_init_0 : decode cX9_init 0 = .ok (.aload_n 0, 1) := by decide +kernel
theorem dX9_init_1 : decode cX9_init 1 = .ok (.invokespecial 3, 3) := by decide +kernel
theorem dX9_init_4 : decode cX9_init 4 = .ok (.return_, 1) := by decide +kernel
theorem dX9_kind_0 : decode cX9_kind 0 = .ok (.iconst 3, 1) := by decide +kernel
theorem dX9_kind_1 : decode cX9_kind 1 = .ok (.ireturn, 1) := by decide +kernel
theorem dX9_touched_0 : decode cX9_touched 0 = .ok (.iload_n 1, 1) := by decide +kernel
theorem dX9_touched_1 : decode cX9_touched 1 = .ok (.iload_n 1, 1) := by decide +kernel
theorem dX9_touched_2 : decode cX9_touched 2 = .ok (.bipush 8, 2) := by decide +kernel
theorem dX9_touched_4 : decode cX9_touched 4 = .ok (.irem, 1) := by decide +kernel
theorem dX9_touched_5 : decode cX9_touched 5 = .ok (.isub, 1) := by decide +kernel
theorem dX9_touched_6 : decode cX9_touched 6 = .ok (.ireturn, 1) := by decide +kernel
theorem dX10_init_0 : decode cX10_init 0 = .ok (.aload_n 0, 1) := by decide +kernel
theorem dX10_init_1 : decode cX10_init 1 = .ok (.invokespecial 3, 3) := by decide +kernel
theorem dX10_init_4 : decode cX10_init 4 = .ok (.aload_n 0, 1) := by decide +kernel
theorem dX10_init_5 : decode cX10_init 5 = .ok (.sipush 128, 3) := by decide +kernel
theorem dX10_init_8 : decode cX10_init 8 = .ok (.newarray .int, 2) := by decide +kernel
theorem dX10_init_10 : decode cX10_init 10 = .ok (.putfield 9, 3) := by decide +kernel
theorem dX10_init_13 : decode cX10_init 13 = .ok (.aload_n 0, 1) := by decide +kernel
theorem dX10_init_14 : decode cX10_init 14 = .ok (.sipush 128, 3) := by decide +kernel
theorem dX10_init_17 : decode cX10_init 17 = .ok (.newarray .int, 2) := by decide +kernel
theorem dX10_init_19 : decode cX10_init 19 = .ok (.putfield 15, 3) := by decide +kernel
theorem dX10_init_22 : decode cX10_init 22 = .ok (.aload_n 0, 1) := by decide +kernel
theorem dX10_init_23 : decode cX10_init 23 = .ok (.bipush 8, 2) := by decide +kernel
theorem dX10_init_25 : decode cX10_init 25 = .ok (.newarray .int, 2) := by decide +kernel
theorem dX10_init_27 : decode cX10_init 27 = .ok (.putfield 18, 3) := by decide +kernel
theorem dX10_init_30 : decode cX10_init 30 = .ok (.return_, 1) := by decide +kernel
set_option maxRecDepth 20000 in
theorem ggX10_spread_J7_fill_53178 : GoodIn wsX10_spread wsJ7_fill_53178 := goodIn_r _ [5] (by decide +kernel) (by decide +kernel)
set_option maxRecDepth 20000 in
theorem gX10_spread_J7_fill_53178 : GoodIn wsX10_spread (va_wsS RX10 21 yJ7_fill_53178 wsJ7_fill_53178) := goodIn_app (goodIn_of _ (by decide +kernel)) ggX10_spread_J7_fill_53178
set_option maxRecDepth 20000 in
theorem ggX10_spread_X10_keepFitting : GoodIn wsX10_spread wsX10_keepFitting := goodIn_r _ [10, 1, 11, 12, 13, 14, 15, 16, 17, 18, 19, 20, 21, 22, 23, 24, 25, 26, 27, 73, 74, 75, 76, 77, 78, 79] (by decide +kernel) (by decide +kernel)
set_option maxRecDepth 20000 in
theorem gX10_spread_X10_keepFitting : GoodIn wsX10_spread (wsV RX10 27 RX10 yX10_keepFitting wsX10_keepFitting) := goodIn_app (goodIn_of _ (by decide +kernel)) ggX10_spread_X10_keepFitting
set_option maxRecDepth 20000 in
theorem ggX10_spread_X10_passOn : GoodIn wsX10_spread wsX10_passOn := goodIn_r _ [31, 32, 1, 23, 20, 24, 26, 27, 33, 34, 35, 36, 37, 38, 39, 40, 41, 42, 43, 44, 45, 46, 47, 48, 49, 50, 51, 52, 53, 54, 55, 56, 57, 58, 59, 60, 61, 62, 63, 64, 65, 66, 67, 68, 69, 70, 71, 72, 73, 74, 75, 80, 81, 82] (by decide +kernel) (by decide +kernel)
set_option maxRecDepth 20000 in
theorem gX10_spread_X10_passOn : GoodIn wsX10_spread (wsV RX10 31 RX10 yX10_passOn wsX10_passOn) := goodIn_app (goodIn_of _ (by decide +kernel)) ggX10_spread_X10_passOn
theorem dX10_spread_0 : decode cX10_spread 0 = .ok (.aload_n 0, 1) := by decide +kernel
theorem dX10_spread_1 : decode cX10_spread 1 = .ok (.getfield 9, 3) := by decide +kernel
theorem dX10_spread_4 : decode cX10_spread 4 = .ok (.iconst 0, 1) := by decide +kernel
theorem dX10_spread_5 : decode cX10_spread 5 = .ok (.invokestatic 21, 3) := by decide +kernel
theorem dX10_spread_8 : decode cX10_spread 8 = .ok (.iload_n 3, 1) := by decide +kernel
theorem dX10_spread_9 : decode cX10_spread 9 = .ok (.ifCond .lt 17, 3) := by decide +kernel
theorem dX10_spread_12 : decode cX10_spread 12 = .ok (.iload_n 3, 1) := by decide +kernel
theorem dX10_spread_13 : decode cX10_spread 13 = .ok (.sipush 128, 3) := by decide +kernel
theorem dX10_spread_16 : decode cX10_spread 16 = .ok (.if_icmp .ge 10, 3) := by decide +kernel
theorem dX10_spread_19 : decode cX10_spread 19 = .ok (.aload_n 0, 1) := by decide +kernel
theorem dX10_spread_20 : decode cX10_spread 20 = .ok (.getfield 9, 3) := by decide +kernel
theorem dX10_spread_23 : decode cX10_spread 23 = .ok (.iload_n 3, 1) := by decide +kernel
theorem dX10_spread_24 : decode cX10_spread 24 = .ok (.iconst 1, 1) := by decide +kernel
theorem dX10_spread_25 : decode cX10_spread 25 = .ok (.iastore, 1) := by decide +kernel
theorem dX10_spread_26 : decode cX10_spread 26 = .ok (.aload_n 0, 1) := by decide +kernel
theorem dX10_spread_27 : decode cX10_spread 27 = .ok (.aload_n 2, 1) := by decide +kernel
theorem dX10_spread_28 : decode cX10_spread 28 = .ok (.iconst 0, 1) := by decide +kernel
theorem dX10_spread_29 : decode cX10_spread 29 = .ok (.invokevirtual 27, 3) := by decide +kernel
theorem dX10_spread_32 : decode cX10_spread 32 = .ok (.iconst 1, 1) := by decide +kernel
theorem dX10_spread_33 : decode cX10_spread 33 = .ok (.istore 5, 2) := by decide +kernel
theorem dX10_spread_35 : decode cX10_spread 35 = .ok (.iload 5, 2) := by decide +kernel
theorem dX10_spread_37 : decode cX10_spread 37 = .ok (.iload 4, 2) := by decide +kernel
theorem dX10_spread_39 : decode cX10_spread 39 = .ok (.if_icmp .gt 21, 3) := by decide +kernel
theorem dX10_spread_42 : decode cX10_spread 42 = .ok (.aload_n 0, 1) := by decide +kernel
theorem dX10_spread_43 : decode cX10_spread 43 = .ok (.aload_n 1, 1) := by decide +kernel
theorem dX10_spread_44 : decode cX10_spread 44 = .ok (.invokevirtual 31, 3) := by decide +kernel
theorem dX10_spread_47 : decode cX10_spread 47 = .ok (.aload_n 0, 1) := by decide +kernel
theorem dX10_spread_48 : decode cX10_spread 48 = .ok (.aload_n 2, 1) := by decide +kernel
theorem dX10_spread_49 : decode cX10_spread 49 = .ok (.iload 5, 2) := by decide +kernel
theorem dX10_spread_51 : decode cX10_spread 51 = .ok (.invokevirtual 27, 3) := by decide +kernel
theorem dX10_spread_54 : decode cX10_spread 54 = .ok (.iinc 5 1, 3) := by decide +kernel
theorem dX10_spread_57 : decode cX10_spread 57 = .ok (.goto (-22), 3) := by decide +kernel
theorem dX10_spread_60 : decode cX10_spread 60 = .ok (.return_, 1) := by decide +kernel
set_option maxRecDepth 20000 in
theorem ggX10_passOn_X11_holderAt : GoodIn wsX10_passOn wsX11_holderAt := goodIn_r _ [5] (by decide +kernel) (by decide +kernel)
set_option maxRecDepth 20000 in
theorem gX10_passOn_X11_holderAt_n41 : GoodIn wsX10_passOn (wsX11_holderAt) := ggX10_passOn_X11_holderAt
set_option maxRecDepth 20000 in
theorem ggX10_passOn_X11_marksAt : GoodIn wsX10_passOn wsX11_marksAt := goodIn_r _ [7] (by decide +kernel) (by decide +kernel)
set_option maxRecDepth 20000 in
theorem gX10_passOn_X11_marksAt_n45 : GoodIn wsX10_passOn (wsX11_marksAt) := ggX10_passOn_X11_marksAt
set_option maxRecDepth 20000 in
theorem ggX10_passOn_X5_touched : GoodIn wsX10_passOn wsX5_touched := goodIn_r _ [11, 12, 13, 14, 9, 15, 16, 17, 18, 19, 20, 21, 22, 23, 24, 25, 26, 27, 28, 29, 30, 31, 32, 33, 34, 35, 36, 37, 38, 39, 40, 41, 42, 43, 44, 45, 51, 52, 53] (by decide +kernel) (by decide +kernel)
set_option maxRecDepth 20000 in
theorem gX10_passOn_X5_touched_n48 : GoodIn wsX10_passOn (wsX5_touched) := ggX10_passOn_X5_touched
set_option maxRecDepth 20000 in
theorem ggX10_passOn_X11_placeOf : GoodIn wsX10_passOn wsX11_placeOf := goodIn_r _ [47] (by decide +kernel) (by decide +kernel)
set_option maxRecDepth 20000 in
theorem gX10_passOn_X11_placeOf_n52 : GoodIn wsX10_passOn (wsX11_placeOf) := ggX10_passOn_X11_placeOf
theorem dX10_passOn_0 : decode cX10_passOn 0 = .ok (.iconst 0, 1) := by decide +kernel
theorem dX10_passOn_1 : decode cX10_passOn 1 = .ok (.istore_n 2, 1) := by decide +kernel
theorem dX10_passOn_2 : decode cX10_passOn 2 = .ok (.iload_n 2, 1) := by decide +kernel
theorem dX10_passOn_3 : decode cX10_passOn 3 = .ok (.sipush 128, 3) := by decide +kernel
theorem dX10_passOn_6 : decode cX10_passOn 6 = .ok (.if_icmp .ge 28, 3) := by decide +kernel
theorem dX10_passOn_9 : decode cX10_passOn 9 = .ok (.aload_n 0, 1) := by decide +kernel
theorem dX10_passOn_10 : decode cX10_passOn 10 = .ok (.getfield 15, 3) := by decide +kernel
theorem dX10_passOn_13 : decode cX10_passOn 13 = .ok (.iload_n 2, 1) := by decide +kernel
theorem dX10_passOn_14 : decode cX10_passOn 14 = .ok (.aload_n 0, 1) := by decide +kernel
theorem dX10_passOn_15 : decode cX10_passOn 15 = .ok (.getfield 9, 3) := by decide +kernel
theorem dX10_passOn_18 : decode cX10_passOn 18 = .ok (.iload_n 2, 1) := by decide +kernel
theorem dX10_passOn_19 : decode cX10_passOn 19 = .ok (.iaload, 1) := by decide +kernel
theorem dX10_passOn_20 : decode cX10_passOn 20 = .ok (.iastore, 1) := by decide +kernel
theorem dX10_passOn_21 : decode cX10_passOn 21 = .ok (.aload_n 0, 1) := by decide +kernel
theorem dX10_passOn_22 : decode cX10_passOn 22 = .ok (.getfield 9, 3) := by decide +kernel
theorem dX10_passOn_25 : decode cX10_passOn 25 = .ok (.iload_n 2, 1) := by decide +kernel
theorem dX10_passOn_26 : decode cX10_passOn 26 = .ok (.iconst 0, 1) := by decide +kernel
theorem dX10_passOn_27 : decode cX10_passOn 27 = .ok (.iastore, 1) := by decide +kernel
theorem dX10_passOn_28 : decode cX10_passOn 28 = .ok (.iinc 2 1, 3) := by decide +kernel
theorem dX10_passOn_31 : decode cX10_passOn 31 = .ok (.goto (-29), 3) := by decide +kernel
theorem dX10_passOn_34 : decode cX10_passOn 34 = .ok (.iconst 0, 1) := by decide +kernel
theorem dX10_passOn_35 : decode cX10_passOn 35 = .ok (.istore_n 2, 1) := by decide +kernel
theorem dX10_passOn_36 : decode cX10_passOn 36 = .ok (.iload_n 2, 1) := by decide +kernel
theorem dX10_passOn_37 : decode cX10_passOn 37 = .ok (.sipush 128, 3) := by decide +kernel
theorem dX10_passOn_40 : decode cX10_passOn 40 = .ok (.if_icmp .ge 92, 3) := by decide +kernel
theorem dX10_passOn_43 : decode cX10_passOn 43 = .ok (.aload_n 0, 1) := by decide +kernel
theorem dX10_passOn_44 : decode cX10_passOn 44 = .ok (.getfield 15, 3) := by decide +kernel
theorem dX10_passOn_47 : decode cX10_passOn 47 = .ok (.iload_n 2, 1) := by decide +kernel
theorem dX10_passOn_48 : decode cX10_passOn 48 = .ok (.iaload, 1) := by decide +kernel
theorem dX10_passOn_49 : decode cX10_passOn 49 = .ok (.ifCond .ne 6, 3) := by decide +kernel
theorem dX10_passOn_52 : decode cX10_passOn 52 = .ok (.goto 74, 3) := by decide +kernel
theorem dX10_passOn_55 : decode cX10_passOn 55 = .ok (.iconst 0, 1) := by decide +kernel
theorem dX10_passOn_56 : decode cX10_passOn 56 = .ok (.istore_n 3, 1) := by decide +kernel
theorem dX10_passOn_57 : decode cX10_passOn 57 = .ok (.iload_n 3, 1) := by decide +kernel
theorem dX10_passOn_58 : decode cX10_passOn 58 = .ok (.aload_n 1, 1) := by decide +kernel
theorem dX10_passOn_59 : decode cX10_passOn 59 = .ok (.getfield 35, 3) := by decide +kernel
theorem dX10_passOn_62 : decode cX10_passOn 62 = .ok (.if_icmp .ge 64, 3) := by decide +kernel
theorem dX10_passOn_65 : decode cX10_passOn 65 = .ok (.iload_n 3, 1) := by decide +kernel
theorem dX10_passOn_66 : decode cX10_passOn 66 = .ok (.iload_n 2, 1) := by decide +kernel
theorem dX10_passOn_67 : decode cX10_passOn 67 = .ok (.invokestatic 41, 3) := by decide +kernel
theorem dX10_passOn_70 : decode cX10_passOn 70 = .ok (.if_icmp .ne 6, 3) := by decide +kernel
theorem dX10_passOn_73 : decode cX10_passOn 73 = .ok (.goto 47, 3) := by decide +kernel
theorem dX10_passOn_76 : decode cX10_passOn 76 = .ok (.iload_n 3, 1) := by decide +kernel
theorem dX10_passOn_77 : decode cX10_passOn 77 = .ok (.aload_n 1, 1) := by decide +kernel
theorem dX10_passOn_78 : decode cX10_passOn 78 = .ok (.iload_n 3, 1) := by decide +kernel
theorem dX10_passOn_79 : decode cX10_passOn 79 = .ok (.iload_n 2, 1) := by decide +kernel
theorem dX10_passOn_80 : decode cX10_passOn 80 = .ok (.invokestatic 45, 3) := by decide +kernel
theorem dX10_passOn_83 : decode cX10_passOn 83 = .ok (.invokevirtual 48, 3) := by decide +kernel
theorem dX10_passOn_86 : decode cX10_passOn 86 = .ok (.invokestatic 52, 3) := by decide +kernel
theorem dX10_passOn_89 : decode cX10_passOn 89 = .ok (.istore 4, 2) := by decide +kernel
theorem dX10_passOn_91 : decode cX10_passOn 91 = .ok (.iload 4, 2) := by decide +kernel
theorem dX10_passOn_93 : decode cX10_passOn 93 = .ok (.ifCond .lt 27, 3) := by decide +kernel
theorem dX10_passOn_96 : decode cX10_passOn 96 = .ok (.iload 4, 2) := by decide +kernel
theorem dX10_passOn_98 : decode cX10_passOn 98 = .ok (.sipush 128, 3) := by decide +kernel
theorem dX10_passOn_101 : decode cX10_passOn 101 = .ok (.if_icmp .ge 19, 3) := by decide +kernel
theorem dX10_passOn_104 : decode cX10_passOn 104 = .ok (.aload_n 0, 1) := by decide +kernel
theorem dX10_passOn_105 : decode cX10_passOn 105 = .ok (.getfield 9, 3) := by decide +kernel
theorem dX10_passOn_108 : decode cX10_passOn 108 = .ok (.iload 4, 2) := by decide +kernel
theorem dX10_passOn_110 : decode cX10_passOn 110 = .ok (.dup2, 1) := by decide +kernel
theorem dX10_passOn_111 : decode cX10_passOn 111 = .ok (.iaload, 1) := by decide +kernel
theorem dX10_passOn_112 : decode cX10_passOn 112 = .ok (.aload_n 0, 1) := by decide +kernel
theorem dX10_passOn_113 : decode cX10_passOn 113 = .ok (.getfield 15, 3) := by decide +kernel
theorem dX10_passOn_116 : decode cX10_passOn 116 = .ok (.iload_n 2, 1) := by decide +kernel
theorem dX10_passOn_117 : decode cX10_passOn 117 = .ok (.iaload, 1) := by decide +kernel
theorem dX10_passOn_118 : decode cX10_passOn 118 = .ok (.iadd, 1) := by decide +kernel
theorem dX10_passOn_119 : decode cX10_passOn 119 = .ok (.iastore, 1) := by decide +kernel
theorem dX10_passOn_120 : decode cX10_passOn 120 = .ok (.iinc 3 1, 3) := by decide +kernel
theorem dX10_passOn_123 : decode cX10_passOn 123 = .ok (.goto (-66), 3) := by decide +kernel
theorem dX10_passOn_126 : decode cX10_passOn 126 = .ok (.iinc 2 1, 3) := by decide +kernel
theorem dX10_passOn_129 : decode cX10_passOn 129 = .ok (.goto (-93), 3) := by decide +kernel
theorem dX10_passOn_132 : decode cX10_passOn 132 = .ok (.return_, 1) := by decide +kernel
set_option maxRecDepth 20000 in
theorem ggX10_keepFitting_X3_fit : GoodIn wsX10_keepFitting wsX3_fit := goodIn_r _ [5, 6, 7, 8, 9, 10, 11, 12, 13, 14, 15, 16, 17, 18, 22, 23, 24, 25] (by decide +kernel) (by decide +kernel)
set_option maxRecDepth 20000 in
theorem gX10_keepFitting_X3_fit_n55 : GoodIn wsX10_keepFitting (wsX3_fit) := ggX10_keepFitting_X3_fit
theorem dX10_keepFitting_0 : decode cX10_keepFitting 0 = .ok (.iconst 0, 1) := by decide +kernel
theorem dX10_keepFitting_1 : decode cX10_keepFitting 1 = .ok (.istore_n 3, 1) := by decide +kernel
theorem dX10_keepFitting_2 : decode cX10_keepFitting 2 = .ok (.iload_n 3, 1) := by decide +kernel
theorem dX10_keepFitting_3 : decode cX10_keepFitting 3 = .ok (.sipush 128, 3) := by decide +kernel
theorem dX10_keepFitting_6 : decode cX10_keepFitting 6 = .ok (.if_icmp .ge 34, 3) := by decide +kernel
theorem dX10_keepFitting_9 : decode cX10_keepFitting 9 = .ok (.aload_n 0, 1) := by decide +kernel
theorem dX10_keepFitting_10 : decode cX10_keepFitting 10 = .ok (.getfield 9, 3) := by decide +kernel
theorem dX10_keepFitting_13 : decode cX10_keepFitting 13 = .ok (.iload_n 3, 1) := by decide +kernel
theorem dX10_keepFitting_14 : decode cX10_keepFitting 14 = .ok (.iaload, 1) := by decide +kernel
theorem dX10_keepFitting_15 : decode cX10_keepFitting 15 = .ok (.ifCond .le 19, 3) := by decide +kernel
theorem dX10_keepFitting_18 : decode cX10_keepFitting 18 = .ok (.aload_n 1, 1) := by decide +kernel
theorem dX10_keepFitting_19 : decode cX10_keepFitting 19 = .ok (.iload_n 2, 1) := by decide +kernel
theorem dX10_keepFitting_20 : decode cX10_keepFitting 20 = .ok (.iload_n 3, 1) := by decide +kernel
theorem dX10_keepFitting_21 : decode cX10_keepFitting 21 = .ok (.invokevirtual 55, 3) := by decide +kernel
theorem dX10_keepFitting_24 : decode cX10_keepFitting 24 = .ok (.ifCond .ne 10, 3) := by decide +kernel
theorem dX10_keepFitting_27 : decode cX10_keepFitting 27 = .ok (.aload_n 0, 1) := by decide +kernel
theorem dX10_keepFitting_28 : decode cX10_keepFitting 28 = .ok (.getfield 9, 3) := by decide +kernel
theorem dX10_keepFitting_31 : decode cX10_keepFitting 31 = .ok (.iload_n 3, 1) := by decide +kernel
theorem dX10_keepFitting_32 : decode cX10_keepFitting 32 = .ok (.iconst 0, 1) := by decide +kernel
theorem dX10_keepFitting_33 : decode cX10_keepFitting 33 = .ok (.iastore, 1) := by decide +kernel
theorem dX10_keepFitting_34 : decode cX10_keepFitting 34 = .ok (.iinc 3 1, 3) := by decide +kernel
theorem dX10_keepFitting_37 : decode cX10_keepFitting 37 = .ok (.goto (-35), 3) := by decide +kernel
theorem dX10_keepFitting_40 : decode cX10_keepFitting 40 = .ok (.return_, 1) := by decide +kernel
theorem dX10_total_0 : decode cX10_total 0 = .ok (.iconst 0, 1) := by decide +kernel
theorem dX10_total_1 : decode cX10_total 1 = .ok (.istore_n 1, 1) := by decide +kernel
theorem dX10_total_2 : decode cX10_total 2 = .ok (.iconst 0, 1) := by decide +kernel
theorem dX10_total_3 : decode cX10_total 3 = .ok (.istore_n 2, 1) := by decide +kernel
theorem dX10_total_4 : decode cX10_total 4 = .ok (.iload_n 2, 1) := by decide +kernel
theorem dX10_total_5 : decode cX10_total 5 = .ok (.sipush 128, 3) := by decide +kernel
theorem dX10_total_8 : decode cX10_total 8 = .ok (.if_icmp .ge 18, 3) := by decide +kernel
theorem dX10_total_11 : decode cX10_total 11 = .ok (.iload_n 1, 1) := by decide +kernel
theorem dX10_total_12 : decode cX10_total 12 = .ok (.aload_n 0, 1) := by decide +kernel
theorem dX10_total_13 : decode cX10_total 13 = .ok (.getfield 9, 3) := by decide +kernel
theorem dX10_total_16 : decode cX10_total 16 = .ok (.iload_n 2, 1) := by decide +kernel
theorem dX10_total_17 : decode cX10_total 17 = .ok (.iaload, 1) := by decide +kernel
theorem dX10_total_18 : decode cX10_total 18 = .ok (.iadd, 1) := by decide +kernel
theorem dX10_total_19 : decode cX10_total 19 = .ok (.istore_n 1, 1) := by decide +kernel
theorem dX10_total_20 : decode cX10_total 20 = .ok (.iinc 2 1, 3) := by decide +kernel
theorem dX10_total_23 : decode cX10_total 23 = .ok (.goto (-19), 3) := by decide +kernel
theorem dX10_total_26 : decode cX10_total 26 = .ok (.iload_n 1, 1) := by decide +kernel
theorem dX10_total_27 : decode cX10_total 27 = .ok (.ireturn, 1) := by decide +kernel
set_option maxRecDepth 20000 in
theorem ggX10_holders_X11_holderAt : GoodIn wsX10_holders wsX11_holderAt := goodIn_r _ [4] (by decide +kernel) (by decide +kernel)
set_option maxRecDepth 20000 in
theorem gX10_holders_X11_holderAt_n41 : GoodIn wsX10_holders (wsX11_holderAt) := ggX10_holders_X11_holderAt
theorem dX10_holders_0 : decode cX10_holders 0 = .ok (.iconst 0, 1) := by decide +kernel
theorem dX10_holders_1 : decode cX10_holders 1 = .ok (.istore_n 1, 1) := by decide +kernel
theorem dX10_holders_2 : decode cX10_holders 2 = .ok (.iconst 0, 1) := by decide +kernel
theorem dX10_holders_3 : decode cX10_holders 3 = .ok (.istore_n 2, 1) := by decide +kernel
theorem dX10_holders_4 : decode cX10_holders 4 = .ok (.iload_n 2, 1) := by decide +kernel
theorem dX10_holders_5 : decode cX10_holders 5 = .ok (.sipush 128, 3) := by decide +kernel
theorem dX10_holders_8 : decode cX10_holders 8 = .ok (.if_icmp .ge 27, 3) := by decide +kernel
theorem dX10_holders_11 : decode cX10_holders 11 = .ok (.aload_n 0, 1) := by decide +kernel
theorem dX10_holders_12 : decode cX10_holders 12 = .ok (.getfield 9, 3) := by decide +kernel
theorem dX10_holders_15 : decode cX10_holders 15 = .ok (.iload_n 2, 1) := by decide +kernel
theorem dX10_holders_16 : decode cX10_holders 16 = .ok (.iaload, 1) := by decide +kernel
theorem dX10_holders_17 : decode cX10_holders 17 = .ok (.ifCond .le 12, 3) := by decide +kernel
theorem dX10_holders_20 : decode cX10_holders 20 = .ok (.iload_n 1, 1) := by decide +kernel
theorem dX10_holders_21 : decode cX10_holders 21 = .ok (.iconst 1, 1) := by decide +kernel
theorem dX10_holders_22 : decode cX10_holders 22 = .ok (.iload_n 2, 1) := by decide +kernel
theorem dX10_holders_23 : decode cX10_holders 23 = .ok (.invokestatic 41, 3) := by decide +kernel
theorem dX10_holders_26 : decode cX10_holders 26 = .ok (.ishl, 1) := by decide +kernel
theorem dX10_holders_27 : decode cX10_holders 27 = .ok (.ior, 1) := by decide +kernel
theorem dX10_holders_28 : decode cX10_holders 28 = .ok (.istore_n 1, 1) := by decide +kernel
theorem dX10_holders_29 : decode cX10_holders 29 = .ok (.iinc 2 1, 3) := by decide +kernel
theorem dX10_holders_32 : decode cX10_holders 32 = .ok (.goto (-28), 3) := by decide +kernel
theorem dX10_holders_35 : decode cX10_holders 35 = .ok (.iload_n 1, 1) := by decide +kernel
theorem dX10_holders_36 : decode cX10_holders 36 = .ok (.ireturn, 1) := by decide +kernel
set_option maxRecDepth 20000 in
theorem ggX10_tellingSort_X10_total : GoodIn wsX10_tellingSort wsX10_total := goodIn_r _ [5, 6, 29, 30, 31] (by decide +kernel) (by decide +kernel)
set_option maxRecDepth 20000 in
theorem gX10_tellingSort_X10_total : GoodIn wsX10_tellingSort (wsV RX10 61 RX10 yX10_total wsX10_total) := goodIn_app (goodIn_of _ (by decide +kernel)) ggX10_tellingSort_X10_total
set_option maxRecDepth 20000 in
theorem ggX10_tellingSort_X10_mostLeftBy : GoodIn wsX10_tellingSort wsX10_mostLeftBy := goodIn_r _ [10, 11, 6, 12, 13, 14, 15, 16, 17, 18, 19, 20, 21, 22, 23, 24, 25, 26, 27, 28, 29, 30, 31] (by decide +kernel) (by decide +kernel)
set_option maxRecDepth 20000 in
theorem gX10_tellingSort_X10_mostLeftBy : GoodIn wsX10_tellingSort (wsV RX10 65 RX10 yX10_mostLeftBy wsX10_mostLeftBy) := goodIn_app (goodIn_of _ (by decide +kernel)) ggX10_tellingSort_X10_mostLeftBy
theorem dX10_tellingSort_0 : decode cX10_tellingSort 0 = .ok (.aload_n 0, 1) := by decide +kernel
theorem dX10_tellingSort_1 : decode cX10_tellingSort 1 = .ok (.invokevirtual 61, 3) := by decide +kernel
theorem dX10_tellingSort_4 : decode cX10_tellingSort 4 = .ok (.ifCond .ne 5, 3) := by decide +kernel
theorem dX10_tellingSort_7 : decode cX10_tellingSort 7 = .ok (.iconst (-1), 1) := by decide +kernel
theorem dX10_tellingSort_8 : decode cX10_tellingSort 8 = .ok (.ireturn, 1) := by decide +kernel
theorem dX10_tellingSort_9 : decode cX10_tellingSort 9 = .ok (.iconst 0, 1) := by decide +kernel
theorem dX10_tellingSort_10 : decode cX10_tellingSort 10 = .ok (.istore_n 1, 1) := by decide +kernel
theorem dX10_tellingSort_11 : decode cX10_tellingSort 11 = .ok (.iconst 1, 1) := by decide +kernel
theorem dX10_tellingSort_12 : decode cX10_tellingSort 12 = .ok (.istore_n 2, 1) := by decide +kernel
theorem dX10_tellingSort_13 : decode cX10_tellingSort 13 = .ok (.iload_n 2, 1) := by decide +kernel
theorem dX10_tellingSort_14 : decode cX10_tellingSort 14 = .ok (.iconst 3, 1) := by decide +kernel
theorem dX10_tellingSort_15 : decode cX10_tellingSort 15 = .ok (.if_icmp .ge 24, 3) := by decide +kernel
theorem dX10_tellingSort_18 : decode cX10_tellingSort 18 = .ok (.aload_n 0, 1) := by decide +kernel
theorem dX10_tellingSort_19 : decode cX10_tellingSort 19 = .ok (.iload_n 2, 1) := by decide +kernel
theorem dX10_tellingSort_20 : decode cX10_tellingSort 20 = .ok (.invokevirtual 65, 3) := by decide +kernel
theorem dX10_tellingSort_23 : decode cX10_tellingSort 23 = .ok (.aload_n 0, 1) := by decide +kernel
theorem dX10_tellingSort_24 : decode cX10_tellingSort 24 = .ok (.iload_n 1, 1) := by decide +kernel
theorem dX10_tellingSort_25 : decode cX10_tellingSort 25 = .ok (.invokevirtual 65, 3) := by decide +kernel
theorem dX10_tellingSort_28 : decode cX10_tellingSort 28 = .ok (.if_icmp .ge 5, 3) := by decide +kernel
theorem dX10_tellingSort_31 : decode cX10_tellingSort 31 = .ok (.iload_n 2, 1) := by decide +kernel
theorem dX10_tellingSort_32 : decode cX10_tellingSort 32 = .ok (.istore_n 1, 1) := by decide +kernel
theorem dX10_tellingSort_33 : decode cX10_tellingSort 33 = .ok (.iinc 2 1, 3) := by decide +kernel
theorem dX10_tellingSort_36 : decode cX10_tellingSort 36 = .ok (.goto (-23), 3) := by decide +kernel
theorem dX10_tellingSort_39 : decode cX10_tellingSort 39 = .ok (.iload_n 1, 1) := by decide +kernel
theorem dX10_tellingSort_40 : decode cX10_tellingSort 40 = .ok (.ireturn, 1) := by decide +kernel
set_option maxRecDepth 20000 in
theorem ggX10_mostLeftBy_J7_fill_53178 : GoodIn wsX10_mostLeftBy wsJ7_fill_53178 := goodIn_r _ [10] (by decide +kernel) (by decide +kernel)
set_option maxRecDepth 20000 in
theorem gX10_mostLeftBy_J7_fill_53178 : GoodIn wsX10_mostLeftBy (va_wsS RX10 21 yJ7_fill_53178 wsJ7_fill_53178) := goodIn_app (goodIn_of _ (by decide +kernel)) ggX10_mostLeftBy_J7_fill_53178
set_option maxRecDepth 20000 in
theorem ggX10_mostLeftBy_X11_seenAt : GoodIn wsX10_mostLeftBy wsX11_seenAt := goodIn_r _ [13, 14, 15, 12, 16, 17, 18, 19] (by decide +kernel) (by decide +kernel)
set_option maxRecDepth 20000 in
theorem gX10_mostLeftBy_X11_seenAt_n68 : GoodIn wsX10_mostLeftBy (wsX11_seenAt) := ggX10_mostLeftBy_X11_seenAt
theorem dX10_mostLeftBy_0 : decode cX10_mostLeftBy 0 = .ok (.aload_n 0, 1) := by decide +kernel
theorem dX10_mostLeftBy_1 : decode cX10_mostLeftBy 1 = .ok (.getfield 18, 3) := by decide +kernel
theorem dX10_mostLeftBy_4 : decode cX10_mostLeftBy 4 = .ok (.iconst 0, 1) := by decide +kernel
theorem dX10_mostLeftBy_5 : decode cX10_mostLeftBy 5 = .ok (.invokestatic 21, 3) := by decide +kernel
theorem dX10_mostLeftBy_8 : decode cX10_mostLeftBy 8 = .ok (.iconst 0, 1) := by decide +kernel
theorem dX10_mostLeftBy_9 : decode cX10_mostLeftBy 9 = .ok (.istore_n 2, 1) := by decide +kernel
theorem dX10_mostLeftBy_10 : decode cX10_mostLeftBy 10 = .ok (.iconst 0, 1) := by decide +kernel
theorem dX10_mostLeftBy_11 : decode cX10_mostLeftBy 11 = .ok (.istore_n 3, 1) := by decide +kernel
theorem dX10_mostLeftBy_12 : decode cX10_mostLeftBy 12 = .ok (.iload_n 3, 1) := by decide +kernel
theorem dX10_mostLeftBy_13 : decode cX10_mostLeftBy 13 = .ok (.sipush 128, 3) := by decide +kernel
theorem dX10_mostLeftBy_16 : decode cX10_mostLeftBy 16 = .ok (.if_icmp .ge 59, 3) := by decide +kernel
theorem dX10_mostLeftBy_19 : decode cX10_mostLeftBy 19 = .ok (.iload_n 3, 1) := by decide +kernel
theorem dX10_mostLeftBy_20 : decode cX10_mostLeftBy 20 = .ok (.iload_n 1, 1) := by decide +kernel
theorem dX10_mostLeftBy_21 : decode cX10_mostLeftBy 21 = .ok (.invokestatic 68, 3) := by decide +kernel
theorem dX10_mostLeftBy_24 : decode cX10_mostLeftBy 24 = .ok (.istore 4, 2) := by decide +kernel
theorem dX10_mostLeftBy_26 : decode cX10_mostLeftBy 26 = .ok (.iload 4, 2) := by decide +kernel
theorem dX10_mostLeftBy_28 : decode cX10_mostLeftBy 28 = .ok (.ifCond .lt 41, 3) := by decide +kernel
theorem dX10_mostLeftBy_31 : decode cX10_mostLeftBy 31 = .ok (.iload 4, 2) := by decide +kernel
theorem dX10_mostLeftBy_33 : decode cX10_mostLeftBy 33 = .ok (.bipush 8, 2) := by decide +kernel
theorem dX10_mostLeftBy_35 : decode cX10_mostLeftBy 35 = .ok (.if_icmp .lt 6, 3) := by decide +kernel
theorem dX10_mostLeftBy_38 : decode cX10_mostLeftBy 38 = .ok (.goto 31, 3) := by decide +kernel
theorem dX10_mostLeftBy_41 : decode cX10_mostLeftBy 41 = .ok (.aload_n 0, 1) := by decide +kernel
theorem dX10_mostLeftBy_42 : decode cX10_mostLeftBy 42 = .ok (.getfield 18, 3) := by decide +kernel
theorem dX10_mostLeftBy_45 : decode cX10_mostLeftBy 45 = .ok (.iload 4, 2) := by decide +kernel
theorem dX10_mostLeftBy_47 : decode cX10_mostLeftBy 47 = .ok (.dup2, 1) := by decide +kernel
theorem dX10_mostLeftBy_48 : decode cX10_mostLeftBy 48 = .ok (.iaload, 1) := by decide +kernel
theorem dX10_mostLeftBy_49 : decode cX10_mostLeftBy 49 = .ok (.aload_n 0, 1) := by decide +kernel
theorem dX10_mostLeftBy_50 : decode cX10_mostLeftBy 50 = .ok (.getfield 9, 3) := by decide +kernel
theorem dX10_mostLeftBy_53 : decode cX10_mostLeftBy 53 = .ok (.iload_n 3, 1) := by decide +kernel
theorem dX10_mostLeftBy_54 : decode cX10_mostLeftBy 54 = .ok (.iaload, 1) := by decide +kernel
theorem dX10_mostLeftBy_55 : decode cX10_mostLeftBy 55 = .ok (.iadd, 1) := by decide +kernel
theorem dX10_mostLeftBy_56 : decode cX10_mostLeftBy 56 = .ok (.iastore, 1) := by decide +kernel
theorem dX10_mostLeftBy_57 : decode cX10_mostLeftBy 57 = .ok (.iload_n 2, 1) := by decide +kernel
theorem dX10_mostLeftBy_58 : decode cX10_mostLeftBy 58 = .ok (.aload_n 0, 1) := by decide +kernel
theorem dX10_mostLeftBy_59 : decode cX10_mostLeftBy 59 = .ok (.getfield 18, 3) := by decide +kernel
theorem dX10_mostLeftBy_62 : decode cX10_mostLeftBy 62 = .ok (.iload 4, 2) := by decide +kernel
theorem dX10_mostLeftBy_64 : decode cX10_mostLeftBy 64 = .ok (.iaload, 1) := by decide +kernel
theorem dX10_mostLeftBy_65 : decode cX10_mostLeftBy 65 = .ok (.invokestatic 71, 3) := by decide +kernel
theorem dX10_mostLeftBy_68 : decode cX10_mostLeftBy 68 = .ok (.istore_n 2, 1) := by decide +kernel
theorem dX10_mostLeftBy_69 : decode cX10_mostLeftBy 69 = .ok (.iinc 3 1, 3) := by decide +kernel
theorem dX10_mostLeftBy_72 : decode cX10_mostLeftBy 72 = .ok (.goto (-60), 3) := by decide +kernel
theorem dX10_mostLeftBy_75 : decode cX10_mostLeftBy 75 = .ok (.iload_n 2, 1) := by decide +kernel
theorem dX10_mostLeftBy_76 : decode cX10_mostLeftBy 76 = .ok (.ireturn, 1) := by decide +kernel
set_option maxRecDepth 20000 in
theorem ggX11_init_X4_init : GoodIn wsX11_init wsX4_init := goodIn_r _ [38, 39, 2, 3, 31, 40, 41, 78, 79] (by decide +kernel) (by decide +kernel)
set_option maxRecDepth 20000 in
theorem gX11_init_X4_init_n11 : GoodIn wsX11_init (wsX4_init) := ggX11_init_X4_init
set_option maxRecDepth 20000 in
theorem ggX11_init_X5_init : GoodIn wsX11_init wsX5_init := goodIn_r _ [43, 44, 2, 3, 45, 46, 47, 94, 95] (by decide +kernel) (by decide +kernel)
set_option maxRecDepth 20000 in
theorem gX11_init_X5_init_n18 : GoodIn wsX11_init (wsX5_init) := ggX11_init_X5_init
set_option maxRecDepth 20000 in
theorem ggX11_init_X8_init : GoodIn wsX11_init wsX8_init := goodIn_r _ [49, 50, 2, 3, 51, 52, 53, 31, 54, 55, 56, 57, 96, 97, 98, 99, 100, 101] (by decide +kernel) (by decide +kernel)
set_option maxRecDepth 20000 in
theorem gX11_init_X8_init_n25 : GoodIn wsX11_init (wsX8_init) := ggX11_init_X8_init
set_option maxRecDepth 20000 in
theorem ggX11_init_X3_init : GoodIn wsX11_init wsX3_init := goodIn_r _ [59, 60, 2, 3, 31, 61, 62, 63, 64, 102, 103, 104, 105] (by decide +kernel) (by decide +kernel)
set_option maxRecDepth 20000 in
theorem gX11_init_X3_init_n38 : GoodIn wsX11_init (wsX3_init) := ggX11_init_X3_init
set_option maxRecDepth 20000 in
theorem ggX11_init_X0_init : GoodIn wsX11_init wsX0_init := goodIn_r _ [66, 67, 2, 3, 31, 68, 69, 70, 71, 106, 107, 108, 109] (by decide +kernel) (by decide +kernel)
set_option maxRecDepth 20000 in
theorem gX11_init_X0_init_n48 : GoodIn wsX11_init (wsX0_init) := ggX11_init_X0_init
set_option maxRecDepth 20000 in
theorem ggX11_init_X10_init : GoodIn wsX11_init wsX10_init := goodIn_r _ [73, 74, 2, 3, 31, 75, 76, 77, 110, 111, 112] (by decide +kernel) (by decide +kernel)
set_option maxRecDepth 20000 in
theorem gX11_init_X10_init_n55 : GoodIn wsX11_init (wsX10_init) := ggX11_init_X10_init
