theorem dX12_init_0 : decode cX12_init 0 = .ok (.aload_n 0, 1) := by decide +kernel
theorem dX12_init_1 : decode cX12_init 1 = .ok (.invokespecial 1, 3) := by decide +kernel
theorem dX12_init_4 : decode cX12_init 4 = .ok (.aload_n 0, 1) := by decide +kernel
theorem dX12_init_5 : decode cX12_init 5 = .ok (.bipush 10, 2) := by decide +kernel
theorem dX12_init_7 : decode cX12_init 7 = .ok (.newarray .int, 2) := by decide +kernel
theorem dX12_init_9 : decode cX12_init 9 = .ok (.putfield 7, 3) := by decide +kernel
theorem dX12_init_12 : decode cX12_init 12 = .ok (.aload_n 0, 1) := by decide +kernel
theorem dX12_init_13 : decode cX12_init 13 = .ok (.iconst 4, 1) := by decide +kernel
theorem dX12_init_14 : decode cX12_init 14 = .ok (.newarray .int, 2) := by decide +kernel
theorem dX12_init_16 : decode cX12_init 16 = .ok (.putfield 13, 3) := by decide +kernel
theorem dX12_init_19 : decode cX12_init 19 = .ok (.aload_n 0, 1) := by decide +kernel
theorem dX12_init_20 : decode cX12_init 20 = .ok (.bipush 16, 2) := by decide +kernel
theorem dX12_init_22 : decode cX12_init 22 = .ok (.newarray .int, 2) := by decide +kernel
theorem dX12_init_24 : decode cX12_init 24 = .ok (.putfield 16, 3) := by decide +kernel
theorem dX12_init_27 : decode cX12_init 27 = .ok (.aload_n 0, 1) := by decide +kernel
theorem dX12_init_28 : decode cX12_init 28 = .ok (.bipush 16, 2) := by decide +kernel
theorem dX12_init_30 : decode cX12_init 30 = .ok (.newarray .int, 2) := by decide +kernel
theorem dX12_init_32 : decode cX12_init 32 = .ok (.putfield 19, 3) := by decide +kernel
theorem dX12_init_35 : decode cX12_init 35 = .ok (.aload_n 0, 1) := by decide +kernel
theorem dX12_init_36 : decode cX12_init 36 = .ok (.sipush 128, 3) := by decide +kernel
theorem dX12_init_39 : decode cX12_init 39 = .ok (.newarray .int, 2) := by decide +kernel
theorem dX12_init_41 : decode cX12_init 41 = .ok (.putfield 22, 3) := by decide +kernel
theorem dX12_init_44 : decode cX12_init 44 = .ok (.aload_n 0, 1) := by decide +kernel
theorem dX12_init_45 : decode cX12_init 45 = .ok (.iconst 4, 1) := by decide +kernel
theorem dX12_init_46 : decode cX12_init 46 = .ok (.newarray .int, 2) := by decide +kernel
theorem dX12_init_48 : decode cX12_init 48 = .ok (.putfield 25, 3) := by decide +kernel
theorem dX12_init_51 : decode cX12_init 51 = .ok (.aload_n 0, 1) := by decide +kernel
theorem dX12_init_52 : decode cX12_init 52 = .ok (.iconst 4, 1) := by decide +kernel
theorem dX12_init_53 : decode cX12_init 53 = .ok (.newarray .int, 2) := by decide +kernel
theorem dX12_init_55 : decode cX12_init 55 = .ok (.putfield 28, 3) := by decide +kernel
theorem dX12_init_58 : decode cX12_init 58 = .ok (.aload_n 0, 1) := by decide +kernel
theorem dX12_init_59 : decode cX12_init 59 = .ok (.bipush 24, 2) := by decide +kernel
theorem dX12_init_61 : decode cX12_init 61 = .ok (.newarray .int, 2) := by decide +kernel
theorem dX12_init_63 : decode cX12_init 63 = .ok (.putfield 31, 3) := by decide +kernel
theorem dX12_init_66 : decode cX12_init 66 = .ok (.aload_n 0, 1) := by decide +kernel
theorem dX12_init_67 : decode cX12_init 67 = .ok (.sipush 128, 3) := by decide +kernel
theorem dX12_init_70 : decode cX12_init 70 = .ok (.newarray .int, 2) := by decide +kernel
theorem dX12_init_72 : decode cX12_init 72 = .ok (.putfield 34, 3) := by decide +kernel
theorem dX12_init_75 : decode cX12_init 75 = .ok (.aload_n 0, 1) := by decide +kernel
theorem dX12_init_76 : decode cX12_init 76 = .ok (.sipush 128, 3) := by decide +kernel
theorem dX12_init_79 : decode cX12_init 79 = .ok (.newarray .int, 2) := by decide +kernel
theorem dX12_init_81 : decode cX12_init 81 = .ok (.putfield 37, 3) := by decide +kernel
theorem dX12_init_84 : decode cX12_init 84 = .ok (.aload_n 0, 1) := by decide +kernel
theorem dX12_init_85 : decode cX12_init 85 = .ok (.bipush 8, 2) := by decide +kernel
theorem dX12_init_87 : decode cX12_init 87 = .ok (.newarray .int, 2) := by decide +kernel
theorem dX12_init_89 : decode cX12_init 89 = .ok (.putfield 40, 3) := by decide +kernel
theorem dX12_init_92 : decode cX12_init 92 = .ok (.aload_n 0, 1) := by decide +kernel
theorem dX12_init_93 : decode cX12_init 93 = .ok (.bipush 16, 2) := by decide +kernel
theorem dX12_init_95 : decode cX12_init 95 = .ok (.newarray .int, 2) := by decide +kernel
theorem dX12_init_97 : decode cX12_init 97 = .ok (.putfield 43, 3) := by decide +kernel
theorem dX12_init_100 : decode cX12_init 100 = .ok (.aload_n 0, 1) := by decide +kernel
theorem dX12_init_101 : decode cX12_init 101 = .ok (.bipush 24, 2) := by decide +kernel
theorem dX12_init_103 : decode cX12_init 103 = .ok (.newarray .int, 2) := by decide +kernel
theorem dX12_init_105 : decode cX12_init 105 = .ok (.putfield 46, 3) := by decide +kernel
theorem dX12_init_108 : decode cX12_init 108 = .ok (.aload_n 0, 1) := by decide +kernel
theorem dX12_init_109 : decode cX12_init 109 = .ok (.iconst (-1), 1) := by decide +kernel
theorem dX12_init_110 : decode cX12_init 110 = .ok (.putfield 49, 3) := by decide +kernel
theorem dX12_init_113 : decode cX12_init 113 = .ok (.return_, 1) := by decide +kernel
theorem dX12_in_0 : decode cX12_in 0 = .ok (.lload_n 0, 1) := by decide +kernel
theorem dX12_in_1 : decode cX12_in 1 = .ok (.lload_n 2, 1) := by decide +kernel
theorem dX12_in_2 : decode cX12_in 2 = .ok (.lcmp, 1) := by decide +kernel
theorem dX12_in_3 : decode cX12_in 3 = .ok (.ifCond .lt 14, 3) := by decide +kernel
theorem dX12_in_6 : decode cX12_in 6 = .ok (.lload_n 0, 1) := by decide +kernel
theorem dX12_in_7 : decode cX12_in 7 = .ok (.lload 4, 2) := by decide +kernel
theorem dX12_in_9 : decode cX12_in 9 = .ok (.lcmp, 1) := by decide +kernel
theorem dX12_in_10 : decode cX12_in 10 = .ok (.ifCond .gt 7, 3) := by decide +kernel
theorem dX12_in_13 : decode cX12_in 13 = .ok (.iconst 1, 1) := by decide +kernel
theorem dX12_in_14 : decode cX12_in 14 = .ok (.goto 4, 3) := by decide +kernel
theorem dX12_in_17 : decode cX12_in 17 = .ok (.iconst 0, 1) := by decide +kernel
theorem dX12_in_18 : decode cX12_in 18 = .ok (.ireturn, 1) := by decide +kernel
theorem dX12_copy_0 : decode cX12_copy 0 = .ok (.iconst 0, 1) := by decide +kernel
theorem dX12_copy_1 : decode cX12_copy 1 = .ok (.istore_n 2, 1) := by decide +kernel
theorem dX12_copy_2 : decode cX12_copy 2 = .ok (.iload_n 2, 1) := by decide +kernel
theorem dX12_copy_3 : decode cX12_copy 3 = .ok (.aload_n 0, 1) := by decide +kernel
theorem dX12_copy_4 : decode cX12_copy 4 = .ok (.arraylength, 1) := by decide +kernel
theorem dX12_copy_5 : decode cX12_copy 5 = .ok (.if_icmp .ge 15, 3) := by decide +kernel
theorem dX12_copy_8 : decode cX12_copy 8 = .ok (.aload_n 1, 1) := by decide +kernel
theorem dX12_copy_9 : decode cX12_copy 9 = .ok (.iload_n 2, 1) := by decide +kernel
theorem dX12_copy_10 : decode cX12_copy 10 = .ok (.aload_n 0, 1) := by decide +kernel
theorem dX12_copy_11 : decode cX12_copy 11 = .ok (.iload_n 2, 1) := by decide +kernel
theorem dX12_copy_12 : decode cX12_copy 12 = .ok (.iaload, 1) := by decide +kernel
theorem dX12_copy_13 : decode cX12_copy 13 = .ok (.iastore, 1) := by decide +kernel
theorem dX12_copy_14 : decode cX12_copy 14 = .ok (.iinc 2 1, 3) := by decide +kernel
theorem dX12_copy_17 : decode cX12_copy 17 = .ok (.goto (-15), 3) := by decide +kernel
theorem dX12_copy_20 : decode cX12_copy 20 = .ok (.return_, 1) := by decide +kernel
set_option maxRecDepth 20000 in
theorem ggX12_letter_X12_in : GoodIn wsX12_letter wsX12_in := goodIn_r _ [7] (by decide +kernel) (by decide +kernel)
set_option maxRecDepth 20000 in
theorem gX12_letter_X12_in : GoodIn wsX12_letter (va_wsS RX12 55 yX12_in wsX12_in) := goodIn_app (goodIn_of _ (by decide +kernel)) ggX12_letter_X12_in
theorem dX12_letter_0 : decode cX12_letter 0 = .ok (.iload_n 1, 1) := by decide +kernel
theorem dX12_letter_1 : decode cX12_letter 1 = .ok (.i2l, 1) := by decide +kernel
theorem dX12_letter_2 : decode cX12_letter 2 = .ok (.lconst 1, 1) := by decide +kernel
theorem dX12_letter_3 : decode cX12_letter 3 = .ok (.ldc2_w 53, 3) := by decide +kernel
theorem dX12_letter_6 : decode cX12_letter 6 = .ok (.invokestatic 55, 3) := by decide +kernel
theorem dX12_letter_9 : decode cX12_letter 9 = .ok (.ifCond .ne 6, 3) := by decide +kernel
theorem dX12_letter_12 : decode cX12_letter 12 = .ok (.bipush (-102), 2) := by decide +kernel
theorem dX12_letter_14 : decode cX12_letter 14 = .ok (.ireturn, 1) := by decide +kernel
theorem dX12_letter_15 : decode cX12_letter 15 = .ok (.aload_n 0, 1) := by decide +kernel
theorem dX12_letter_16 : decode cX12_letter 16 = .ok (.getfield 59, 3) := by decide +kernel
theorem dX12_letter_19 : decode cX12_letter 19 = .ok (.bipush 10, 2) := by decide +kernel
theorem dX12_letter_21 : decode cX12_letter 21 = .ok (.if_icmp .ne 6, 3) := by decide +kernel
theorem dX12_letter_24 : decode cX12_letter 24 = .ok (.bipush (-104), 2) := by decide +kernel
theorem dX12_letter_26 : decode cX12_letter 26 = .ok (.ireturn, 1) := by decide +kernel
theorem dX12_letter_27 : decode cX12_letter 27 = .ok (.aload_n 0, 1) := by decide +kernel
theorem dX12_letter_28 : decode cX12_letter 28 = .ok (.getfield 7, 3) := by decide +kernel
theorem dX12_letter_31 : decode cX12_letter 31 = .ok (.aload_n 0, 1) := by decide +kernel
theorem dX12_letter_32 : decode cX12_letter 32 = .ok (.getfield 59, 3) := by decide +kernel
theorem dX12_letter_35 : decode cX12_letter 35 = .ok (.iload_n 1, 1) := by decide +kernel
theorem dX12_letter_36 : decode cX12_letter 36 = .ok (.iastore, 1) := by decide +kernel
theorem dX12_letter_37 : decode cX12_letter 37 = .ok (.aload_n 0, 1) := by decide +kernel
theorem dX12_letter_38 : decode cX12_letter 38 = .ok (.dup, 1) := by decide +kernel
theorem dX12_letter_39 : decode cX12_letter 39 = .ok (.getfield 59, 3) := by decide +kernel
theorem dX12_letter_42 : decode cX12_letter 42 = .ok (.iconst 1, 1) := by decide +kernel
theorem dX12_letter_43 : decode cX12_letter 43 = .ok (.iadd, 1) := by decide +kernel
theorem dX12_letter_44 : decode cX12_letter 44 = .ok (.putfield 59, 3) := by decide +kernel
theorem dX12_letter_47 : decode cX12_letter 47 = .ok (.aload_n 0, 1) := by decide +kernel
theorem dX12_letter_48 : decode cX12_letter 48 = .ok (.getfield 59, 3) := by decide +kernel
theorem dX12_letter_51 : decode cX12_letter 51 = .ok (.ireturn, 1) := by decide +kernel
theorem dX12_blank_0 : decode cX12_blank 0 = .ok (.aload_n 0, 1) := by decide +kernel
theorem dX12_blank_1 : decode cX12_blank 1 = .ok (.getfield 59, 3) := by decide +kernel
theorem dX12_blank_4 : decode cX12_blank 4 = .ok (.istore_n 1, 1) := by decide +kernel
theorem dX12_blank_5 : decode cX12_blank 5 = .ok (.aload_n 0, 1) := by decide +kernel
theorem dX12_blank_6 : decode cX12_blank 6 = .ok (.iconst 0, 1) := by decide +kernel
theorem dX12_blank_7 : decode cX12_blank 7 = .ok (.putfield 59, 3) := by decide +kernel
theorem dX12_blank_10 : decode cX12_blank 10 = .ok (.iload_n 1, 1) := by decide +kernel
theorem dX12_blank_11 : decode cX12_blank 11 = .ok (.ireturn, 1) := by decide +kernel
theorem dX12_kindBy_0 : decode cX12_kindBy 0 = .ok (.iload_n 0, 1) := by decide +kernel
theorem dX12_kindBy_1 : decode cX12_kindBy 1 = .ok (.bipush 112, 2) := by decide +kernel
theorem dX12_kindBy_3 : decode cX12_kindBy 3 = .ok (.if_icmp .ne 7, 3) := by decide +kernel
theorem dX12_kindBy_6 : decode cX12_kindBy 6 = .ok (.iconst 0, 1) := by decide +kernel
theorem dX12_kindBy_7 : decode cX12_kindBy 7 = .ok (.goto 44, 3) := by decide +kernel
theorem dX12_kindBy_10 : decode cX12_kindBy 10 = .ok (.iload_n 0, 1) := by decide +kernel
theorem dX12_kindBy_11 : decode cX12_kindBy 11 = .ok (.bipush 99, 2) := by decide +kernel
theorem dX12_kindBy_13 : decode cX12_kindBy 13 = .ok (.if_icmp .ne 7, 3) := by decide +kernel
theorem dX12_kindBy_16 : decode cX12_kindBy 16 = .ok (.iconst 1, 1) := by decide +kernel
theorem dX12_kindBy_17 : decode cX12_kindBy 17 = .ok (.goto 34, 3) := by decide +kernel
theorem dX12_kindBy_20 : decode cX12_kindBy 20 = .ok (.iload_n 0, 1) := by decide +kernel
theorem dX12_kindBy_21 : decode cX12_kindBy 21 = .ok (.bipush 115, 2) := by decide +kernel
theorem dX12_kindBy_23 : decode cX12_kindBy 23 = .ok (.if_icmp .ne 7, 3) := by decide +kernel
theorem dX12_kindBy_26 : decode cX12_kindBy 26 = .ok (.iconst 2, 1) := by decide +kernel
theorem dX12_kindBy_27 : decode cX12_kindBy 27 = .ok (.goto 24, 3) := by decide +kernel
theorem dX12_kindBy_30 : decode cX12_kindBy 30 = .ok (.iload_n 0, 1) := by decide +kernel
theorem dX12_kindBy_31 : decode cX12_kindBy 31 = .ok (.bipush 119, 2) := by decide +kernel
theorem dX12_kindBy_33 : decode cX12_kindBy 33 = .ok (.if_icmp .ne 7, 3) := by decide +kernel
theorem dX12_kindBy_36 : decode cX12_kindBy 36 = .ok (.iconst 3, 1) := by decide +kernel
theorem dX12_kindBy_37 : decode cX12_kindBy 37 = .ok (.goto 14, 3) := by decide +kernel
theorem dX12_kindBy_40 : decode cX12_kindBy 40 = .ok (.iload_n 0, 1) := by decide +kernel
theorem dX12_kindBy_41 : decode cX12_kindBy 41 = .ok (.bipush 100, 2) := by decide +kernel
theorem dX12_kindBy_43 : decode cX12_kindBy 43 = .ok (.if_icmp .ne 7, 3) := by decide +kernel
theorem dX12_kindBy_46 : decode cX12_kindBy 46 = .ok (.iconst 4, 1) := by decide +kernel
theorem dX12_kindBy_47 : decode cX12_kindBy 47 = .ok (.goto 4, 3) := by decide +kernel
theorem dX12_kindBy_50 : decode cX12_kindBy 50 = .ok (.iconst (-1), 1) := by decide +kernel
theorem dX12_kindBy_51 : decode cX12_kindBy 51 = .ok (.ireturn, 1) := by decide +kernel
set_option maxRecDepth 20000 in
theorem ggX12_go_X12_kindBy : GoodIn wsX12_go wsX12_kindBy := goodIn_r _ [10] (by decide +kernel) (by decide +kernel)
set_option maxRecDepth 20000 in
theorem gX12_go_X12_kindBy : GoodIn wsX12_go (va_wsS RX12 68 yX12_kindBy wsX12_kindBy) := goodIn_app (goodIn_of _ (by decide +kernel)) ggX12_go_X12_kindBy
set_option maxRecDepth 20000 in
theorem ggX12_go_X12_in : GoodIn wsX12_go wsX12_in := goodIn_r _ [13] (by decide +kernel) (by decide +kernel)
set_option maxRecDepth 20000 in
theorem gX12_go_X12_in : GoodIn wsX12_go (va_wsS RX12 55 yX12_in wsX12_in) := goodIn_app (goodIn_of _ (by decide +kernel)) ggX12_go_X12_in
theorem dX12_go_0 : decode cX12_go 0 = .ok (.iload_n 1, 1) := by decide +kernel
theorem dX12_go_1 : decode cX12_go 1 = .ok (.bipush 48, 2) := by decide +kernel
theorem dX12_go_3 : decode cX12_go 3 = .ok (.isub, 1) := by decide +kernel
theorem dX12_go_4 : decode cX12_go 4 = .ok (.istore_n 2, 1) := by decide +kernel
theorem dX12_go_5 : decode cX12_go 5 = .ok (.aload_n 0, 1) := by decide +kernel
theorem dX12_go_6 : decode cX12_go 6 = .ok (.getfield 62, 3) := by decide +kernel
theorem dX12_go_9 : decode cX12_go 9 = .ok (.ifCond .ne 24, 3) := by decide +kernel
theorem dX12_go_12 : decode cX12_go 12 = .ok (.iload_n 1, 1) := by decide +kernel
theorem dX12_go_13 : decode cX12_go 13 = .ok (.bipush 59, 2) := by decide +kernel
theorem dX12_go_15 : decode cX12_go 15 = .ok (.if_icmp .ne 18, 3) := by decide +kernel
theorem dX12_go_18 : decode cX12_go 18 = .ok (.aload_n 0, 1) := by decide +kernel
theorem dX12_go_19 : decode cX12_go 19 = .ok (.getfield 65, 3) := by decide +kernel
theorem dX12_go_22 : decode cX12_go 22 = .ok (.iconst 1, 1) := by decide +kernel
theorem dX12_go_23 : decode cX12_go 23 = .ok (.if_icmp .le 10, 3) := by decide +kernel
theorem dX12_go_26 : decode cX12_go 26 = .ok (.aload_n 0, 1) := by decide +kernel
theorem dX12_go_27 : decode cX12_go 27 = .ok (.iconst 1, 1) := by decide +kernel
theorem dX12_go_28 : decode cX12_go 28 = .ok (.putfield 62, 3) := by decide +kernel
theorem dX12_go_31 : decode cX12_go 31 = .ok (.iconst 1, 1) := by decide +kernel
theorem dX12_go_32 : decode cX12_go 32 = .ok (.ireturn, 1) := by decide +kernel
theorem dX12_go_33 : decode cX12_go 33 = .ok (.aload_n 0, 1) := by decide +kernel
theorem dX12_go_34 : decode cX12_go 34 = .ok (.getfield 62, 3) := by decide +kernel
theorem dX12_go_37 : decode cX12_go 37 = .ok (.ifCond .ne 46, 3) := by decide +kernel
theorem dX12_go_40 : decode cX12_go 40 = .ok (.aload_n 0, 1) := by decide +kernel
theorem dX12_go_41 : decode cX12_go 41 = .ok (.getfield 65, 3) := by decide +kernel
theorem dX12_go_44 : decode cX12_go 44 = .ok (.iconst 4, 1) := by decide +kernel
theorem dX12_go_45 : decode cX12_go 45 = .ok (.if_icmp .eq 11, 3) := by decide +kernel
theorem dX12_go_48 : decode cX12_go 48 = .ok (.iload_n 1, 1) := by decide +kernel
theorem dX12_go_49 : decode cX12_go 49 = .ok (.invokestatic 68, 3) := by decide +kernel
theorem dX12_go_52 : decode cX12_go 52 = .ok (.iconst (-1), 1) := by decide +kernel
theorem dX12_go_53 : decode cX12_go 53 = .ok (.if_icmp .ne 5, 3) := by decide +kernel
theorem dX12_go_56 : decode cX12_go 56 = .ok (.iconst 0, 1) := by decide +kernel
theorem dX12_go_57 : decode cX12_go 57 = .ok (.ireturn, 1) := by decide +kernel
theorem dX12_go_58 : decode cX12_go 58 = .ok (.aload_n 0, 1) := by decide +kernel
theorem dX12_go_59 : decode cX12_go 59 = .ok (.getfield 13, 3) := by decide +kernel
theorem dX12_go_62 : decode cX12_go 62 = .ok (.aload_n 0, 1) := by decide +kernel
theorem dX12_go_63 : decode cX12_go 63 = .ok (.getfield 65, 3) := by decide +kernel
theorem dX12_go_66 : decode cX12_go 66 = .ok (.iload_n 1, 1) := by decide +kernel
theorem dX12_go_67 : decode cX12_go 67 = .ok (.invokestatic 68, 3) := by decide +kernel
theorem dX12_go_70 : decode cX12_go 70 = .ok (.iastore, 1) := by decide +kernel
theorem dX12_go_71 : decode cX12_go 71 = .ok (.aload_n 0, 1) := by decide +kernel
theorem dX12_go_72 : decode cX12_go 72 = .ok (.dup, 1) := by decide +kernel
theorem dX12_go_73 : decode cX12_go 73 = .ok (.getfield 65, 3) := by decide +kernel
theorem dX12_go_76 : decode cX12_go 76 = .ok (.iconst 1, 1) := by decide +kernel
theorem dX12_go_77 : decode cX12_go 77 = .ok (.iadd, 1) := by decide +kernel
theorem dX12_go_78 : decode cX12_go 78 = .ok (.putfield 65, 3) := by decide +kernel
theorem dX12_go_81 : decode cX12_go 81 = .ok (.iconst 1, 1) := by decide +kernel
theorem dX12_go_82 : decode cX12_go 82 = .ok (.ireturn, 1) := by decide +kernel
theorem dX12_go_83 : decode cX12_go 83 = .ok (.aload_n 0, 1) := by decide +kernel
theorem dX12_go_84 : decode cX12_go 84 = .ok (.getfield 62, 3) := by decide +kernel
theorem dX12_go_87 : decode cX12_go 87 = .ok (.istore_n 3, 1) := by decide +kernel
theorem dX12_go_88 : decode cX12_go 88 = .ok (.aload_n 0, 1) := by decide +kernel
theorem dX12_go_89 : decode cX12_go 89 = .ok (.dup, 1) := by decide +kernel
theorem dX12_go_90 : decode cX12_go 90 = .ok (.getfield 62, 3) := by decide +kernel
theorem dX12_go_93 : decode cX12_go 93 = .ok (.iconst 1, 1) := by decide +kernel
theorem dX12_go_94 : decode cX12_go 94 = .ok (.iadd, 1) := by decide +kernel
theorem dX12_go_95 : decode cX12_go 95 = .ok (.putfield 62, 3) := by decide +kernel
theorem dX12_go_98 : decode cX12_go 98 = .ok (.aload_n 0, 1) := by decide +kernel
theorem dX12_go_99 : decode cX12_go 99 = .ok (.iload_n 3, 1) := by decide +kernel
theorem dX12_go_100 : decode cX12_go 100 = .ok (.iconst 1, 1) := by decide +kernel
theorem dX12_go_101 : decode cX12_go 101 = .ok (.if_icmp .ne 10, 3) := by decide +kernel
theorem dX12_go_104 : decode cX12_go 104 = .ok (.bipush 8, 2) := by decide +kernel
theorem dX12_go_106 : decode cX12_go 106 = .ok (.iload_n 2, 1) := by decide +kernel
theorem dX12_go_107 : decode cX12_go 107 = .ok (.imul, 1) := by decide +kernel
theorem dX12_go_108 : decode cX12_go 108 = .ok (.goto 9, 3) := by decide +kernel
theorem dX12_go_111 : decode cX12_go 111 = .ok (.aload_n 0, 1) := by decide +kernel
theorem dX12_go_112 : decode cX12_go 112 = .ok (.getfield 72, 3) := by decide +kernel
theorem dX12_go_115 : decode cX12_go 115 = .ok (.iload_n 2, 1) := by decide +kernel
theorem dX12_go_116 : decode cX12_go 116 = .ok (.iadd, 1) := by decide +kernel
theorem dX12_go_117 : decode cX12_go 117 = .ok (.putfield 72, 3) := by decide +kernel
theorem dX12_go_120 : decode cX12_go 120 = .ok (.iload_n 3, 1) := by decide +kernel
theorem dX12_go_121 : decode cX12_go 121 = .ok (.iconst 1, 1) := by decide +kernel
theorem dX12_go_122 : decode cX12_go 122 = .ok (.if_icmp .ne 15, 3) := by decide +kernel
theorem dX12_go_125 : decode cX12_go 125 = .ok (.iload_n 2, 1) := by decide +kernel
theorem dX12_go_126 : decode cX12_go 126 = .ok (.i2l, 1) := by decide +kernel
theorem dX12_go_127 : decode cX12_go 127 = .ok (.lconst 0, 1) := by decide +kernel
theorem dX12_go_128 : decode cX12_go 128 = .ok (.ldc2_w 75, 3) := by decide +kernel
theorem dX12_go_131 : decode cX12_go 131 = .ok (.invokestatic 55, 3) := by decide +kernel
theorem dX12_go_134 : decode cX12_go 134 = .ok (.goto 25, 3) := by decide +kernel
theorem dX12_go_137 : decode cX12_go 137 = .ok (.iload_n 3, 1) := by decide +kernel
theorem dX12_go_138 : decode cX12_go 138 = .ok (.iconst 2, 1) := by decide +kernel
theorem dX12_go_139 : decode cX12_go 139 = .ok (.if_icmp .ne 19, 3) := by decide +kernel
theorem dX12_go_142 : decode cX12_go 142 = .ok (.iload_n 2, 1) := by decide +kernel
theorem dX12_go_143 : decode cX12_go 143 = .ok (.i2l, 1) := by decide +kernel
theorem dX12_go_144 : decode cX12_go 144 = .ok (.lconst 0, 1) := by decide +kernel
theorem dX12_go_145 : decode cX12_go 145 = .ok (.ldc2_w 77, 3) := by decide +kernel
theorem dX12_go_148 : decode cX12_go 148 = .ok (.invokestatic 55, 3) := by decide +kernel
theorem dX12_go_151 : decode cX12_go 151 = .ok (.ifCond .eq 7, 3) := by decide +kernel
theorem dX12_go_154 : decode cX12_go 154 = .ok (.iconst 1, 1) := by decide +kernel
theorem dX12_go_155 : decode cX12_go 155 = .ok (.goto 4, 3) := by decide +kernel
theorem dX12_go_158 : decode cX12_go 158 = .ok (.iconst 0, 1) := by decide +kernel
theorem dX12_go_159 : decode cX12_go 159 = .ok (.ireturn, 1) := by decide +kernel
set_option maxRecDepth 20000 in
theorem ggX12_faultOf_X12_go : GoodIn wsX12_faultOf wsX12_go := goodIn_r _ [9, 2, 1, 10, 11, 12, 13, 14, 15, 8, 16, 17, 18, 19, 20, 21, 22, 23, 24, 25, 26, 27, 28, 29, 30, 31, 32, 33, 34, 35, 36, 37, 38, 39, 40, 41, 42, 43, 44, 45, 46, 47, 48, 49, 50, 51, 52] (by decide +kernel) (by decide +kernel)
set_option maxRecDepth 20000 in
theorem gX12_faultOf_X12_go : GoodIn wsX12_faultOf (wsV RX12 79 RX12 yX12_go wsX12_go) := goodIn_app (goodIn_of _ (by decide +kernel)) ggX12_faultOf_X12_go
theorem dX12_faultOf_0 : decode cX12_faultOf 0 = .ok (.aload_n 0, 1) := by decide +kernel
theorem dX12_faultOf_1 : decode cX12_faultOf 1 = .ok (.iconst 0, 1) := by decide +kernel
theorem dX12_faultOf_2 : decode cX12_faultOf 2 = .ok (.putfield 65, 3) := by decide +kernel
theorem dX12_faultOf_5 : decode cX12_faultOf 5 = .ok (.aload_n 0, 1) := by decide +kernel
theorem dX12_faultOf_6 : decode cX12_faultOf 6 = .ok (.iconst 0, 1) := by decide +kernel
theorem dX12_faultOf_7 : decode cX12_faultOf 7 = .ok (.putfield 62, 3) := by decide +kernel
theorem dX12_faultOf_10 : decode cX12_faultOf 10 = .ok (.iconst 0, 1) := by decide +kernel
theorem dX12_faultOf_11 : decode cX12_faultOf 11 = .ok (.istore_n 1, 1) := by decide +kernel
theorem dX12_faultOf_12 : decode cX12_faultOf 12 = .ok (.iload_n 1, 1) := by decide +kernel
theorem dX12_faultOf_13 : decode cX12_faultOf 13 = .ok (.aload_n 0, 1) := by decide +kernel
theorem dX12_faultOf_14 : decode cX12_faultOf 14 = .ok (.getfield 59, 3) := by decide +kernel
theorem dX12_faultOf_17 : decode cX12_faultOf 17 = .ok (.if_icmp .ge 22, 3) := by decide +kernel
theorem dX12_faultOf_20 : decode cX12_faultOf 20 = .ok (.aload_n 0, 1) := by decide +kernel
theorem dX12_faultOf_21 : decode cX12_faultOf 21 = .ok (.aload_n 0, 1) := by decide +kernel
theorem dX12_faultOf_22 : decode cX12_faultOf 22 = .ok (.getfield 7, 3) := by decide +kernel
theorem dX12_faultOf_25 : decode cX12_faultOf 25 = .ok (.iload_n 1, 1) := by decide +kernel
theorem dX12_faultOf_26 : decode cX12_faultOf 26 = .ok (.iaload, 1) := by decide +kernel
theorem dX12_faultOf_27 : decode cX12_faultOf 27 = .ok (.invokevirtual 79, 3) := by decide +kernel
theorem dX12_faultOf_30 : decode cX12_faultOf 30 = .ok (.ifCond .eq 9, 3) := by decide +kernel
theorem dX12_faultOf_33 : decode cX12_faultOf 33 = .ok (.iinc 1 1, 3) := by decide +kernel
theorem dX12_faultOf_36 : decode cX12_faultOf 36 = .ok (.goto (-24), 3) := by decide +kernel
theorem dX12_faultOf_39 : decode cX12_faultOf 39 = .ok (.iload_n 1, 1) := by decide +kernel
theorem dX12_faultOf_40 : decode cX12_faultOf 40 = .ok (.ireturn, 1) := by decide +kernel
set_option maxRecDepth 20000 in
theorem ggX12_fault_X12_faultOf : GoodIn wsX12_fault wsX12_faultOf := goodIn_r _ [5, 6, 7, 8, 9, 10, 11, 12, 4, 13, 14, 15, 16, 17, 18, 19, 20, 21, 22, 23, 24, 25, 26, 27, 28, 29, 30, 31, 32, 33, 34, 35, 36, 37, 38, 39, 40, 41, 42, 43, 44, 45, 46, 47, 48, 49, 50, 51, 52, 53, 54, 55, 56] (by decide +kernel) (by decide +kernel)
set_option maxRecDepth 20000 in
theorem gX12_fault_X12_faultOf : GoodIn wsX12_fault (wsV RX12 83 RX12 yX12_faultOf wsX12_faultOf) := goodIn_app (goodIn_of _ (by decide +kernel)) ggX12_fault_X12_faultOf
theorem dX12_fault_0 : decode cX12_fault 0 = .ok (.aload_n 0, 1) := by decide +kernel
theorem dX12_fault_1 : decode cX12_fault 1 = .ok (.invokevirtual 83, 3) := by decide +kernel
theorem dX12_fault_4 : decode cX12_fault 4 = .ok (.ireturn, 1) := by decide +kernel
set_option maxRecDepth 20000 in
theorem ggX12_ring_X12_faultOf : GoodIn wsX12_ring wsX12_faultOf := goodIn_r _ [17, 3, 2, 1, 18, 19, 20, 21, 16, 22, 6, 8, 23, 24, 25, 26, 27, 28, 29, 30, 31, 32, 33, 34, 35, 36, 37, 38, 39, 40, 41, 42, 43, 44, 45, 46, 47, 48, 49, 50, 51, 52, 53, 54, 55, 56, 57, 58, 59, 60, 61, 62, 63] (by decide +kernel) (by decide +kernel)
set_option maxRecDepth 20000 in
theorem gX12_ring_X12_faultOf : GoodIn wsX12_ring (wsV RX12 83 RX12 yX12_faultOf wsX12_faultOf) := goodIn_app (goodIn_of _ (by decide +kernel)) ggX12_ring_X12_faultOf
theorem dX12_ring_0 : decode cX12_ring 0 = .ok (.aload_n 0, 1) := by decide +kernel
theorem dX12_ring_1 : decode cX12_ring 1 = .ok (.invokevirtual 83, 3) := by decide +kernel
theorem dX12_ring_4 : decode cX12_ring 4 = .ok (.aload_n 0, 1) := by decide +kernel
theorem dX12_ring_5 : decode cX12_ring 5 = .ok (.getfield 59, 3) := by decide +kernel
theorem dX12_ring_8 : decode cX12_ring 8 = .ok (.if_icmp .lt 11, 3) := by decide +kernel
theorem dX12_ring_11 : decode cX12_ring 11 = .ok (.aload_n 0, 1) := by decide +kernel
theorem dX12_ring_12 : decode cX12_ring 12 = .ok (.getfield 62, 3) := by decide +kernel
theorem dX12_ring_15 : decode cX12_ring 15 = .ok (.iconst 3, 1) := by decide +kernel
theorem dX12_ring_16 : decode cX12_ring 16 = .ok (.if_icmp .eq 6, 3) := by decide +kernel
theorem dX12_ring_19 : decode cX12_ring 19 = .ok (.bipush (-103), 2) := by decide +kernel
theorem dX12_ring_21 : decode cX12_ring 21 = .ok (.ireturn, 1) := by decide +kernel
theorem dX12_ring_22 : decode cX12_ring 22 = .ok (.aload_n 0, 1) := by decide +kernel
theorem dX12_ring_23 : decode cX12_ring 23 = .ok (.aload_n 0, 1) := by decide +kernel
theorem dX12_ring_24 : decode cX12_ring 24 = .ok (.getfield 65, 3) := by decide +kernel
theorem dX12_ring_27 : decode cX12_ring 27 = .ok (.putfield 87, 3) := by decide +kernel
theorem dX12_ring_30 : decode cX12_ring 30 = .ok (.iconst 0, 1) := by decide +kernel
theorem dX12_ring_31 : decode cX12_ring 31 = .ok (.istore_n 1, 1) := by decide +kernel
theorem dX12_ring_32 : decode cX12_ring 32 = .ok (.iload_n 1, 1) := by decide +kernel
theorem dX12_ring_33 : decode cX12_ring 33 = .ok (.aload_n 0, 1) := by decide +kernel
theorem dX12_ring_34 : decode cX12_ring 34 = .ok (.getfield 87, 3) := by decide +kernel
theorem dX12_ring_37 : decode cX12_ring 37 = .ok (.if_icmp .ge 56, 3) := by decide +kernel
theorem dX12_ring_40 : decode cX12_ring 40 = .ok (.aload_n 0, 1) := by decide +kernel
theorem dX12_ring_41 : decode cX12_ring 41 = .ok (.getfield 16, 3) := by decide +kernel
theorem dX12_ring_44 : decode cX12_ring 44 = .ok (.iconst 4, 1) := by decide +kernel
theorem dX12_ring_45 : decode cX12_ring 45 = .ok (.iload_n 1, 1) := by decide +kernel
theorem dX12_ring_46 : decode cX12_ring 46 = .ok (.imul, 1) := by decide +kernel
theorem dX12_ring_47 : decode cX12_ring 47 = .ok (.aload_n 0, 1) := by decide +kernel
theorem dX12_ring_48 : decode cX12_ring 48 = .ok (.getfield 13, 3) := by decide +kernel
theorem dX12_ring_51 : decode cX12_ring 51 = .ok (.iload_n 1, 1) := by decide +kernel
theorem dX12_ring_52 : decode cX12_ring 52 = .ok (.iaload, 1) := by decide +kernel
theorem dX12_ring_53 : decode cX12_ring 53 = .ok (.iastore, 1) := by decide +kernel
theorem dX12_ring_54 : decode cX12_ring 54 = .ok (.aload_n 0, 1) := by decide +kernel
theorem dX12_ring_55 : decode cX12_ring 55 = .ok (.getfield 16, 3) := by decide +kernel
theorem dX12_ring_58 : decode cX12_ring 58 = .ok (.iconst 4, 1) := by decide +kernel
theorem dX12_ring_59 : decode cX12_ring 59 = .ok (.iload_n 1, 1) := by decide +kernel
theorem dX12_ring_60 : decode cX12_ring 60 = .ok (.imul, 1) := by decide +kernel
theorem dX12_ring_61 : decode cX12_ring 61 = .ok (.iconst 1, 1) := by decide +kernel
theorem dX12_ring_62 : decode cX12_ring 62 = .ok (.iadd, 1) := by decide +kernel
theorem dX12_ring_63 : decode cX12_ring 63 = .ok (.iconst (-1), 1) := by decide +kernel
theorem dX12_ring_64 : decode cX12_ring 64 = .ok (.iastore, 1) := by decide +kernel
theorem dX12_ring_65 : decode cX12_ring 65 = .ok (.aload_n 0, 1) := by decide +kernel
theorem dX12_ring_66 : decode cX12_ring 66 = .ok (.getfield 16, 3) := by decide +kernel
theorem dX12_ring_69 : decode cX12_ring 69 = .ok (.iconst 4, 1) := by decide +kernel
theorem dX12_ring_70 : decode cX12_ring 70 = .ok (.iload_n 1, 1) := by decide +kernel
theorem dX12_ring_71 : decode cX12_ring 71 = .ok (.imul, 1) := by decide +kernel
theorem dX12_ring_72 : decode cX12_ring 72 = .ok (.iconst 2, 1) := by decide +kernel
theorem dX12_ring_73 : decode cX12_ring 73 = .ok (.iadd, 1) := by decide +kernel
theorem dX12_ring_74 : decode cX12_ring 74 = .ok (.iconst 0, 1) := by decide +kernel
theorem dX12_ring_75 : decode cX12_ring 75 = .ok (.iastore, 1) := by decide +kernel
theorem dX12_ring_76 : decode cX12_ring 76 = .ok (.aload_n 0, 1) := by decide +kernel
theorem dX12_ring_77 : decode cX12_ring 77 = .ok (.getfield 16, 3) := by decide +kernel
theorem dX12_ring_80 : decode cX12_ring 80 = .ok (.iconst 4, 1) := by decide +kernel
theorem dX12_ring_81 : decode cX12_ring 81 = .ok (.iload_n 1, 1) := by decide +kernel
theorem dX12_ring_82 : decode cX12_ring 82 = .ok (.imul, 1) := by decide +kernel
theorem dX12_ring_83 : decode cX12_ring 83 = .ok (.iconst 3, 1) := by decide +kernel
theorem dX12_ring_84 : decode cX12_ring 84 = .ok (.iadd, 1) := by decide +kernel
theorem dX12_ring_85 : decode cX12_ring 85 = .ok (.iconst 0, 1) := by decide +kernel
theorem dX12_ring_86 : decode cX12_ring 86 = .ok (.iastore, 1) := by decide +kernel
theorem dX12_ring_87 : decode cX12_ring 87 = .ok (.iinc 1 1, 3) := by decide +kernel
theorem dX12_ring_90 : decode cX12_ring 90 = .ok (.goto (-58), 3) := by decide +kernel
theorem dX12_ring_93 : decode cX12_ring 93 = .ok (.aload_n 0, 1) := by decide +kernel
theorem dX12_ring_94 : decode cX12_ring 94 = .ok (.iconst 0, 1) := by decide +kernel
theorem dX12_ring_95 : decode cX12_ring 95 = .ok (.putfield 90, 3) := by decide +kernel
theorem dX12_ring_98 : decode cX12_ring 98 = .ok (.aload_n 0, 1) := by decide +kernel
theorem dX12_ring_99 : decode cX12_ring 99 = .ok (.aload_n 0, 1) := by decide +kernel
theorem dX12_ring_100 : decode cX12_ring 100 = .ok (.getfield 72, 3) := by decide +kernel
theorem dX12_ring_103 : decode cX12_ring 103 = .ok (.putfield 93, 3) := by decide +kernel
theorem dX12_ring_106 : decode cX12_ring 106 = .ok (.aload_n 0, 1) := by decide +kernel
theorem dX12_ring_107 : decode cX12_ring 107 = .ok (.iconst 0, 1) := by decide +kernel
theorem dX12_ring_108 : decode cX12_ring 108 = .ok (.putfield 96, 3) := by decide +kernel
theorem dX12_ring_111 : decode cX12_ring 111 = .ok (.aload_n 0, 1) := by decide +kernel
theorem dX12_ring_112 : decode cX12_ring 112 = .ok (.iconst 0, 1) := by decide +kernel
theorem dX12_ring_113 : decode cX12_ring 113 = .ok (.putfield 99, 3) := by decide +kernel
theorem dX12_ring_116 : decode cX12_ring 116 = .ok (.aload_n 0, 1) := by decide +kernel
theorem dX12_ring_117 : decode cX12_ring 117 = .ok (.dup, 1) := by decide +kernel
theorem dX12_ring_118 : decode cX12_ring 118 = .ok (.getfield 102, 3) := by decide +kernel
theorem dX12_ring_121 : decode cX12_ring 121 = .ok (.iconst 1, 1) := by decide +kernel
theorem dX12_ring_122 : decode cX12_ring 122 = .ok (.iadd, 1) := by decide +kernel
theorem dX12_ring_123 : decode cX12_ring 123 = .ok (.putfield 102, 3) := by decide +kernel
theorem dX12_ring_126 : decode cX12_ring 126 = .ok (.aload_n 0, 1) := by decide +kernel
theorem dX12_ring_127 : decode cX12_ring 127 = .ok (.iconst 0, 1) := by decide +kernel
theorem dX12_ring_128 : decode cX12_ring 128 = .ok (.putfield 59, 3) := by decide +kernel
theorem dX12_ring_131 : decode cX12_ring 131 = .ok (.aload_n 0, 1) := by decide +kernel
theorem dX12_ring_132 : decode cX12_ring 132 = .ok (.getfield 87, 3) := by decide +kernel
theorem dX12_ring_135 : decode cX12_ring 135 = .ok (.ireturn, 1) := by decide +kernel
theorem dX12_lacks_0 : decode cX12_lacks 0 = .ok (.aload_n 0, 1) := by decide +kernel
theorem dX12_lacks_1 : decode cX12_lacks 1 = .ok (.getfield 87, 3) := by decide +kernel
theorem dX12_lacks_4 : decode cX12_lacks 4 = .ok (.ifCond .ne 7, 3) := by decide +kernel
theorem dX12_lacks_7 : decode cX12_lacks 7 = .ok (.iconst 1, 1) := by decide +kernel
theorem dX12_lacks_8 : decode cX12_lacks 8 = .ok (.goto 4, 3) := by decide +kernel
theorem dX12_lacks_11 : decode cX12_lacks 11 = .ok (.iconst 0, 1) := by decide +kernel
theorem dX12_lacks_12 : decode cX12_lacks 12 = .ok (.ireturn, 1) := by decide +kernel
set_option maxRecDepth 20000 in
theorem ggX12_isPerson_X12_in : GoodIn wsX12_isPerson wsX12_in := goodIn_r _ [5] (by decide +kernel) (by decide +kernel)
set_option maxRecDepth 20000 in
theorem gX12_isPerson_X12_in : GoodIn wsX12_isPerson (va_wsS RX12 55 yX12_in wsX12_in) := goodIn_app (goodIn_of _ (by decide +kernel)) ggX12_isPerson_X12_in
theorem dX12_isPerson_0 : decode cX12_isPerson 0 = .ok (.iload_n 1, 1) := by decide +kernel
theorem dX12_isPerson_1 : decode cX12_isPerson 1 = .ok (.i2l, 1) := by decide +kernel
theorem dX12_isPerson_2 : decode cX12_isPerson 2 = .ok (.lconst 0, 1) := by decide +kernel
theorem dX12_isPerson_3 : decode cX12_isPerson 3 = .ok (.aload_n 0, 1) := by decide +kernel
theorem dX12_isPerson_4 : decode cX12_isPerson 4 = .ok (.getfield 87, 3) := by decide +kernel
theorem dX12_isPerson_7 : decode cX12_isPerson 7 = .ok (.iconst 1, 1) := by decide +kernel
theorem dX12_isPerson_8 : decode cX12_isPerson 8 = .ok (.isub, 1) := by decide +kernel
theorem dX12_isPerson_9 : decode cX12_isPerson 9 = .ok (.i2l, 1) := by decide +kernel
theorem dX12_isPerson_10 : decode cX12_isPerson 10 = .ok (.invokestatic 55, 3) := by decide +kernel
theorem dX12_isPerson_13 : decode cX12_isPerson 13 = .ok (.ireturn, 1) := by decide +kernel
theorem dX12_doneBy_0 : decode cX12_doneBy 0 = .ok (.iload_n 2, 1) := by decide +kernel
theorem dX12_doneBy_1 : decode cX12_doneBy 1 = .ok (.bipush 8, 2) := by decide +kernel
theorem dX12_doneBy_3 : decode cX12_doneBy 3 = .ok (.idiv, 1) := by decide +kernel
theorem dX12_doneBy_4 : decode cX12_doneBy 4 = .ok (.istore_n 3, 1) := by decide +kernel
theorem dX12_doneBy_5 : decode cX12_doneBy 5 = .ok (.iload_n 2, 1) := by decide +kernel
theorem dX12_doneBy_6 : decode cX12_doneBy 6 = .ok (.bipush 8, 2) := by decide +kernel
theorem dX12_doneBy_8 : decode cX12_doneBy 8 = .ok (.irem, 1) := by decide +kernel
theorem dX12_doneBy_9 : decode cX12_doneBy 9 = .ok (.istore 4, 2) := by decide +kernel
theorem dX12_doneBy_11 : decode cX12_doneBy 11 = .ok (.aload_n 0, 1) := by decide +kernel
theorem dX12_doneBy_12 : decode cX12_doneBy 12 = .ok (.getfield 16, 3) := by decide +kernel
theorem dX12_doneBy_15 : decode cX12_doneBy 15 = .ok (.iconst 4, 1) := by decide +kernel
theorem dX12_doneBy_16 : decode cX12_doneBy 16 = .ok (.iload_n 1, 1) := by decide +kernel
theorem dX12_doneBy_17 : decode cX12_doneBy 17 = .ok (.imul, 1) := by decide +kernel
theorem dX12_doneBy_18 : decode cX12_doneBy 18 = .ok (.iaload, 1) := by decide +kernel
theorem dX12_doneBy_19 : decode cX12_doneBy 19 = .ok (.istore 5, 2) := by decide +kernel
theorem dX12_doneBy_21 : decode cX12_doneBy 21 = .ok (.iload 5, 2) := by decide +kernel
theorem dX12_doneBy_23 : decode cX12_doneBy 23 = .ok (.iconst 1, 1) := by decide +kernel
theorem dX12_doneBy_24 : decode cX12_doneBy 24 = .ok (.if_icmp .eq 9, 3) := by decide +kernel
theorem dX12_doneBy_27 : decode cX12_doneBy 27 = .ok (.iload 5, 2) := by decide +kernel
theorem dX12_doneBy_29 : decode cX12_doneBy 29 = .ok (.iconst 4, 1) := by decide +kernel
theorem dX12_doneBy_30 : decode cX12_doneBy 30 = .ok (.if_icmp .ne 11, 3) := by decide +kernel
theorem dX12_doneBy_33 : decode cX12_doneBy 33 = .ok (.iload_n 3, 1) := by decide +kernel
theorem dX12_doneBy_34 : decode cX12_doneBy 34 = .ok (.iconst 1, 1) := by decide +kernel
theorem dX12_doneBy_35 : decode cX12_doneBy 35 = .ok (.iadd, 1) := by decide +kernel
theorem dX12_doneBy_36 : decode cX12_doneBy 36 = .ok (.iconst 4, 1) := by decide +kernel
theorem dX12_doneBy_37 : decode cX12_doneBy 37 = .ok (.irem, 1) := by decide +kernel
theorem dX12_doneBy_38 : decode cX12_doneBy 38 = .ok (.goto 4, 3) := by decide +kernel
theorem dX12_doneBy_41 : decode cX12_doneBy 41 = .ok (.iload_n 3, 1) := by decide +kernel
theorem dX12_doneBy_42 : decode cX12_doneBy 42 = .ok (.istore_n 3, 1) := by decide +kernel
theorem dX12_doneBy_43 : decode cX12_doneBy 43 = .ok (.iload 5, 2) := by decide +kernel
theorem dX12_doneBy_45 : decode cX12_doneBy 45 = .ok (.iconst 2, 1) := by decide +kernel
theorem dX12_doneBy_46 : decode cX12_doneBy 46 = .ok (.if_icmp .ne 17, 3) := by decide +kernel
theorem dX12_doneBy_49 : decode cX12_doneBy 49 = .ok (.iconst 3, 1) := by decide +kernel
theorem dX12_doneBy_50 : decode cX12_doneBy 50 = .ok (.iload 4, 2) := by decide +kernel
theorem dX12_doneBy_52 : decode cX12_doneBy 52 = .ok (.imul, 1) := by decide +kernel
theorem dX12_doneBy_53 : decode cX12_doneBy 53 = .ok (.iload_n 1, 1) := by decide +kernel
theorem dX12_doneBy_54 : decode cX12_doneBy 54 = .ok (.iadd, 1) := by decide +kernel
theorem dX12_doneBy_55 : decode cX12_doneBy 55 = .ok (.iconst 1, 1) := by decide +kernel
theorem dX12_doneBy_56 : decode cX12_doneBy 56 = .ok (.iadd, 1) := by decide +kernel
theorem dX12_doneBy_57 : decode cX12_doneBy 57 = .ok (.bipush 8, 2) := by decide +kernel
theorem dX12_doneBy_59 : decode cX12_doneBy 59 = .ok (.irem, 1) := by decide +kernel
theorem dX12_doneBy_60 : decode cX12_doneBy 60 = .ok (.goto 29, 3) := by decide +kernel
theorem dX12_doneBy_63 : decode cX12_doneBy 63 = .ok (.iload 5, 2) := by decide +kernel
theorem dX12_doneBy_65 : decode cX12_doneBy 65 = .ok (.iconst 3, 1) := by decide +kernel
theorem dX12_doneBy_66 : decode cX12_doneBy 66 = .ok (.if_icmp .ne 7, 3) := by decide +kernel
theorem dX12_doneBy_69 : decode cX12_doneBy 69 = .ok (.iconst 0, 1) := by decide +kernel
theorem dX12_doneBy_70 : decode cX12_doneBy 70 = .ok (.goto 19, 3) := by decide +kernel
theorem dX12_doneBy_73 : decode cX12_doneBy 73 = .ok (.iload 5, 2) := by decide +kernel
theorem dX12_doneBy_75 : decode cX12_doneBy 75 = .ok (.iconst 4, 1) := by decide +kernel
theorem dX12_doneBy_76 : decode cX12_doneBy 76 = .ok (.if_icmp .ne 11, 3) := by decide +kernel
theorem dX12_doneBy_79 : decode cX12_doneBy 79 = .ok (.bipush 7, 2) := by decide +kernel
theorem dX12_doneBy_81 : decode cX12_doneBy 81 = .ok (.iload 4, 2) := by decide +kernel
theorem dX12_doneBy_83 : decode cX12_doneBy 83 = .ok (.isub, 1) := by decide +kernel
theorem dX12_doneBy_84 : decode cX12_doneBy 84 = .ok (.goto 5, 3) := by decide +kernel
theorem dX12_doneBy_87 : decode cX12_doneBy 87 = .ok (.iload 4, 2) := by decide +kernel
theorem dX12_doneBy_89 : decode cX12_doneBy 89 = .ok (.istore 4, 2) := by decide +kernel
theorem dX12_doneBy_91 : decode cX12_doneBy 91 = .ok (.bipush 8, 2) := by decide +kernel
theorem dX12_doneBy_93 : decode cX12_doneBy 93 = .ok (.iload_n 3, 1) := by decide +kernel
theorem dX12_doneBy_94 : decode cX12_doneBy 94 = .ok (.imul, 1) := by decide +kernel
theorem dX12_doneBy_95 : decode cX12_doneBy 95 = .ok (.iload 4, 2) := by decide +kernel
theorem dX12_doneBy_97 : decode cX12_doneBy 97 = .ok (.iadd, 1) := by decide +kernel
theorem dX12_doneBy_98 : decode cX12_doneBy 98 = .ok (.ireturn, 1) := by decide +kernel
theorem dX12_isWrong_0 : decode cX12_isWrong 0 = .ok (.iload_n 1, 1) := by decide +kernel
theorem dX12_isWrong_1 : decode cX12_isWrong 1 = .ok (.aload_n 0, 1) := by decide +kernel
theorem dX12_isWrong_2 : decode cX12_isWrong 2 = .ok (.getfield 90, 3) := by decide +kernel
theorem dX12_isWrong_5 : decode cX12_isWrong 5 = .ok (.if_icmp .eq 38, 3) := by decide +kernel
theorem dX12_isWrong_8 : decode cX12_isWrong 8 = .ok (.aload_n 0, 1) := by decide +kernel
theorem dX12_isWrong_9 : decode cX12_isWrong 9 = .ok (.getfield 16, 3) := by decide +kernel
theorem dX12_isWrong_12 : decode cX12_isWrong 12 = .ok (.iconst 4, 1) := by decide +kernel
theorem dX12_isWrong_13 : decode cX12_isWrong 13 = .ok (.iload_n 1, 1) := by decide +kernel
theorem dX12_isWrong_14 : decode cX12_isWrong 14 = .ok (.imul, 1) := by decide +kernel
theorem dX12_isWrong_15 : decode cX12_isWrong 15 = .ok (.iconst 1, 1) := by decide +kernel
theorem dX12_isWrong_16 : decode cX12_isWrong 16 = .ok (.iadd, 1) := by decide +kernel
theorem dX12_isWrong_17 : decode cX12_isWrong 17 = .ok (.iaload, 1) := by decide +kernel
theorem dX12_isWrong_18 : decode cX12_isWrong 18 = .ok (.iconst (-1), 1) := by decide +kernel
theorem dX12_isWrong_19 : decode cX12_isWrong 19 = .ok (.if_icmp .eq 24, 3) := by decide +kernel
theorem dX12_isWrong_22 : decode cX12_isWrong 22 = .ok (.aload_n 0, 1) := by decide +kernel
theorem dX12_isWrong_23 : decode cX12_isWrong 23 = .ok (.getfield 16, 3) := by decide +kernel
theorem dX12_isWrong_26 : decode cX12_isWrong 26 = .ok (.iconst 4, 1) := by decide +kernel
theorem dX12_isWrong_27 : decode cX12_isWrong 27 = .ok (.iload_n 1, 1) := by decide +kernel
theorem dX12_isWrong_28 : decode cX12_isWrong 28 = .ok (.imul, 1) := by decide +kernel
theorem dX12_isWrong_29 : decode cX12_isWrong 29 = .ok (.iconst 1, 1) := by decide +kernel
theorem dX12_isWrong_30 : decode cX12_isWrong 30 = .ok (.iadd, 1) := by decide +kernel
theorem dX12_isWrong_31 : decode cX12_isWrong 31 = .ok (.iaload, 1) := by decide +kernel
theorem dX12_isWrong_32 : decode cX12_isWrong 32 = .ok (.aload_n 0, 1) := by decide +kernel
theorem dX12_isWrong_33 : decode cX12_isWrong 33 = .ok (.getfield 93, 3) := by decide +kernel
theorem dX12_isWrong_36 : decode cX12_isWrong 36 = .ok (.if_icmp .eq 7, 3) := by decide +kernel
theorem dX12_isWrong_39 : decode cX12_isWrong 39 = .ok (.iconst 1, 1) := by decide +kernel
theorem dX12_isWrong_40 : decode cX12_isWrong 40 = .ok (.goto 4, 3) := by decide +kernel
theorem dX12_isWrong_43 : decode cX12_isWrong 43 = .ok (.iconst 0, 1) := by decide +kernel
theorem dX12_isWrong_44 : decode cX12_isWrong 44 = .ok (.ireturn, 1) := by decide +kernel
set_option maxRecDepth 20000 in
theorem ggX12_wrongMany_X12_isWrong : GoodIn wsX12_wrongMany wsX12_isWrong := goodIn_r _ [6, 7, 8, 9, 10, 11, 12, 13, 14, 15, 16, 17, 18, 19, 20, 21, 22, 23, 24, 25, 26, 27, 28, 29, 30, 31, 32, 33, 34, 35, 36, 37, 38, 39, 40, 41, 42] (by decide +kernel) (by decide +kernel)
set_option maxRecDepth 20000 in
theorem gX12_wrongMany_X12_isWrong : GoodIn wsX12_wrongMany (wsV RX12 105 RX12 yX12_isWrong wsX12_isWrong) := goodIn_app (goodIn_of _ (by decide +kernel)) ggX12_wrongMany_X12_isWrong
theorem dX12_wrongMany_0 : decode cX12_wrongMany 0 = .ok (.iconst 0, 1) := by decide +kernel
theorem dX12_wrongMany_1 : decode cX12_wrongMany 1 = .ok (.istore_n 1, 1) := by decide +kernel
theorem dX12_wrongMany_2 : decode cX12_wrongMany 2 = .ok (.iconst 0, 1) := by decide +kernel
theorem dX12_wrongMany_3 : decode cX12_wrongMany 3 = .ok (.istore_n 2, 1) := by decide +kernel
theorem dX12_wrongMany_4 : decode cX12_wrongMany 4 = .ok (.iload_n 2, 1) := by decide +kernel
theorem dX12_wrongMany_5 : decode cX12_wrongMany 5 = .ok (.aload_n 0, 1) := by decide +kernel
theorem dX12_wrongMany_6 : decode cX12_wrongMany 6 = .ok (.getfield 87, 3) := by decide +kernel
theorem dX12_wrongMany_9 : decode cX12_wrongMany 9 = .ok (.if_icmp .ge 25, 3) := by decide +kernel
theorem dX12_wrongMany_12 : decode cX12_wrongMany 12 = .ok (.iload_n 1, 1) := by decide +kernel
theorem dX12_wrongMany_13 : decode cX12_wrongMany 13 = .ok (.aload_n 0, 1) := by decide +kernel
theorem dX12_wrongMany_14 : decode cX12_wrongMany 14 = .ok (.iload_n 2, 1) := by decide +kernel
theorem dX12_wrongMany_15 : decode cX12_wrongMany 15 = .ok (.invokevirtual 105, 3) := by decide +kernel
theorem dX12_wrongMany_18 : decode cX12_wrongMany 18 = .ok (.ifCond .eq 7, 3) := by decide +kernel
theorem dX12_wrongMany_21 : decode cX12_wrongMany 21 = .ok (.iconst 1, 1) := by decide +kernel
theorem dX12_wrongMany_22 : decode cX12_wrongMany 22 = .ok (.goto 4, 3) := by decide +kernel
theorem dX12_wrongMany_25 : decode cX12_wrongMany 25 = .ok (.iconst 0, 1) := by decide +kernel
theorem dX12_wrongMany_26 : decode cX12_wrongMany 26 = .ok (.iadd, 1) := by decide +kernel
theorem dX12_wrongMany_27 : decode cX12_wrongMany 27 = .ok (.istore_n 1, 1) := by decide +kernel
theorem dX12_wrongMany_28 : decode cX12_wrongMany 28 = .ok (.iinc 2 1, 3) := by decide +kernel
theorem dX12_wrongMany_31 : decode cX12_wrongMany 31 = .ok (.goto (-27), 3) := by decide +kernel
theorem dX12_wrongMany_34 : decode cX12_wrongMany 34 = .ok (.iload_n 1, 1) := by decide +kernel
theorem dX12_wrongMany_35 : decode cX12_wrongMany 35 = .ok (.ireturn, 1) := by decide +kernel
set_option maxRecDepth 20000 in
theorem ggX12_goesTo_X12_doneBy : GoodIn wsX12_goesTo wsX12_doneBy := goodIn_r _ [9, 1, 10, 11, 12, 13, 14, 15, 16, 17, 18, 19, 20, 21, 22, 23, 24, 25, 26, 27, 28, 29, 30, 31, 32, 33, 34, 35, 36, 37, 38, 39, 40, 41, 42] (by decide +kernel) (by decide +kernel)
set_option maxRecDepth 20000 in
theorem gX12_goesTo_X12_doneBy : GoodIn wsX12_goesTo (wsV RX12 108 RX12 yX12_doneBy wsX12_doneBy) := goodIn_app (goodIn_of _ (by decide +kernel)) ggX12_goesTo_X12_doneBy
theorem dX12_goesTo_0 : decode cX12_goesTo 0 = .ok (.aload_n 0, 1) := by decide +kernel
theorem dX12_goesTo_1 : decode cX12_goesTo 1 = .ok (.getfield 16, 3) := by decide +kernel
theorem dX12_goesTo_4 : decode cX12_goesTo 4 = .ok (.iconst 4, 1) := by decide +kernel
theorem dX12_goesTo_5 : decode cX12_goesTo 5 = .ok (.aload_n 0, 1) := by decide +kernel
theorem dX12_goesTo_6 : decode cX12_goesTo 6 = .ok (.getfield 90, 3) := by decide +kernel
theorem dX12_goesTo_9 : decode cX12_goesTo 9 = .ok (.imul, 1) := by decide +kernel
theorem dX12_goesTo_10 : decode cX12_goesTo 10 = .ok (.iconst 1, 1) := by decide +kernel
theorem dX12_goesTo_11 : decode cX12_goesTo 11 = .ok (.iadd, 1) := by decide +kernel
theorem dX12_goesTo_12 : decode cX12_goesTo 12 = .ok (.aload_n 0, 1) := by decide +kernel
theorem dX12_goesTo_13 : decode cX12_goesTo 13 = .ok (.getfield 93, 3) := by decide +kernel
theorem dX12_goesTo_16 : decode cX12_goesTo 16 = .ok (.iastore, 1) := by decide +kernel
theorem dX12_goesTo_17 : decode cX12_goesTo 17 = .ok (.aload_n 0, 1) := by decide +kernel
theorem dX12_goesTo_18 : decode cX12_goesTo 18 = .ok (.aload_n 0, 1) := by decide +kernel
theorem dX12_goesTo_19 : decode cX12_goesTo 19 = .ok (.iload_n 1, 1) := by decide +kernel
theorem dX12_goesTo_20 : decode cX12_goesTo 20 = .ok (.aload_n 0, 1) := by decide +kernel
theorem dX12_goesTo_21 : decode cX12_goesTo 21 = .ok (.getfield 93, 3) := by decide +kernel
theorem dX12_goesTo_24 : decode cX12_goesTo 24 = .ok (.invokevirtual 108, 3) := by decide +kernel
theorem dX12_goesTo_27 : decode cX12_goesTo 27 = .ok (.putfield 93, 3) := by decide +kernel
theorem dX12_goesTo_30 : decode cX12_goesTo 30 = .ok (.aload_n 0, 1) := by decide +kernel
theorem dX12_goesTo_31 : decode cX12_goesTo 31 = .ok (.iload_n 1, 1) := by decide +kernel
theorem dX12_goesTo_32 : decode cX12_goesTo 32 = .ok (.putfield 90, 3) := by decide +kernel
theorem dX12_goesTo_35 : decode cX12_goesTo 35 = .ok (.aload_n 0, 1) := by decide +kernel
theorem dX12_goesTo_36 : decode cX12_goesTo 36 = .ok (.getfield 16, 3) := by decide +kernel
theorem dX12_goesTo_39 : decode cX12_goesTo 39 = .ok (.iconst 4, 1) := by decide +kernel
theorem dX12_goesTo_40 : decode cX12_goesTo 40 = .ok (.iload_n 1, 1) := by decide +kernel
theorem dX12_goesTo_41 : decode cX12_goesTo 41 = .ok (.imul, 1) := by decide +kernel
theorem dX12_goesTo_42 : decode cX12_goesTo 42 = .ok (.iconst 2, 1) := by decide +kernel
theorem dX12_goesTo_43 : decode cX12_goesTo 43 = .ok (.iadd, 1) := by decide +kernel
theorem dX12_goesTo_44 : decode cX12_goesTo 44 = .ok (.iconst 0, 1) := by decide +kernel
theorem dX12_goesTo_45 : decode cX12_goesTo 45 = .ok (.iastore, 1) := by decide +kernel
theorem dX12_goesTo_46 : decode cX12_goesTo 46 = .ok (.aload_n 0, 1) := by decide +kernel
theorem dX12_goesTo_47 : decode cX12_goesTo 47 = .ok (.dup, 1) := by decide +kernel
theorem dX12_goesTo_48 : decode cX12_goesTo 48 = .ok (.getfield 96, 3) := by decide +kernel
theorem dX12_goesTo_51 : decode cX12_goesTo 51 = .ok (.iconst 1, 1) := by decide +kernel
theorem dX12_goesTo_52 : decode cX12_goesTo 52 = .ok (.iadd, 1) := by decide +kernel
theorem dX12_goesTo_53 : decode cX12_goesTo 53 = .ok (.putfield 96, 3) := by decide +kernel
theorem dX12_goesTo_56 : decode cX12_goesTo 56 = .ok (.return_, 1) := by decide +kernel
set_option maxRecDepth 20000 in
theorem ggX12_claims_X12_isWrong : GoodIn wsX12_claims wsX12_isWrong := goodIn_r _ [6, 7, 1, 8, 9, 10, 11, 12, 13, 14, 15, 16, 17, 18, 19, 20, 21, 22, 23, 24, 25, 26, 27, 28, 29, 30, 31, 32, 33, 34, 35, 36, 37, 38, 39, 40, 41] (by decide +kernel) (by decide +kernel)
set_option maxRecDepth 20000 in
theorem gX12_claims_X12_isWrong : GoodIn wsX12_claims (wsV RX12 105 RX12 yX12_isWrong wsX12_isWrong) := goodIn_app (goodIn_of _ (by decide +kernel)) ggX12_claims_X12_isWrong
theorem dX12_claims_0 : decode cX12_claims 0 = .ok (.aload_n 0, 1) := by decide +kernel
theorem dX12_claims_1 : decode cX12_claims 1 = .ok (.iload_n 1, 1) := by decide +kernel
theorem dX12_claims_2 : decode cX12_claims 2 = .ok (.invokevirtual 105, 3) := by decide +kernel
theorem dX12_claims_5 : decode cX12_claims 5 = .ok (.ifCond .eq 20, 3) := by decide +kernel
theorem dX12_claims_8 : decode cX12_claims 8 = .ok (.aload_n 0, 1) := by decide +kernel
theorem dX12_claims_9 : decode cX12_claims 9 = .ok (.getfield 16, 3) := by decide +kernel
theorem dX12_claims_12 : decode cX12_claims 12 = .ok (.iconst 4, 1) := by decide +kernel
theorem dX12_claims_13 : decode cX12_claims 13 = .ok (.iload_n 1, 1) := by decide +kernel
theorem dX12_claims_14 : decode cX12_claims 14 = .ok (.imul, 1) := by decide +kernel
theorem dX12_claims_15 : decode cX12_claims 15 = .ok (.iconst 2, 1) := by decide +kernel
theorem dX12_claims_16 : decode cX12_claims 16 = .ok (.iadd, 1) := by decide +kernel
theorem dX12_claims_17 : decode cX12_claims 17 = .ok (.iaload, 1) := by decide +kernel
theorem dX12_claims_18 : decode cX12_claims 18 = .ok (.ifCond .ne 7, 3) := by decide +kernel
theorem dX12_claims_21 : decode cX12_claims 21 = .ok (.iconst 1, 1) := by decide +kernel
theorem dX12_claims_22 : decode cX12_claims 22 = .ok (.goto 4, 3) := by decide +kernel
theorem dX12_claims_25 : decode cX12_claims 25 = .ok (.iconst 0, 1) := by decide +kernel
theorem dX12_claims_26 : decode cX12_claims 26 = .ok (.istore_n 2, 1) := by decide +kernel
theorem dX12_claims_27 : decode cX12_claims 27 = .ok (.aload_n 0, 1) := by decide +kernel
theorem dX12_claims_28 : decode cX12_claims 28 = .ok (.getfield 16, 3) := by decide +kernel
theorem dX12_claims_31 : decode cX12_claims 31 = .ok (.iconst 4, 1) := by decide +kernel
theorem dX12_claims_32 : decode cX12_claims 32 = .ok (.iload_n 1, 1) := by decide +kernel
theorem dX12_claims_33 : decode cX12_claims 33 = .ok (.imul, 1) := by decide +kernel
theorem dX12_claims_34 : decode cX12_claims 34 = .ok (.iconst 2, 1) := by decide +kernel
theorem dX12_claims_35 : decode cX12_claims 35 = .ok (.iadd, 1) := by decide +kernel
theorem dX12_claims_36 : decode cX12_claims 36 = .ok (.iload_n 2, 1) := by decide +kernel
theorem dX12_claims_37 : decode cX12_claims 37 = .ok (.ifCond .eq 7, 3) := by decide +kernel
theorem dX12_claims_40 : decode cX12_claims 40 = .ok (.iconst 1, 1) := by decide +kernel
theorem dX12_claims_41 : decode cX12_claims 41 = .ok (.goto 13, 3) := by decide +kernel
theorem dX12_claims_44 : decode cX12_claims 44 = .ok (.aload_n 0, 1) := by decide +kernel
theorem dX12_claims_45 : decode cX12_claims 45 = .ok (.getfield 16, 3) := by decide +kernel
theorem dX12_claims_48 : decode cX12_claims 48 = .ok (.iconst 4, 1) := by decide +kernel
theorem dX12_claims_49 : decode cX12_claims 49 = .ok (.iload_n 1, 1) := by decide +kernel
theorem dX12_claims_50 : decode cX12_claims 50 = .ok (.imul, 1) := by decide +kernel
theorem dX12_claims_51 : decode cX12_claims 51 = .ok (.iconst 2, 1) := by decide +kernel
theorem dX12_claims_52 : decode cX12_claims 52 = .ok (.iadd, 1) := by decide +kernel
theorem dX12_claims_53 : decode cX12_claims 53 = .ok (.iaload, 1) := by decide +kernel
theorem dX12_claims_54 : decode cX12_claims 54 = .ok (.iastore, 1) := by decide +kernel
theorem dX12_claims_55 : decode cX12_claims 55 = .ok (.aload_n 0, 1) := by decide +kernel
theorem dX12_claims_56 : decode cX12_claims 56 = .ok (.getfield 16, 3) := by decide +kernel
theorem dX12_claims_59 : decode cX12_claims 59 = .ok (.iconst 4, 1) := by decide +kernel
theorem dX12_claims_60 : decode cX12_claims 60 = .ok (.iload_n 1, 1) := by decide +kernel
theorem dX12_claims_61 : decode cX12_claims 61 = .ok (.imul, 1) := by decide +kernel
theorem dX12_claims_62 : decode cX12_claims 62 = .ok (.iconst 3, 1) := by decide +kernel
theorem dX12_claims_63 : decode cX12_claims 63 = .ok (.iadd, 1) := by decide +kernel
theorem dX12_claims_64 : decode cX12_claims 64 = .ok (.dup2, 1) := by decide +kernel
theorem dX12_claims_65 : decode cX12_claims 65 = .ok (.iaload, 1) := by decide +kernel
theorem dX12_claims_66 : decode cX12_claims 66 = .ok (.iload_n 2, 1) := by decide +kernel
theorem dX12_claims_67 : decode cX12_claims 67 = .ok (.ifCond .eq 7, 3) := by decide +kernel
theorem dX12_claims_70 : decode cX12_claims 70 = .ok (.iconst 1, 1) := by decide +kernel
theorem dX12_claims_71 : decode cX12_claims 71 = .ok (.goto 4, 3) := by decide +kernel
theorem dX12_claims_74 : decode cX12_claims 74 = .ok (.iconst 0, 1) := by decide +kernel
theorem dX12_claims_75 : decode cX12_claims 75 = .ok (.iadd, 1) := by decide +kernel
theorem dX12_claims_76 : decode cX12_claims 76 = .ok (.iastore, 1) := by decide +kernel
theorem dX12_claims_77 : decode cX12_claims 77 = .ok (.iload_n 2, 1) := by decide +kernel
theorem dX12_claims_78 : decode cX12_claims 78 = .ok (.ifCond .eq 7, 3) := by decide +kernel
theorem dX12_claims_81 : decode cX12_claims 81 = .ok (.iconst 1, 1) := by decide +kernel
theorem dX12_claims_82 : decode cX12_claims 82 = .ok (.goto 4, 3) := by decide +kernel
theorem dX12_claims_85 : decode cX12_claims 85 = .ok (.iconst 0, 1) := by decide +kernel
theorem dX12_claims_86 : decode cX12_claims 86 = .ok (.ireturn, 1) := by decide +kernel
set_option maxRecDepth 20000 in
theorem ggX12_layAside_X12_copy : GoodIn wsX12_layAside wsX12_copy := goodIn_r _ [12] (by decide +kernel) (by decide +kernel)
set_option maxRecDepth 20000 in
theorem gX12_layAside_X12_copy : GoodIn wsX12_layAside (va_wsS RX12 112 yX12_copy wsX12_copy) := goodIn_app (goodIn_of _ (by decide +kernel)) ggX12_layAside_X12_copy
theorem dX12_layAside_0 : decode cX12_layAside 0 = .ok (.aload_n 0, 1) := by decide +kernel
theorem dX12_layAside_1 : decode cX12_layAside 1 = .ok (.getfield 16, 3) := by decide +kernel
theorem dX12_layAside_4 : decode cX12_layAside 4 = .ok (.aload_n 0, 1) := by decide +kernel
theorem dX12_layAside_5 : decode cX12_layAside 5 = .ok (.getfield 19, 3) := by decide +kernel
theorem dX12_layAside_8 : decode cX12_layAside 8 = .ok (.invokestatic 112, 3) := by decide +kernel
theorem dX12_layAside_11 : decode cX12_layAside 11 = .ok (.aload_n 0, 1) := by decide +kernel
theorem dX12_layAside_12 : decode cX12_layAside 12 = .ok (.aload_n 0, 1) := by decide +kernel
theorem dX12_layAside_13 : decode cX12_layAside 13 = .ok (.getfield 90, 3) := by decide +kernel
theorem dX12_layAside_16 : decode cX12_layAside 16 = .ok (.putfield 116, 3) := by decide +kernel
theorem dX12_layAside_19 : decode cX12_layAside 19 = .ok (.aload_n 0, 1) := by decide +kernel
theorem dX12_layAside_20 : decode cX12_layAside 20 = .ok (.aload_n 0, 1) := by decide +kernel
theorem dX12_layAside_21 : decode cX12_layAside 21 = .ok (.getfield 93, 3) := by decide +kernel
theorem dX12_layAside_24 : decode cX12_layAside 24 = .ok (.putfield 119, 3) := by decide +kernel
theorem dX12_layAside_27 : decode cX12_layAside 27 = .ok (.aload_n 0, 1) := by decide +kernel
theorem dX12_layAside_28 : decode cX12_layAside 28 = .ok (.aload_n 0, 1) := by decide +kernel
theorem dX12_layAside_29 : decode cX12_layAside 29 = .ok (.getfield 96, 3) := by decide +kernel
theorem dX12_layAside_32 : decode cX12_layAside 32 = .ok (.putfield 122, 3) := by decide +kernel
theorem dX12_layAside_35 : decode cX12_layAside 35 = .ok (.return_, 1) := by decide +kernel
set_option maxRecDepth 20000 in
theorem ggX12_layBack_X12_copy : GoodIn wsX12_layBack wsX12_copy := goodIn_r _ [12] (by decide +kernel) (by decide +kernel)
set_option maxRecDepth 20000 in
theorem gX12_layBack_X12_copy : GoodIn wsX12_layBack (va_wsS RX12 112 yX12_copy wsX12_copy) := goodIn_app (goodIn_of _ (by decide +kernel)) ggX12_layBack_X12_copy
theorem dX12_layBack_0 : decode cX12_layBack 0 = .ok (.aload_n 0, 1) := by decide +kernel
theorem dX12_layBack_1 : decode cX12_layBack 1 = .ok (.getfield 19, 3) := by decide +kernel
theorem dX12_layBack_4 : decode cX12_layBack 4 = .ok (.aload_n 0, 1) := by decide +kernel
theorem dX12_layBack_5 : decode cX12_layBack 5 = .ok (.getfield 16, 3) := by decide +kernel
theorem dX12_layBack_8 : decode cX12_layBack 8 = .ok (.invokestatic 112, 3) := by decide +kernel
theorem dX12_layBack_11 : decode cX12_layBack 11 = .ok (.aload_n 0, 1) := by decide +kernel
theorem dX12_layBack_12 : decode cX12_layBack 12 = .ok (.aload_n 0, 1) := by decide +kernel
theorem dX12_layBack_13 : decode cX12_layBack 13 = .ok (.getfield 116, 3) := by decide +kernel
theorem dX12_layBack_16 : decode cX12_layBack 16 = .ok (.putfield 90, 3) := by decide +kernel
theorem dX12_layBack_19 : decode cX12_layBack 19 = .ok (.aload_n 0, 1) := by decide +kernel
theorem dX12_layBack_20 : decode cX12_layBack 20 = .ok (.aload_n 0, 1) := by decide +kernel
theorem dX12_layBack_21 : decode cX12_layBack 21 = .ok (.getfield 119, 3) := by decide +kernel
theorem dX12_layBack_24 : decode cX12_layBack 24 = .ok (.putfield 93, 3) := by decide +kernel
theorem dX12_layBack_27 : decode cX12_layBack 27 = .ok (.aload_n 0, 1) := by decide +kernel
theorem dX12_layBack_28 : decode cX12_layBack 28 = .ok (.aload_n 0, 1) := by decide +kernel
theorem dX12_layBack_29 : decode cX12_layBack 29 = .ok (.getfield 122, 3) := by decide +kernel
theorem dX12_layBack_32 : decode cX12_layBack 32 = .ok (.putfield 96, 3) := by decide +kernel
theorem dX12_layBack_35 : decode cX12_layBack 35 = .ok (.return_, 1) := by decide +kernel
set_option maxRecDepth 20000 in
theorem ggX12_wrongIf_X12_layAside : GoodIn wsX12_wrongIf wsX12_layAside := goodIn_r _ [5, 6, 7, 8, 9, 10, 11, 12, 13, 14, 15, 4, 16, 38, 39, 40, 41, 42, 43, 44, 45, 46, 47, 48, 49, 50, 51, 52, 53, 54, 55, 56, 57, 58, 59, 60, 61, 62, 63, 64, 65, 66, 67, 68, 69, 70] (by decide +kernel) (by decide +kernel)
set_option maxRecDepth 20000 in
theorem gX12_wrongIf_X12_layAside : GoodIn wsX12_wrongIf (wsV RX12 125 RX12 yX12_layAside wsX12_layAside) := goodIn_app (goodIn_of _ (by decide +kernel)) ggX12_wrongIf_X12_layAside
set_option maxRecDepth 20000 in
theorem ggX12_wrongIf_X12_goesTo : GoodIn wsX12_wrongIf wsX12_goesTo := goodIn_r _ [20, 6, 8, 10, 12, 21, 22, 23, 4, 24, 38, 39, 40, 41, 42, 43, 44, 45, 46, 47, 48, 49, 50, 51, 52, 53, 54, 55, 56, 57, 58, 59, 60, 61, 62, 63, 64, 65, 66, 67, 68, 69, 70] (by decide +kernel) (by decide +kernel)
set_option maxRecDepth 20000 in
theorem gX12_wrongIf_X12_goesTo : GoodIn wsX12_wrongIf (wsV RX12 128 RX12 yX12_goesTo wsX12_goesTo) := goodIn_app (goodIn_of _ (by decide +kernel)) ggX12_wrongIf_X12_goesTo
set_option maxRecDepth 20000 in
theorem ggX12_wrongIf_X12_wrongMany : GoodIn wsX12_wrongIf wsX12_wrongMany := goodIn_r _ [28, 29, 30, 31, 32, 4, 33, 8, 6, 10, 38, 39, 40, 41, 42, 43, 44, 45, 46, 47, 48, 49, 50, 51, 52, 53, 54, 55, 56, 57, 58, 59, 60, 61, 62, 63, 64, 65, 66, 67, 68, 69, 70] (by decide +kernel) (by decide +kernel)
set_option maxRecDepth 20000 in
theorem gX12_wrongIf_X12_wrongMany : GoodIn wsX12_wrongIf (wsV RX12 132 RX12 yX12_wrongMany wsX12_wrongMany) := goodIn_app (goodIn_of _ (by decide +kernel)) ggX12_wrongIf_X12_wrongMany
set_option maxRecDepth 20000 in
theorem ggX12_wrongIf_X12_layBack : GoodIn wsX12_wrongIf wsX12_layBack := goodIn_r _ [37, 7, 6, 9, 8, 11, 10, 13, 12, 14, 15, 4, 16, 38, 39, 40, 41, 42, 43, 44, 45, 46, 47, 48, 49, 50, 51, 52, 53, 54, 55, 56, 57, 58, 59, 60, 61, 62, 63, 64, 65, 66, 67, 68, 69, 70] (by decide +kernel) (by decide +kernel)
set_option maxRecDepth 20000 in
theorem gX12_wrongIf_X12_layBack : GoodIn wsX12_wrongIf (wsV RX12 135 RX12 yX12_layBack wsX12_layBack) := goodIn_app (goodIn_of _ (by decide +kernel)) ggX12_wrongIf_X12_layBack
theorem dX12_wrongIf_0 : decode cX12_wrongIf 0 = .ok (.aload_n 0, 1) := by decide +kernel
theorem dX12_wrongIf_1 : decode cX12_wrongIf 1 = .ok (.invokevirtual 125, 3) := by decide +kernel
theorem dX12_wrongIf_4 : decode cX12_wrongIf 4 = .ok (.aload_n 0, 1) := by decide +kernel
theorem dX12_wrongIf_5 : decode cX12_wrongIf 5 = .ok (.iload_n 1, 1) := by decide +kernel
theorem dX12_wrongIf_6 : decode cX12_wrongIf 6 = .ok (.invokevirtual 128, 3) := by decide +kernel
theorem dX12_wrongIf_9 : decode cX12_wrongIf 9 = .ok (.aload_n 0, 1) := by decide +kernel
theorem dX12_wrongIf_10 : decode cX12_wrongIf 10 = .ok (.invokevirtual 132, 3) := by decide +kernel
theorem dX12_wrongIf_13 : decode cX12_wrongIf 13 = .ok (.istore_n 2, 1) := by decide +kernel
theorem dX12_wrongIf_14 : decode cX12_wrongIf 14 = .ok (.aload_n 0, 1) := by decide +kernel
theorem dX12_wrongIf_15 : decode cX12_wrongIf 15 = .ok (.invokevirtual 135, 3) := by decide +kernel
theorem dX12_wrongIf_18 : decode cX12_wrongIf 18 = .ok (.iload_n 2, 1) := by decide +kernel
theorem dX12_wrongIf_19 : decode cX12_wrongIf 19 = .ok (.ireturn, 1) := by decide +kernel
set_option maxRecDepth 20000 in
theorem ggX12_tell_X12_isWrong : GoodIn wsX12_tell wsX12_isWrong := goodIn_r _ [8, 2, 1, 3, 42, 43, 44, 45, 46, 47, 48, 49, 50, 51, 52, 53, 54, 55, 56, 57, 58, 59, 60, 61, 62, 63, 64, 65, 66, 67, 68, 69, 70, 71, 72, 73, 74] (by decide +kernel) (by decide +kernel)
set_option maxRecDepth 20000 in
theorem gX12_tell_X12_isWrong : GoodIn wsX12_tell (wsV RX12 105 RX12 yX12_isWrong wsX12_isWrong) := goodIn_app (goodIn_of _ (by decide +kernel)) ggX12_tell_X12_isWrong
set_option maxRecDepth 20000 in
theorem ggX12_tell_X12_doneBy : GoodIn wsX12_tell wsX12_doneBy := goodIn_r _ [12, 1, 42, 43, 44, 45, 46, 47, 48, 49, 50, 51, 52, 53, 54, 55, 56, 57, 58, 59, 60, 61, 62, 63, 64, 65, 66, 67, 68, 69, 70, 71, 72, 73, 74] (by decide +kernel) (by decide +kernel)
set_option maxRecDepth 20000 in
theorem gX12_tell_X12_doneBy : GoodIn wsX12_tell (wsV RX12 108 RX12 yX12_doneBy wsX12_doneBy) := goodIn_app (goodIn_of _ (by decide +kernel)) ggX12_tell_X12_doneBy
set_option maxRecDepth 20000 in
theorem ggX12_tell_X12_wrongIf : GoodIn wsX12_tell wsX12_wrongIf := goodIn_r _ [16, 17, 18, 19, 7, 20, 1, 21, 2, 22, 3, 23, 24, 25, 26, 27, 28, 29, 30, 31, 32, 9, 10, 11, 12, 33, 34, 35, 36, 37, 4, 5, 6, 8, 38, 39, 40, 41, 42, 43, 44, 45, 46, 47, 48, 49, 50, 51, 52, 53, 54, 55, 56, 57, 58, 59, 60, 61, 62, 63, 64, 65, 66, 67, 68, 69, 70, 71, 72, 73, 74] (by decide +kernel) (by decide +kernel)
set_option maxRecDepth 20000 in
theorem gX12_tell_X12_wrongIf : GoodIn wsX12_tell (wsV RX12 138 RX12 yX12_wrongIf wsX12_wrongIf) := goodIn_app (goodIn_of _ (by decide +kernel)) ggX12_tell_X12_wrongIf
theorem dX12_tell_0 : decode cX12_tell 0 = .ok (.iload_n 2, 1) := by decide +kernel
theorem dX12_tell_1 : decode cX12_tell 1 = .ok (.tableswitch 135 0 6 #[43, 56, 43, 70, 84, 95, 117], 43) := by decide +kernel
theorem dX12_tell_44 : decode cX12_tell 44 = .ok (.aload_n 0, 1) := by decide +kernel
theorem dX12_tell_45 : decode cX12_tell 45 = .ok (.getfield 16, 3) := by decide +kernel
theorem dX12_tell_48 : decode cX12_tell 48 = .ok (.iconst 4, 1) := by decide +kernel
theorem dX12_tell_49 : decode cX12_tell 49 = .ok (.iload_n 1, 1) := by decide +kernel
theorem dX12_tell_50 : decode cX12_tell 50 = .ok (.imul, 1) := by decide +kernel
theorem dX12_tell_51 : decode cX12_tell 51 = .ok (.iload_n 2, 1) := by decide +kernel
theorem dX12_tell_52 : decode cX12_tell 52 = .ok (.iconst 2, 1) := by decide +kernel
theorem dX12_tell_53 : decode cX12_tell 53 = .ok (.idiv, 1) := by decide +kernel
theorem dX12_tell_54 : decode cX12_tell 54 = .ok (.iadd, 1) := by decide +kernel
theorem dX12_tell_55 : decode cX12_tell 55 = .ok (.iaload, 1) := by decide +kernel
theorem dX12_tell_56 : decode cX12_tell 56 = .ok (.ireturn, 1) := by decide +kernel
theorem dX12_tell_57 : decode cX12_tell 57 = .ok (.iload_n 1, 1) := by decide +kernel
theorem dX12_tell_58 : decode cX12_tell 58 = .ok (.aload_n 0, 1) := by decide +kernel
theorem dX12_tell_59 : decode cX12_tell 59 = .ok (.getfield 90, 3) := by decide +kernel
theorem dX12_tell_62 : decode cX12_tell 62 = .ok (.if_icmp .ne 7, 3) := by decide +kernel
theorem dX12_tell_65 : decode cX12_tell 65 = .ok (.iconst 1, 1) := by decide +kernel
theorem dX12_tell_66 : decode cX12_tell 66 = .ok (.goto 4, 3) := by decide +kernel
theorem dX12_tell_69 : decode cX12_tell 69 = .ok (.iconst 0, 1) := by decide +kernel
theorem dX12_tell_70 : decode cX12_tell 70 = .ok (.ireturn, 1) := by decide +kernel
theorem dX12_tell_71 : decode cX12_tell 71 = .ok (.aload_n 0, 1) := by decide +kernel
theorem dX12_tell_72 : decode cX12_tell 72 = .ok (.iload_n 1, 1) := by decide +kernel
theorem dX12_tell_73 : decode cX12_tell 73 = .ok (.invokevirtual 105, 3) := by decide +kernel
theorem dX12_tell_76 : decode cX12_tell 76 = .ok (.ifCond .eq 7, 3) := by decide +kernel
theorem dX12_tell_79 : decode cX12_tell 79 = .ok (.iconst 1, 1) := by decide +kernel
theorem dX12_tell_80 : decode cX12_tell 80 = .ok (.goto 4, 3) := by decide +kernel
theorem dX12_tell_83 : decode cX12_tell 83 = .ok (.iconst 0, 1) := by decide +kernel
theorem dX12_tell_84 : decode cX12_tell 84 = .ok (.ireturn, 1) := by decide +kernel
theorem dX12_tell_85 : decode cX12_tell 85 = .ok (.aload_n 0, 1) := by decide +kernel
theorem dX12_tell_86 : decode cX12_tell 86 = .ok (.getfield 16, 3) := by decide +kernel
theorem dX12_tell_89 : decode cX12_tell 89 = .ok (.iconst 4, 1) := by decide +kernel
theorem dX12_tell_90 : decode cX12_tell 90 = .ok (.iload_n 1, 1) := by decide +kernel
theorem dX12_tell_91 : decode cX12_tell 91 = .ok (.imul, 1) := by decide +kernel
theorem dX12_tell_92 : decode cX12_tell 92 = .ok (.iconst 3, 1) := by decide +kernel
theorem dX12_tell_93 : decode cX12_tell 93 = .ok (.iadd, 1) := by decide +kernel
theorem dX12_tell_94 : decode cX12_tell 94 = .ok (.iaload, 1) := by decide +kernel
theorem dX12_tell_95 : decode cX12_tell 95 = .ok (.ireturn, 1) := by decide +kernel
theorem dX12_tell_96 : decode cX12_tell 96 = .ok (.iload_n 1, 1) := by decide +kernel
theorem dX12_tell_97 : decode cX12_tell 97 = .ok (.aload_n 0, 1) := by decide +kernel
theorem dX12_tell_98 : decode cX12_tell 98 = .ok (.getfield 90, 3) := by decide +kernel
theorem dX12_tell_101 : decode cX12_tell 101 = .ok (.if_icmp .ne 7, 3) := by decide +kernel
theorem dX12_tell_104 : decode cX12_tell 104 = .ok (.iconst (-1), 1) := by decide +kernel
theorem dX12_tell_105 : decode cX12_tell 105 = .ok (.goto 12, 3) := by decide +kernel
theorem dX12_tell_108 : decode cX12_tell 108 = .ok (.aload_n 0, 1) := by decide +kernel
theorem dX12_tell_109 : decode cX12_tell 109 = .ok (.iload_n 1, 1) := by decide +kernel
theorem dX12_tell_110 : decode cX12_tell 110 = .ok (.aload_n 0, 1) := by decide +kernel
theorem dX12_tell_111 : decode cX12_tell 111 = .ok (.getfield 93, 3) := by decide +kernel
theorem dX12_tell_114 : decode cX12_tell 114 = .ok (.invokevirtual 108, 3) := by decide +kernel
theorem dX12_tell_117 : decode cX12_tell 117 = .ok (.ireturn, 1) := by decide +kernel
theorem dX12_tell_118 : decode cX12_tell 118 = .ok (.iload_n 1, 1) := by decide +kernel
theorem dX12_tell_119 : decode cX12_tell 119 = .ok (.aload_n 0, 1) := by decide +kernel
theorem dX12_tell_120 : decode cX12_tell 120 = .ok (.getfield 90, 3) := by decide +kernel
theorem dX12_tell_123 : decode cX12_tell 123 = .ok (.if_icmp .ne 7, 3) := by decide +kernel
theorem dX12_tell_126 : decode cX12_tell 126 = .ok (.iconst (-1), 1) := by decide +kernel
theorem dX12_tell_127 : decode cX12_tell 127 = .ok (.goto 8, 3) := by decide +kernel
theorem dX12_tell_130 : decode cX12_tell 130 = .ok (.aload_n 0, 1) := by decide +kernel
theorem dX12_tell_131 : decode cX12_tell 131 = .ok (.iload_n 1, 1) := by decide +kernel
theorem dX12_tell_132 : decode cX12_tell 132 = .ok (.invokevirtual 138, 3) := by decide +kernel
theorem dX12_tell_135 : decode cX12_tell 135 = .ok (.ireturn, 1) := by decide +kernel
theorem dX12_tell_136 : decode cX12_tell 136 = .ok (.bipush (-102), 2) := by decide +kernel
theorem dX12_tell_138 : decode cX12_tell 138 = .ok (.ireturn, 1) := by decide +kernel
set_option maxRecDepth 20000 in
theorem ggX12_about_X12_isPerson : GoodIn wsX12_about wsX12_isPerson := goodIn_r _ [5, 6, 7, 8, 4, 9, 53, 54, 55, 56, 57, 58, 59, 60, 61, 62, 63, 64, 65, 66, 67, 68, 69, 70, 71, 72, 73, 74, 75, 76, 77, 78, 79, 80, 81, 82, 83, 84, 85] (by decide +kernel) (by decide +kernel)
set_option maxRecDepth 20000 in
theorem gX12_about_X12_isPerson : GoodIn wsX12_about (wsV RX12 141 RX12 yX12_isPerson wsX12_isPerson) := goodIn_app (goodIn_of _ (by decide +kernel)) ggX12_about_X12_isPerson
set_option maxRecDepth 20000 in
theorem ggX12_about_X12_tell : GoodIn wsX12_about wsX12_tell := goodIn_r _ [13, 14, 15, 16, 17, 18, 19, 4, 20, 21, 22, 23, 24, 25, 26, 27, 28, 29, 30, 31, 32, 33, 34, 35, 36, 37, 38, 39, 40, 41, 42, 43, 44, 45, 46, 47, 48, 6, 49, 50, 51, 52, 53, 54, 55, 56, 57, 58, 59, 60, 61, 62, 63, 64, 65, 66, 67, 68, 69, 70, 71, 72, 73, 74, 75, 76, 77, 78, 79, 80, 81, 82, 83, 84, 85] (by decide +kernel) (by decide +kernel)
set_option maxRecDepth 20000 in
theorem gX12_about_X12_tell : GoodIn wsX12_about (wsV RX12 144 RX12 yX12_tell wsX12_tell) := goodIn_app (goodIn_of _ (by decide +kernel)) ggX12_about_X12_tell
theorem dX12_about_0 : decode cX12_about 0 = .ok (.aload_n 0, 1) := by decide +kernel
theorem dX12_about_1 : decode cX12_about 1 = .ok (.iload_n 1, 1) := by decide +kernel
theorem dX12_about_2 : decode cX12_about 2 = .ok (.invokevirtual 141, 3) := by decide +kernel
theorem dX12_about_5 : decode cX12_about 5 = .ok (.ifCond .eq 12, 3) := by decide +kernel
theorem dX12_about_8 : decode cX12_about 8 = .ok (.aload_n 0, 1) := by decide +kernel
theorem dX12_about_9 : decode cX12_about 9 = .ok (.iload_n 1, 1) := by decide +kernel
theorem dX12_about_10 : decode cX12_about 10 = .ok (.iload_n 2, 1) := by decide +kernel
theorem dX12_about_11 : decode cX12_about 11 = .ok (.invokevirtual 144, 3) := by decide +kernel
theorem dX12_about_14 : decode cX12_about 14 = .ok (.goto 5, 3) := by decide +kernel
theorem dX12_about_17 : decode cX12_about 17 = .ok (.bipush (-101), 2) := by decide +kernel
theorem dX12_about_19 : decode cX12_about 19 = .ok (.ireturn, 1) := by decide +kernel
set_option maxRecDepth 20000 in
theorem ggX12_as_X12_isPerson : GoodIn wsX12_as wsX12_isPerson := goodIn_r _ [7, 8, 9, 10, 6, 11, 12, 13, 14, 15, 16, 17, 18, 19, 20, 21, 22, 23, 24, 25, 26, 27, 28, 29, 30, 31, 32, 33, 34, 35, 36, 37, 38, 39, 40, 41, 42, 43, 44] (by decide +kernel) (by decide +kernel)
set_option maxRecDepth 20000 in
theorem gX12_as_X12_isPerson : GoodIn wsX12_as (wsV RX12 141 RX12 yX12_isPerson wsX12_isPerson) := goodIn_app (goodIn_of _ (by decide +kernel)) ggX12_as_X12_isPerson
set_option maxRecDepth 20000 in
theorem ggX12_as_X12_in : GoodIn wsX12_as wsX12_in := goodIn_r _ [11] (by decide +kernel) (by decide +kernel)
set_option maxRecDepth 20000 in
theorem gX12_as_X12_in : GoodIn wsX12_as (va_wsS RX12 55 yX12_in wsX12_in) := goodIn_app (goodIn_of _ (by decide +kernel)) ggX12_as_X12_in
theorem dX12_as_0 : decode cX12_as 0 = .ok (.aload_n 0, 1) := by decide +kernel
theorem dX12_as_1 : decode cX12_as 1 = .ok (.iload_n 1, 1) := by decide +kernel
theorem dX12_as_2 : decode cX12_as 2 = .ok (.invokevirtual 141, 3) := by decide +kernel
theorem dX12_as_5 : decode cX12_as 5 = .ok (.ifCond .ne 6, 3) := by decide +kernel
theorem dX12_as_8 : decode cX12_as 8 = .ok (.bipush (-101), 2) := by decide +kernel
theorem dX12_as_10 : decode cX12_as 10 = .ok (.ireturn, 1) := by decide +kernel
theorem dX12_as_11 : decode cX12_as 11 = .ok (.iload_n 2, 1) := by decide +kernel
theorem dX12_as_12 : decode cX12_as 12 = .ok (.i2l, 1) := by decide +kernel
theorem dX12_as_13 : decode cX12_as 13 = .ok (.lconst 0, 1) := by decide +kernel
theorem dX12_as_14 : decode cX12_as 14 = .ok (.ldc2_w 147, 3) := by decide +kernel
theorem dX12_as_17 : decode cX12_as 17 = .ok (.invokestatic 55, 3) := by decide +kernel
theorem dX12_as_20 : decode cX12_as 20 = .ok (.ifCond .ne 6, 3) := by decide +kernel
theorem dX12_as_23 : decode cX12_as 23 = .ok (.bipush (-102), 2) := by decide +kernel
theorem dX12_as_25 : decode cX12_as 25 = .ok (.ireturn, 1) := by decide +kernel
theorem dX12_as_26 : decode cX12_as 26 = .ok (.aload_n 0, 1) := by decide +kernel
theorem dX12_as_27 : decode cX12_as 27 = .ok (.getfield 16, 3) := by decide +kernel
theorem dX12_as_30 : decode cX12_as 30 = .ok (.iconst 4, 1) := by decide +kernel
theorem dX12_as_31 : decode cX12_as 31 = .ok (.iload_n 1, 1) := by decide +kernel
theorem dX12_as_32 : decode cX12_as 32 = .ok (.imul, 1) := by decide +kernel
theorem dX12_as_33 : decode cX12_as 33 = .ok (.iaload, 1) := by decide +kernel
theorem dX12_as_34 : decode cX12_as 34 = .ok (.istore_n 3, 1) := by decide +kernel
theorem dX12_as_35 : decode cX12_as 35 = .ok (.iload_n 2, 1) := by decide +kernel
theorem dX12_as_36 : decode cX12_as 36 = .ok (.ifCond .eq 18, 3) := by decide +kernel
theorem dX12_as_39 : decode cX12_as 39 = .ok (.iload_n 2, 1) := by decide +kernel
theorem dX12_as_40 : decode cX12_as 40 = .ok (.iload_n 3, 1) := by decide +kernel
theorem dX12_as_41 : decode cX12_as 41 = .ok (.if_icmp .eq 13, 3) := by decide +kernel
theorem dX12_as_44 : decode cX12_as 44 = .ok (.iload_n 2, 1) := by decide +kernel
theorem dX12_as_45 : decode cX12_as 45 = .ok (.iconst 1, 1) := by decide +kernel
theorem dX12_as_46 : decode cX12_as 46 = .ok (.if_icmp .ne 12, 3) := by decide +kernel
theorem dX12_as_49 : decode cX12_as 49 = .ok (.iload_n 3, 1) := by decide +kernel
theorem dX12_as_50 : decode cX12_as 50 = .ok (.iconst 4, 1) := by decide +kernel
theorem dX12_as_51 : decode cX12_as 51 = .ok (.if_icmp .ne 7, 3) := by decide +kernel
theorem dX12_as_54 : decode cX12_as 54 = .ok (.iconst 1, 1) := by decide +kernel
theorem dX12_as_55 : decode cX12_as 55 = .ok (.goto 4, 3) := by decide +kernel
theorem dX12_as_58 : decode cX12_as 58 = .ok (.iconst 0, 1) := by decide +kernel
theorem dX12_as_59 : decode cX12_as 59 = .ok (.istore 4, 2) := by decide +kernel
theorem dX12_as_61 : decode cX12_as 61 = .ok (.iload 4, 2) := by decide +kernel
theorem dX12_as_63 : decode cX12_as 63 = .ok (.ifCond .eq 7, 3) := by decide +kernel
theorem dX12_as_66 : decode cX12_as 66 = .ok (.iload_n 1, 1) := by decide +kernel
theorem dX12_as_67 : decode cX12_as 67 = .ok (.goto 4, 3) := by decide +kernel
theorem dX12_as_70 : decode cX12_as 70 = .ok (.iconst (-1), 1) := by decide +kernel
theorem dX12_as_71 : decode cX12_as 71 = .ok (.ireturn, 1) := by decide +kernel
set_option maxRecDepth 20000 in
theorem ggX12_pass_X12_isPerson : GoodIn wsX12_pass wsX12_isPerson := goodIn_r _ [7, 8, 9, 10, 6, 11, 22, 23, 24, 25, 26, 27, 28, 29, 30, 31, 32, 33, 34, 35, 36, 37, 38, 39, 40, 41, 42, 43, 44, 45, 46, 47, 48, 49, 50, 51, 52, 53, 54] (by decide +kernel) (by decide +kernel)
set_option maxRecDepth 20000 in
theorem gX12_pass_X12_isPerson : GoodIn wsX12_pass (wsV RX12 141 RX12 yX12_isPerson wsX12_isPerson) := goodIn_app (goodIn_of _ (by decide +kernel)) ggX12_pass_X12_isPerson
set_option maxRecDepth 20000 in
theorem ggX12_pass_X12_goesTo : GoodIn wsX12_pass wsX12_goesTo := goodIn_r _ [15, 16, 1, 2, 17, 18, 19, 20, 6, 21, 22, 23, 24, 25, 26, 27, 28, 29, 30, 31, 32, 33, 34, 35, 36, 37, 38, 39, 40, 41, 42, 43, 44, 45, 46, 47, 48, 49, 50, 51, 52, 53, 54] (by decide +kernel) (by decide +kernel)
set_option maxRecDepth 20000 in
theorem gX12_pass_X12_goesTo : GoodIn wsX12_pass (wsV RX12 128 RX12 yX12_goesTo wsX12_goesTo) := goodIn_app (goodIn_of _ (by decide +kernel)) ggX12_pass_X12_goesTo
theorem dX12_pass_0 : decode cX12_pass 0 = .ok (.aload_n 0, 1) := by decide +kernel
theorem dX12_pass_1 : decode cX12_pass 1 = .ok (.iload_n 1, 1) := by decide +kernel
theorem dX12_pass_2 : decode cX12_pass 2 = .ok (.invokevirtual 141, 3) := by decide +kernel
theorem dX12_pass_5 : decode cX12_pass 5 = .ok (.ifCond .ne 6, 3) := by decide +kernel
theorem dX12_pass_8 : decode cX12_pass 8 = .ok (.bipush (-101), 2) := by decide +kernel
theorem dX12_pass_10 : decode cX12_pass 10 = .ok (.ireturn, 1) := by decide +kernel
theorem dX12_pass_11 : decode cX12_pass 11 = .ok (.iload_n 1, 1) := by decide +kernel
theorem dX12_pass_12 : decode cX12_pass 12 = .ok (.aload_n 0, 1) := by decide +kernel
theorem dX12_pass_13 : decode cX12_pass 13 = .ok (.getfield 90, 3) := by decide +kernel
theorem dX12_pass_16 : decode cX12_pass 16 = .ok (.if_icmp .ne 6, 3) := by decide +kernel
theorem dX12_pass_19 : decode cX12_pass 19 = .ok (.bipush (-103), 2) := by decide +kernel
theorem dX12_pass_21 : decode cX12_pass 21 = .ok (.ireturn, 1) := by decide +kernel
theorem dX12_pass_22 : decode cX12_pass 22 = .ok (.aload_n 0, 1) := by decide +kernel
theorem dX12_pass_23 : decode cX12_pass 23 = .ok (.iload_n 1, 1) := by decide +kernel
theorem dX12_pass_24 : decode cX12_pass 24 = .ok (.invokevirtual 128, 3) := by decide +kernel
theorem dX12_pass_27 : decode cX12_pass 27 = .ok (.aload_n 0, 1) := by decide +kernel
theorem dX12_pass_28 : decode cX12_pass 28 = .ok (.getfield 93, 3) := by decide +kernel
theorem dX12_pass_31 : decode cX12_pass 31 = .ok (.ireturn, 1) := by decide +kernel
set_option maxRecDepth 20000 in
theorem ggX12_claim_X12_isPerson : GoodIn wsX12_claim wsX12_isPerson := goodIn_r _ [5, 6, 7, 8, 4, 9, 21, 22, 23, 24, 25, 26, 27, 28, 29, 30, 31, 32, 33, 34, 35, 36, 37, 38, 39, 40, 41, 42, 43, 44, 45, 46, 47, 48, 49, 50, 51, 52, 53] (by decide +kernel) (by decide +kernel)
set_option maxRecDepth 20000 in
theorem gX12_claim_X12_isPerson : GoodIn wsX12_claim (wsV RX12 141 RX12 yX12_isPerson wsX12_isPerson) := goodIn_app (goodIn_of _ (by decide +kernel)) ggX12_claim_X12_isPerson
set_option maxRecDepth 20000 in
theorem ggX12_claim_X12_claims : GoodIn wsX12_claim wsX12_claims := goodIn_r _ [13, 14, 15, 16, 17, 4, 18, 19, 20, 21, 22, 23, 24, 25, 26, 27, 28, 29, 30, 31, 32, 33, 34, 35, 36, 37, 38, 39, 40, 41, 42, 43, 44, 45, 46, 47, 48, 49, 50, 51, 52, 53] (by decide +kernel) (by decide +kernel)
set_option maxRecDepth 20000 in
theorem gX12_claim_X12_claims : GoodIn wsX12_claim (wsV RX12 149 RX12 yX12_claims wsX12_claims) := goodIn_app (goodIn_of _ (by decide +kernel)) ggX12_claim_X12_claims
theorem dX12_claim_0 : decode cX12_claim 0 = .ok (.aload_n 0, 1) := by decide +kernel
theorem dX12_claim_1 : decode cX12_claim 1 = .ok (.iload_n 1, 1) := by decide +kernel
theorem dX12_claim_2 : decode cX12_claim 2 = .ok (.invokevirtual 141, 3) := by decide +kernel
theorem dX12_claim_5 : decode cX12_claim 5 = .ok (.ifCond .eq 11, 3) := by decide +kernel
theorem dX12_claim_8 : decode cX12_claim 8 = .ok (.aload_n 0, 1) := by decide +kernel
theorem dX12_claim_9 : decode cX12_claim 9 = .ok (.iload_n 1, 1) := by decide +kernel
theorem dX12_claim_10 : decode cX12_claim 10 = .ok (.invokevirtual 149, 3) := by decide +kernel
theorem dX12_claim_13 : decode cX12_claim 13 = .ok (.goto 5, 3) := by decide +kernel
theorem dX12_claim_16 : decode cX12_claim 16 = .ok (.bipush (-101), 2) := by decide +kernel
theorem dX12_claim_18 : decode cX12_claim 18 = .ok (.ireturn, 1) := by decide +kernel
set_option maxRecDepth 20000 in
theorem ggX12_layFar_X12_doneBy : GoodIn wsX12_layFar wsX12_doneBy := goodIn_r _ [7, 8, 9, 10, 11, 12, 13, 14, 15, 16, 17, 18, 19, 20, 21, 22, 23, 24, 25, 26, 27, 28, 29, 30, 31, 32, 33, 34, 35, 36, 37, 38, 39, 40, 41] (by decide +kernel) (by decide +kernel)
set_option maxRecDepth 20000 in
theorem gX12_layFar_X12_doneBy : GoodIn wsX12_layFar (wsV RX12 108 RX12 yX12_doneBy wsX12_doneBy) := goodIn_app (goodIn_of _ (by decide +kernel)) ggX12_layFar_X12_doneBy
theorem dX12_layFar_0 : decode cX12_layFar 0 = .ok (.iconst 0, 1) := by decide +kernel
theorem dX12_layFar_1 : decode cX12_layFar 1 = .ok (.istore_n 2, 1) := by decide +kernel
theorem dX12_layFar_2 : decode cX12_layFar 2 = .ok (.iload_n 2, 1) := by decide +kernel
theorem dX12_layFar_3 : decode cX12_layFar 3 = .ok (.sipush 128, 3) := by decide +kernel
theorem dX12_layFar_6 : decode cX12_layFar 6 = .ok (.if_icmp .ge 16, 3) := by decide +kernel
theorem dX12_layFar_9 : decode cX12_layFar 9 = .ok (.aload_n 0, 1) := by decide +kernel
theorem dX12_layFar_10 : decode cX12_layFar 10 = .ok (.getfield 22, 3) := by decide +kernel
theorem dX12_layFar_13 : decode cX12_layFar 13 = .ok (.iload_n 2, 1) := by decide +kernel
theorem dX12_layFar_14 : decode cX12_layFar 14 = .ok (.iconst (-1), 1) := by decide +kernel
theorem dX12_layFar_15 : decode cX12_layFar 15 = .ok (.iastore, 1) := by decide +kernel
theorem dX12_layFar_16 : decode cX12_layFar 16 = .ok (.iinc 2 1, 3) := by decide +kernel
theorem dX12_layFar_19 : decode cX12_layFar 19 = .ok (.goto (-17), 3) := by decide +kernel
theorem dX12_layFar_22 : decode cX12_layFar 22 = .ok (.aload_n 0, 1) := by decide +kernel
theorem dX12_layFar_23 : decode cX12_layFar 23 = .ok (.getfield 22, 3) := by decide +kernel
theorem dX12_layFar_26 : decode cX12_layFar 26 = .ok (.iload_n 1, 1) := by decide +kernel
theorem dX12_layFar_27 : decode cX12_layFar 27 = .ok (.iconst 0, 1) := by decide +kernel
theorem dX12_layFar_28 : decode cX12_layFar 28 = .ok (.iastore, 1) := by decide +kernel
theorem dX12_layFar_29 : decode cX12_layFar 29 = .ok (.iconst 0, 1) := by decide +kernel
theorem dX12_layFar_30 : decode cX12_layFar 30 = .ok (.istore_n 2, 1) := by decide +kernel
theorem dX12_layFar_31 : decode cX12_layFar 31 = .ok (.iload_n 2, 1) := by decide +kernel
theorem dX12_layFar_32 : decode cX12_layFar 32 = .ok (.sipush 128, 3) := by decide +kernel
theorem dX12_layFar_35 : decode cX12_layFar 35 = .ok (.if_icmp .ge 110, 3) := by decide +kernel
theorem dX12_layFar_38 : decode cX12_layFar 38 = .ok (.iconst 0, 1) := by decide +kernel
theorem dX12_layFar_39 : decode cX12_layFar 39 = .ok (.istore_n 3, 1) := by decide +kernel
theorem dX12_layFar_40 : decode cX12_layFar 40 = .ok (.iload_n 3, 1) := by decide +kernel
theorem dX12_layFar_41 : decode cX12_layFar 41 = .ok (.sipush 128, 3) := by decide +kernel
theorem dX12_layFar_44 : decode cX12_layFar 44 = .ok (.if_icmp .ge 95, 3) := by decide +kernel
theorem dX12_layFar_47 : decode cX12_layFar 47 = .ok (.iconst 0, 1) := by decide +kernel
theorem dX12_layFar_48 : decode cX12_layFar 48 = .ok (.istore 4, 2) := by decide +kernel
theorem dX12_layFar_50 : decode cX12_layFar 50 = .ok (.iload 4, 2) := by decide +kernel
theorem dX12_layFar_52 : decode cX12_layFar 52 = .ok (.aload_n 0, 1) := by decide +kernel
theorem dX12_layFar_53 : decode cX12_layFar 53 = .ok (.getfield 87, 3) := by decide +kernel
theorem dX12_layFar_56 : decode cX12_layFar 56 = .ok (.if_icmp .ge 77, 3) := by decide +kernel
theorem dX12_layFar_59 : decode cX12_layFar 59 = .ok (.aload_n 0, 1) := by decide +kernel
theorem dX12_layFar_60 : decode cX12_layFar 60 = .ok (.getfield 22, 3) := by decide +kernel
theorem dX12_layFar_63 : decode cX12_layFar 63 = .ok (.iload_n 3, 1) := by decide +kernel
theorem dX12_layFar_64 : decode cX12_layFar 64 = .ok (.iaload, 1) := by decide +kernel
theorem dX12_layFar_65 : decode cX12_layFar 65 = .ok (.iload_n 2, 1) := by decide +kernel
theorem dX12_layFar_66 : decode cX12_layFar 66 = .ok (.if_icmp .ne 67, 3) := by decide +kernel
theorem dX12_layFar_69 : decode cX12_layFar 69 = .ok (.bipush 32, 2) := by decide +kernel
theorem dX12_layFar_71 : decode cX12_layFar 71 = .ok (.iload 4, 2) := by decide +kernel
theorem dX12_layFar_73 : decode cX12_layFar 73 = .ok (.imul, 1) := by decide +kernel
theorem dX12_layFar_74 : decode cX12_layFar 74 = .ok (.aload_n 0, 1) := by decide +kernel
theorem dX12_layFar_75 : decode cX12_layFar 75 = .ok (.iload 4, 2) := by decide +kernel
theorem dX12_layFar_77 : decode cX12_layFar 77 = .ok (.iload_n 3, 1) := by decide +kernel
theorem dX12_layFar_78 : decode cX12_layFar 78 = .ok (.bipush 32, 2) := by decide +kernel
theorem dX12_layFar_80 : decode cX12_layFar 80 = .ok (.irem, 1) := by decide +kernel
theorem dX12_layFar_81 : decode cX12_layFar 81 = .ok (.invokevirtual 108, 3) := by decide +kernel
theorem dX12_layFar_84 : decode cX12_layFar 84 = .ok (.iadd, 1) := by decide +kernel
theorem dX12_layFar_85 : decode cX12_layFar 85 = .ok (.istore 5, 2) := by decide +kernel
theorem dX12_layFar_87 : decode cX12_layFar 87 = .ok (.aload_n 0, 1) := by decide +kernel
theorem dX12_layFar_88 : decode cX12_layFar 88 = .ok (.getfield 22, 3) := by decide +kernel
theorem dX12_layFar_91 : decode cX12_layFar 91 = .ok (.iload 5, 2) := by decide +kernel
theorem dX12_layFar_93 : decode cX12_layFar 93 = .ok (.iload 4, 2) := by decide +kernel
theorem dX12_layFar_95 : decode cX12_layFar 95 = .ok (.iload_n 3, 1) := by decide +kernel
theorem dX12_layFar_96 : decode cX12_layFar 96 = .ok (.bipush 32, 2) := by decide +kernel
theorem dX12_layFar_98 : decode cX12_layFar 98 = .ok (.idiv, 1) := by decide +kernel
theorem dX12_layFar_99 : decode cX12_layFar 99 = .ok (.if_icmp .eq 20, 3) := by decide +kernel
theorem dX12_layFar_102 : decode cX12_layFar 102 = .ok (.aload_n 0, 1) := by decide +kernel
theorem dX12_layFar_103 : decode cX12_layFar 103 = .ok (.getfield 22, 3) := by decide +kernel
theorem dX12_layFar_106 : decode cX12_layFar 106 = .ok (.iload 5, 2) := by decide +kernel
theorem dX12_layFar_108 : decode cX12_layFar 108 = .ok (.iaload, 1) := by decide +kernel
theorem dX12_layFar_109 : decode cX12_layFar 109 = .ok (.iconst (-1), 1) := by decide +kernel
theorem dX12_layFar_110 : decode cX12_layFar 110 = .ok (.if_icmp .ne 9, 3) := by decide +kernel
theorem dX12_layFar_113 : decode cX12_layFar 113 = .ok (.iload_n 2, 1) := by decide +kernel
theorem dX12_layFar_114 : decode cX12_layFar 114 = .ok (.iconst 1, 1) := by decide +kernel
theorem dX12_layFar_115 : decode cX12_layFar 115 = .ok (.iadd, 1) := by decide +kernel
theorem dX12_layFar_116 : decode cX12_layFar 116 = .ok (.goto 10, 3) := by decide +kernel
theorem dX12_layFar_119 : decode cX12_layFar 119 = .ok (.aload_n 0, 1) := by decide +kernel
theorem dX12_layFar_120 : decode cX12_layFar 120 = .ok (.getfield 22, 3) := by decide +kernel
theorem dX12_layFar_123 : decode cX12_layFar 123 = .ok (.iload 5, 2) := by decide +kernel
theorem dX12_layFar_125 : decode cX12_layFar 125 = .ok (.iaload, 1) := by decide +kernel
theorem dX12_layFar_126 : decode cX12_layFar 126 = .ok (.iastore, 1) := by decide +kernel
theorem dX12_layFar_127 : decode cX12_layFar 127 = .ok (.iinc 4 1, 3) := by decide +kernel
theorem dX12_layFar_130 : decode cX12_layFar 130 = .ok (.goto (-80), 3) := by decide +kernel
theorem dX12_layFar_133 : decode cX12_layFar 133 = .ok (.iinc 3 1, 3) := by decide +kernel
theorem dX12_layFar_136 : decode cX12_layFar 136 = .ok (.goto (-96), 3) := by decide +kernel
theorem dX12_layFar_139 : decode cX12_layFar 139 = .ok (.iinc 2 1, 3) := by decide +kernel
theorem dX12_layFar_142 : decode cX12_layFar 142 = .ok (.goto (-111), 3) := by decide +kernel
theorem dX12_layFar_145 : decode cX12_layFar 145 = .ok (.return_, 1) := by decide +kernel
set_option maxRecDepth 20000 in
theorem ggX12_chainOf_X12_layFar : GoodIn wsX12_chainOf wsX12_layFar := goodIn_r _ [9, 3, 4, 10, 11, 12, 8, 13, 14, 15, 16, 17, 18, 19, 20, 21, 22, 23, 24, 25, 26, 27, 28, 29, 30, 31, 32, 33, 34, 35, 36, 37, 38, 39, 40, 41, 42, 43, 44, 45, 46, 47] (by decide +kernel) (by decide +kernel)
set_option maxRecDepth 20000 in
theorem gX12_chainOf_X12_layFar : GoodIn wsX12_chainOf (wsV RX12 152 RX12 yX12_layFar wsX12_layFar) := goodIn_app (goodIn_of _ (by decide +kernel)) ggX12_chainOf_X12_layFar
set_option maxRecDepth 20000 in
theorem ggX12_chainOf_X12_doneBy : GoodIn wsX12_chainOf wsX12_doneBy := goodIn_r _ [13, 14, 15, 16, 17, 18, 19, 20, 21, 22, 23, 24, 25, 26, 27, 28, 29, 30, 31, 32, 33, 34, 35, 36, 37, 38, 39, 40, 41, 42, 43, 44, 45, 46, 47] (by decide +kernel) (by decide +kernel)
set_option maxRecDepth 20000 in
theorem gX12_chainOf_X12_doneBy : GoodIn wsX12_chainOf (wsV RX12 108 RX12 yX12_doneBy wsX12_doneBy) := goodIn_app (goodIn_of _ (by decide +kernel)) ggX12_chainOf_X12_doneBy
theorem dX12_chainOf_0 : decode cX12_chainOf 0 = .ok (.aload_n 0, 1) := by decide +kernel
theorem dX12_chainOf_1 : decode cX12_chainOf 1 = .ok (.bipush 32, 2) := by decide +kernel
theorem dX12_chainOf_3 : decode cX12_chainOf 3 = .ok (.aload_n 0, 1) := by decide +kernel
theorem dX12_chainOf_4 : decode cX12_chainOf 4 = .ok (.getfield 90, 3) := by decide +kernel
theorem dX12_chainOf_7 : decode cX12_chainOf 7 = .ok (.imul, 1) := by decide +kernel
theorem dX12_chainOf_8 : decode cX12_chainOf 8 = .ok (.aload_n 0, 1) := by decide +kernel
theorem dX12_chainOf_9 : decode cX12_chainOf 9 = .ok (.getfield 93, 3) := by decide +kernel
theorem dX12_chainOf_12 : decode cX12_chainOf 12 = .ok (.iadd, 1) := by decide +kernel
theorem dX12_chainOf_13 : decode cX12_chainOf 13 = .ok (.invokevirtual 152, 3) := by decide +kernel
theorem dX12_chainOf_16 : decode cX12_chainOf 16 = .ok (.aload_n 0, 1) := by decide +kernel
theorem dX12_chainOf_17 : decode cX12_chainOf 17 = .ok (.getfield 22, 3) := by decide +kernel
theorem dX12_chainOf_20 : decode cX12_chainOf 20 = .ok (.iload_n 1, 1) := by decide +kernel
theorem dX12_chainOf_21 : decode cX12_chainOf 21 = .ok (.iaload, 1) := by decide +kernel
theorem dX12_chainOf_22 : decode cX12_chainOf 22 = .ok (.istore_n 3, 1) := by decide +kernel
theorem dX12_chainOf_23 : decode cX12_chainOf 23 = .ok (.iload_n 2, 1) := by decide +kernel
theorem dX12_chainOf_24 : decode cX12_chainOf 24 = .ok (.ifCond .eq 7, 3) := by decide +kernel
theorem dX12_chainOf_27 : decode cX12_chainOf 27 = .ok (.iload_n 3, 1) := by decide +kernel
theorem dX12_chainOf_28 : decode cX12_chainOf 28 = .ok (.ifCond .gt 13, 3) := by decide +kernel
theorem dX12_chainOf_31 : decode cX12_chainOf 31 = .ok (.iload_n 2, 1) := by decide +kernel
theorem dX12_chainOf_32 : decode cX12_chainOf 32 = .ok (.ifCond .ne 7, 3) := by decide +kernel
theorem dX12_chainOf_35 : decode cX12_chainOf 35 = .ok (.iload_n 3, 1) := by decide +kernel
theorem dX12_chainOf_36 : decode cX12_chainOf 36 = .ok (.goto 4, 3) := by decide +kernel
theorem dX12_chainOf_39 : decode cX12_chainOf 39 = .ok (.iconst (-1), 1) := by decide +kernel
theorem dX12_chainOf_40 : decode cX12_chainOf 40 = .ok (.ireturn, 1) := by decide +kernel
theorem dX12_chainOf_41 : decode cX12_chainOf 41 = .ok (.iconst 0, 1) := by decide +kernel
theorem dX12_chainOf_42 : decode cX12_chainOf 42 = .ok (.istore 4, 2) := by decide +kernel
theorem dX12_chainOf_44 : decode cX12_chainOf 44 = .ok (.iload 4, 2) := by decide +kernel
theorem dX12_chainOf_46 : decode cX12_chainOf 46 = .ok (.aload_n 0, 1) := by decide +kernel
theorem dX12_chainOf_47 : decode cX12_chainOf 47 = .ok (.getfield 87, 3) := by decide +kernel
theorem dX12_chainOf_50 : decode cX12_chainOf 50 = .ok (.if_icmp .ge 53, 3) := by decide +kernel
theorem dX12_chainOf_53 : decode cX12_chainOf 53 = .ok (.iload 4, 2) := by decide +kernel
theorem dX12_chainOf_55 : decode cX12_chainOf 55 = .ok (.aload_n 0, 1) := by decide +kernel
theorem dX12_chainOf_56 : decode cX12_chainOf 56 = .ok (.getfield 90, 3) := by decide +kernel
theorem dX12_chainOf_59 : decode cX12_chainOf 59 = .ok (.if_icmp .eq 38, 3) := by decide +kernel
theorem dX12_chainOf_62 : decode cX12_chainOf 62 = .ok (.aload_n 0, 1) := by decide +kernel
theorem dX12_chainOf_63 : decode cX12_chainOf 63 = .ok (.bipush 32, 2) := by decide +kernel
theorem dX12_chainOf_65 : decode cX12_chainOf 65 = .ok (.iload 4, 2) := by decide +kernel
theorem dX12_chainOf_67 : decode cX12_chainOf 67 = .ok (.imul, 1) := by decide +kernel
theorem dX12_chainOf_68 : decode cX12_chainOf 68 = .ok (.aload_n 0, 1) := by decide +kernel
theorem dX12_chainOf_69 : decode cX12_chainOf 69 = .ok (.iload 4, 2) := by decide +kernel
theorem dX12_chainOf_71 : decode cX12_chainOf 71 = .ok (.aload_n 0, 1) := by decide +kernel
theorem dX12_chainOf_72 : decode cX12_chainOf 72 = .ok (.getfield 93, 3) := by decide +kernel
theorem dX12_chainOf_75 : decode cX12_chainOf 75 = .ok (.invokevirtual 108, 3) := by decide +kernel
theorem dX12_chainOf_78 : decode cX12_chainOf 78 = .ok (.iadd, 1) := by decide +kernel
theorem dX12_chainOf_79 : decode cX12_chainOf 79 = .ok (.invokevirtual 152, 3) := by decide +kernel
theorem dX12_chainOf_82 : decode cX12_chainOf 82 = .ok (.aload_n 0, 1) := by decide +kernel
theorem dX12_chainOf_83 : decode cX12_chainOf 83 = .ok (.getfield 22, 3) := by decide +kernel
theorem dX12_chainOf_86 : decode cX12_chainOf 86 = .ok (.iload_n 1, 1) := by decide +kernel
theorem dX12_chainOf_87 : decode cX12_chainOf 87 = .ok (.iaload, 1) := by decide +kernel
theorem dX12_chainOf_88 : decode cX12_chainOf 88 = .ok (.iload_n 3, 1) := by decide +kernel
theorem dX12_chainOf_89 : decode cX12_chainOf 89 = .ok (.iconst 1, 1) := by decide +kernel
theorem dX12_chainOf_90 : decode cX12_chainOf 90 = .ok (.isub, 1) := by decide +kernel
theorem dX12_chainOf_91 : decode cX12_chainOf 91 = .ok (.if_icmp .ne 6, 3) := by decide +kernel
theorem dX12_chainOf_94 : decode cX12_chainOf 94 = .ok (.iload 4, 2) := by decide +kernel
theorem dX12_chainOf_96 : decode cX12_chainOf 96 = .ok (.ireturn, 1) := by decide +kernel
theorem dX12_chainOf_97 : decode cX12_chainOf 97 = .ok (.iinc 4 1, 3) := by decide +kernel
theorem dX12_chainOf_100 : decode cX12_chainOf 100 = .ok (.goto (-56), 3) := by decide +kernel
theorem dX12_chainOf_103 : decode cX12_chainOf 103 = .ok (.iconst (-1), 1) := by decide +kernel
theorem dX12_chainOf_104 : decode cX12_chainOf 104 = .ok (.ireturn, 1) := by decide +kernel
set_option maxRecDepth 20000 in
theorem ggX12_chain_X12_isPerson : GoodIn wsX12_chain wsX12_isPerson := goodIn_r _ [6, 7, 8, 9, 5, 10, 27, 28, 29, 30, 31, 32, 33, 34, 35, 36, 37, 38, 39, 40, 41, 42, 43, 44, 45, 46, 47, 48, 49, 50, 51, 52, 53, 54, 55, 56, 57, 58, 59] (by decide +kernel) (by decide +kernel)
set_option maxRecDepth 20000 in
theorem gX12_chain_X12_isPerson : GoodIn wsX12_chain (wsV RX12 141 RX12 yX12_isPerson wsX12_isPerson) := goodIn_app (goodIn_of _ (by decide +kernel)) ggX12_chain_X12_isPerson
set_option maxRecDepth 20000 in
theorem ggX12_chain_X12_in : GoodIn wsX12_chain wsX12_in := goodIn_r _ [10] (by decide +kernel) (by decide +kernel)
set_option maxRecDepth 20000 in
theorem gX12_chain_X12_in : GoodIn wsX12_chain (va_wsS RX12 55 yX12_in wsX12_in) := goodIn_app (goodIn_of _ (by decide +kernel)) ggX12_chain_X12_in
set_option maxRecDepth 20000 in
theorem ggX12_chain_X12_chainOf : GoodIn wsX12_chain wsX12_chainOf := goodIn_r _ [14, 15, 16, 17, 7, 18, 19, 20, 5, 21, 22, 23, 24, 25, 26, 27, 28, 29, 30, 31, 32, 33, 34, 35, 36, 37, 38, 39, 40, 41, 42, 43, 44, 45, 46, 47, 48, 49, 50, 51, 52, 53, 54, 55, 56, 57, 58, 59] (by decide +kernel) (by decide +kernel)
set_option maxRecDepth 20000 in
theorem gX12_chain_X12_chainOf : GoodIn wsX12_chain (wsV RX12 157 RX12 yX12_chainOf wsX12_chainOf) := goodIn_app (goodIn_of _ (by decide +kernel)) ggX12_chain_X12_chainOf
theorem dX12_chain_0 : decode cX12_chain 0 = .ok (.aload_n 0, 1) := by decide +kernel
theorem dX12_chain_1 : decode cX12_chain 1 = .ok (.iload_n 1, 1) := by decide +kernel
theorem dX12_chain_2 : decode cX12_chain 2 = .ok (.invokevirtual 141, 3) := by decide +kernel
theorem dX12_chain_5 : decode cX12_chain 5 = .ok (.ifCond .ne 6, 3) := by decide +kernel
theorem dX12_chain_8 : decode cX12_chain 8 = .ok (.bipush (-101), 2) := by decide +kernel
theorem dX12_chain_10 : decode cX12_chain 10 = .ok (.ireturn, 1) := by decide +kernel
theorem dX12_chain_11 : decode cX12_chain 11 = .ok (.iload_n 2, 1) := by decide +kernel
theorem dX12_chain_12 : decode cX12_chain 12 = .ok (.i2l, 1) := by decide +kernel
theorem dX12_chain_13 : decode cX12_chain 13 = .ok (.lconst 0, 1) := by decide +kernel
theorem dX12_chain_14 : decode cX12_chain 14 = .ok (.ldc2_w 155, 3) := by decide +kernel
theorem dX12_chain_17 : decode cX12_chain 17 = .ok (.invokestatic 55, 3) := by decide +kernel
theorem dX12_chain_20 : decode cX12_chain 20 = .ok (.ifCond .eq 13, 3) := by decide +kernel
theorem dX12_chain_23 : decode cX12_chain 23 = .ok (.iload_n 3, 1) := by decide +kernel
theorem dX12_chain_24 : decode cX12_chain 24 = .ok (.i2l, 1) := by decide +kernel
theorem dX12_chain_25 : decode cX12_chain 25 = .ok (.lconst 0, 1) := by decide +kernel
theorem dX12_chain_26 : decode cX12_chain 26 = .ok (.lconst 1, 1) := by decide +kernel
theorem dX12_chain_27 : decode cX12_chain 27 = .ok (.invokestatic 55, 3) := by decide +kernel
theorem dX12_chain_30 : decode cX12_chain 30 = .ok (.ifCond .ne 6, 3) := by decide +kernel
theorem dX12_chain_33 : decode cX12_chain 33 = .ok (.bipush (-102), 2) := by decide +kernel
theorem dX12_chain_35 : decode cX12_chain 35 = .ok (.ireturn, 1) := by decide +kernel
theorem dX12_chain_36 : decode cX12_chain 36 = .ok (.aload_n 0, 1) := by decide +kernel
theorem dX12_chain_37 : decode cX12_chain 37 = .ok (.bipush 32, 2) := by decide +kernel
theorem dX12_chain_39 : decode cX12_chain 39 = .ok (.iload_n 1, 1) := by decide +kernel
theorem dX12_chain_40 : decode cX12_chain 40 = .ok (.imul, 1) := by decide +kernel
theorem dX12_chain_41 : decode cX12_chain 41 = .ok (.iload_n 2, 1) := by decide +kernel
theorem dX12_chain_42 : decode cX12_chain 42 = .ok (.iadd, 1) := by decide +kernel
theorem dX12_chain_43 : decode cX12_chain 43 = .ok (.iload_n 3, 1) := by decide +kernel
theorem dX12_chain_44 : decode cX12_chain 44 = .ok (.invokevirtual 157, 3) := by decide +kernel
theorem dX12_chain_47 : decode cX12_chain 47 = .ok (.ireturn, 1) := by decide +kernel
set_option maxRecDepth 20000 in
theorem ggX12_layCalm_X12_layAside : GoodIn wsX12_layCalm wsX12_layAside := goodIn_r _ [9, 10, 11, 3, 12, 13, 14, 15, 16, 17, 18, 8, 19, 40, 41, 42, 43, 44, 45, 46, 47, 48, 49, 50, 51, 52, 53, 54, 55, 56, 57, 58, 59, 60, 61, 62, 63, 64, 65, 66, 67, 68, 69, 70, 71, 72] (by decide +kernel) (by decide +kernel)
set_option maxRecDepth 20000 in
theorem gX12_layCalm_X12_layAside : GoodIn wsX12_layCalm (wsV RX12 125 RX12 yX12_layAside wsX12_layAside) := goodIn_app (goodIn_of _ (by decide +kernel)) ggX12_layCalm_X12_layAside
set_option maxRecDepth 20000 in
theorem ggX12_layCalm_X12_goesTo : GoodIn wsX12_layCalm wsX12_goesTo := goodIn_r _ [23, 10, 3, 13, 15, 24, 25, 26, 8, 27, 40, 41, 42, 43, 44, 45, 46, 47, 48, 49, 50, 51, 52, 53, 54, 55, 56, 57, 58, 59, 60, 61, 62, 63, 64, 65, 66, 67, 68, 69, 70, 71, 72] (by decide +kernel) (by decide +kernel)
set_option maxRecDepth 20000 in
theorem gX12_layCalm_X12_goesTo : GoodIn wsX12_layCalm (wsV RX12 128 RX12 yX12_goesTo wsX12_goesTo) := goodIn_app (goodIn_of _ (by decide +kernel)) ggX12_layCalm_X12_goesTo
set_option maxRecDepth 20000 in
theorem ggX12_layCalm_X12_wrongMany : GoodIn wsX12_layCalm wsX12_wrongMany := goodIn_r _ [31, 1, 32, 33, 34, 8, 35, 3, 10, 13, 40, 41, 42, 43, 44, 45, 46, 47, 48, 49, 50, 51, 52, 53, 54, 55, 56, 57, 58, 59, 60, 61, 62, 63, 64, 65, 66, 67, 68, 69, 70, 71, 72] (by decide +kernel) (by decide +kernel)
set_option maxRecDepth 20000 in
theorem gX12_layCalm_X12_wrongMany : GoodIn wsX12_layCalm (wsV RX12 132 RX12 yX12_wrongMany wsX12_wrongMany) := goodIn_app (goodIn_of _ (by decide +kernel)) ggX12_layCalm_X12_wrongMany
set_option maxRecDepth 20000 in
theorem ggX12_layCalm_X12_layBack : GoodIn wsX12_layCalm wsX12_layBack := goodIn_r _ [39, 11, 10, 12, 3, 14, 13, 16, 15, 17, 18, 8, 19, 40, 41, 42, 43, 44, 45, 46, 47, 48, 49, 50, 51, 52, 53, 54, 55, 56, 57, 58, 59, 60, 61, 62, 63, 64, 65, 66, 67, 68, 69, 70, 71, 72] (by decide +kernel) (by decide +kernel)
set_option maxRecDepth 20000 in
theorem gX12_layCalm_X12_layBack : GoodIn wsX12_layCalm (wsV RX12 135 RX12 yX12_layBack wsX12_layBack) := goodIn_app (goodIn_of _ (by decide +kernel)) ggX12_layCalm_X12_layBack
set_option maxRecDepth 20000 in
theorem ggX12_layCalm_X12_copy : GoodIn wsX12_layCalm wsX12_copy := goodIn_r _ [19] (by decide +kernel) (by decide +kernel)
set_option maxRecDepth 20000 in
theorem gX12_layCalm_X12_copy : GoodIn wsX12_layCalm (va_wsS RX12 112 yX12_copy wsX12_copy) := goodIn_app (goodIn_of _ (by decide +kernel)) ggX12_layCalm_X12_copy
theorem dX12_layCalm_0 : decode cX12_layCalm 0 = .ok (.iconst 1, 1) := by decide +kernel
theorem dX12_layCalm_1 : decode cX12_layCalm 1 = .ok (.istore_n 2, 1) := by decide +kernel
theorem dX12_layCalm_2 : decode cX12_layCalm 2 = .ok (.iconst 0, 1) := by decide +kernel
theorem dX12_layCalm_3 : decode cX12_layCalm 3 = .ok (.istore_n 3, 1) := by decide +kernel
theorem dX12_layCalm_4 : decode cX12_layCalm 4 = .ok (.iload_n 3, 1) := by decide +kernel
theorem dX12_layCalm_5 : decode cX12_layCalm 5 = .ok (.iload_n 1, 1) := by decide +kernel
theorem dX12_layCalm_6 : decode cX12_layCalm 6 = .ok (.if_icmp .ge 16, 3) := by decide +kernel
theorem dX12_layCalm_9 : decode cX12_layCalm 9 = .ok (.iload_n 2, 1) := by decide +kernel
theorem dX12_layCalm_10 : decode cX12_layCalm 10 = .ok (.aload_n 0, 1) := by decide +kernel
theorem dX12_layCalm_11 : decode cX12_layCalm 11 = .ok (.getfield 87, 3) := by decide +kernel
theorem dX12_layCalm_14 : decode cX12_layCalm 14 = .ok (.imul, 1) := by decide +kernel
theorem dX12_layCalm_15 : decode cX12_layCalm 15 = .ok (.istore_n 2, 1) := by decide +kernel
theorem dX12_layCalm_16 : decode cX12_layCalm 16 = .ok (.iinc 3 1, 3) := by decide +kernel
theorem dX12_layCalm_19 : decode cX12_layCalm 19 = .ok (.goto (-15), 3) := by decide +kernel
theorem dX12_layCalm_22 : decode cX12_layCalm 22 = .ok (.iconst (-1), 1) := by decide +kernel
theorem dX12_layCalm_23 : decode cX12_layCalm 23 = .ok (.istore_n 3, 1) := by decide +kernel
theorem dX12_layCalm_24 : decode cX12_layCalm 24 = .ok (.aload_n 0, 1) := by decide +kernel
theorem dX12_layCalm_25 : decode cX12_layCalm 25 = .ok (.invokevirtual 125, 3) := by decide +kernel
theorem dX12_layCalm_28 : decode cX12_layCalm 28 = .ok (.iconst 0, 1) := by decide +kernel
theorem dX12_layCalm_29 : decode cX12_layCalm 29 = .ok (.istore 4, 2) := by decide +kernel
theorem dX12_layCalm_31 : decode cX12_layCalm 31 = .ok (.iload 4, 2) := by decide +kernel
theorem dX12_layCalm_33 : decode cX12_layCalm 33 = .ok (.iload_n 2, 1) := by decide +kernel
theorem dX12_layCalm_34 : decode cX12_layCalm 34 = .ok (.if_icmp .ge 152, 3) := by decide +kernel
theorem dX12_layCalm_37 : decode cX12_layCalm 37 = .ok (.iload 4, 2) := by decide +kernel
theorem dX12_layCalm_39 : decode cX12_layCalm 39 = .ok (.istore 5, 2) := by decide +kernel
theorem dX12_layCalm_41 : decode cX12_layCalm 41 = .ok (.iload_n 1, 1) := by decide +kernel
theorem dX12_layCalm_42 : decode cX12_layCalm 42 = .ok (.iconst 1, 1) := by decide +kernel
theorem dX12_layCalm_43 : decode cX12_layCalm 43 = .ok (.isub, 1) := by decide +kernel
theorem dX12_layCalm_44 : decode cX12_layCalm 44 = .ok (.istore 6, 2) := by decide +kernel
theorem dX12_layCalm_46 : decode cX12_layCalm 46 = .ok (.iload 6, 2) := by decide +kernel
theorem dX12_layCalm_48 : decode cX12_layCalm 48 = .ok (.ifCond .lt 32, 3) := by decide +kernel
theorem dX12_layCalm_51 : decode cX12_layCalm 51 = .ok (.aload_n 0, 1) := by decide +kernel
theorem dX12_layCalm_52 : decode cX12_layCalm 52 = .ok (.getfield 25, 3) := by decide +kernel
theorem dX12_layCalm_55 : decode cX12_layCalm 55 = .ok (.iload 6, 2) := by decide +kernel
theorem dX12_layCalm_57 : decode cX12_layCalm 57 = .ok (.iload 5, 2) := by decide +kernel
theorem dX12_layCalm_59 : decode cX12_layCalm 59 = .ok (.aload_n 0, 1) := by decide +kernel
theorem dX12_layCalm_60 : decode cX12_layCalm 60 = .ok (.getfield 87, 3) := by decide +kernel
theorem dX12_layCalm_63 : decode cX12_layCalm 63 = .ok (.irem, 1) := by decide +kernel
theorem dX12_layCalm_64 : decode cX12_layCalm 64 = .ok (.iastore, 1) := by decide +kernel
theorem dX12_layCalm_65 : decode cX12_layCalm 65 = .ok (.iload 5, 2) := by decide +kernel
theorem dX12_layCalm_67 : decode cX12_layCalm 67 = .ok (.aload_n 0, 1) := by decide +kernel
theorem dX12_layCalm_68 : decode cX12_layCalm 68 = .ok (.getfield 87, 3) := by decide +kernel
theorem dX12_layCalm_71 : decode cX12_layCalm 71 = .ok (.idiv, 1) := by decide +kernel
theorem dX12_layCalm_72 : decode cX12_layCalm 72 = .ok (.istore 5, 2) := by decide +kernel
theorem dX12_layCalm_74 : decode cX12_layCalm 74 = .ok (.iinc 6 (-1), 3) := by decide +kernel
theorem dX12_layCalm_77 : decode cX12_layCalm 77 = .ok (.goto (-31), 3) := by decide +kernel
theorem dX12_layCalm_80 : decode cX12_layCalm 80 = .ok (.iconst 1, 1) := by decide +kernel
theorem dX12_layCalm_81 : decode cX12_layCalm 81 = .ok (.istore 6, 2) := by decide +kernel
theorem dX12_layCalm_83 : decode cX12_layCalm 83 = .ok (.iconst 0, 1) := by decide +kernel
theorem dX12_layCalm_84 : decode cX12_layCalm 84 = .ok (.istore 7, 2) := by decide +kernel
theorem dX12_layCalm_86 : decode cX12_layCalm 86 = .ok (.iload 7, 2) := by decide +kernel
theorem dX12_layCalm_88 : decode cX12_layCalm 88 = .ok (.iload_n 1, 1) := by decide +kernel
theorem dX12_layCalm_89 : decode cX12_layCalm 89 = .ok (.if_icmp .ge 51, 3) := by decide +kernel
theorem dX12_layCalm_92 : decode cX12_layCalm 92 = .ok (.iload 6, 2) := by decide +kernel
theorem dX12_layCalm_94 : decode cX12_layCalm 94 = .ok (.ifCond .eq 46, 3) := by decide +kernel
theorem dX12_layCalm_97 : decode cX12_layCalm 97 = .ok (.aload_n 0, 1) := by decide +kernel
theorem dX12_layCalm_98 : decode cX12_layCalm 98 = .ok (.getfield 25, 3) := by decide +kernel
theorem dX12_layCalm_101 : decode cX12_layCalm 101 = .ok (.iload 7, 2) := by decide +kernel
theorem dX12_layCalm_103 : decode cX12_layCalm 103 = .ok (.iaload, 1) := by decide +kernel
theorem dX12_layCalm_104 : decode cX12_layCalm 104 = .ok (.aload_n 0, 1) := by decide +kernel
theorem dX12_layCalm_105 : decode cX12_layCalm 105 = .ok (.getfield 90, 3) := by decide +kernel
theorem dX12_layCalm_108 : decode cX12_layCalm 108 = .ok (.if_icmp .eq 7, 3) := by decide +kernel
theorem dX12_layCalm_111 : decode cX12_layCalm 111 = .ok (.iconst 1, 1) := by decide +kernel
theorem dX12_layCalm_112 : decode cX12_layCalm 112 = .ok (.goto 4, 3) := by decide +kernel
theorem dX12_layCalm_115 : decode cX12_layCalm 115 = .ok (.iconst 0, 1) := by decide +kernel
theorem dX12_layCalm_116 : decode cX12_layCalm 116 = .ok (.istore 6, 2) := by decide +kernel
theorem dX12_layCalm_118 : decode cX12_layCalm 118 = .ok (.iload 6, 2) := by decide +kernel
theorem dX12_layCalm_120 : decode cX12_layCalm 120 = .ok (.ifCond .eq 14, 3) := by decide +kernel
theorem dX12_layCalm_123 : decode cX12_layCalm 123 = .ok (.aload_n 0, 1) := by decide +kernel
theorem dX12_layCalm_124 : decode cX12_layCalm 124 = .ok (.aload_n 0, 1) := by decide +kernel
theorem dX12_layCalm_125 : decode cX12_layCalm 125 = .ok (.getfield 25, 3) := by decide +kernel
theorem dX12_layCalm_128 : decode cX12_layCalm 128 = .ok (.iload 7, 2) := by decide +kernel
theorem dX12_layCalm_130 : decode cX12_layCalm 130 = .ok (.iaload, 1) := by decide +kernel
theorem dX12_layCalm_131 : decode cX12_layCalm 131 = .ok (.invokevirtual 128, 3) := by decide +kernel
theorem dX12_layCalm_134 : decode cX12_layCalm 134 = .ok (.iinc 7 1, 3) := by decide +kernel
theorem dX12_layCalm_137 : decode cX12_layCalm 137 = .ok (.goto (-51), 3) := by decide +kernel
theorem dX12_layCalm_140 : decode cX12_layCalm 140 = .ok (.aload_n 0, 1) := by decide +kernel
theorem dX12_layCalm_141 : decode cX12_layCalm 141 = .ok (.invokevirtual 132, 3) := by decide +kernel
theorem dX12_layCalm_144 : decode cX12_layCalm 144 = .ok (.istore 7, 2) := by decide +kernel
theorem dX12_layCalm_146 : decode cX12_layCalm 146 = .ok (.aload_n 0, 1) := by decide +kernel
theorem dX12_layCalm_147 : decode cX12_layCalm 147 = .ok (.invokevirtual 135, 3) := by decide +kernel
theorem dX12_layCalm_150 : decode cX12_layCalm 150 = .ok (.iload 6, 2) := by decide +kernel
theorem dX12_layCalm_152 : decode cX12_layCalm 152 = .ok (.ifCond .eq 28, 3) := by decide +kernel
theorem dX12_layCalm_155 : decode cX12_layCalm 155 = .ok (.iload_n 3, 1) := by decide +kernel
theorem dX12_layCalm_156 : decode cX12_layCalm 156 = .ok (.iconst (-1), 1) := by decide +kernel
theorem dX12_layCalm_157 : decode cX12_layCalm 157 = .ok (.if_icmp .eq 9, 3) := by decide +kernel
theorem dX12_layCalm_160 : decode cX12_layCalm 160 = .ok (.iload 7, 2) := by decide +kernel
theorem dX12_layCalm_162 : decode cX12_layCalm 162 = .ok (.iload_n 3, 1) := by decide +kernel
theorem dX12_layCalm_163 : decode cX12_layCalm 163 = .ok (.if_icmp .ge 17, 3) := by decide +kernel
theorem dX12_layCalm_166 : decode cX12_layCalm 166 = .ok (.iload 7, 2) := by decide +kernel
theorem dX12_layCalm_168 : decode cX12_layCalm 168 = .ok (.istore_n 3, 1) := by decide +kernel
theorem dX12_layCalm_169 : decode cX12_layCalm 169 = .ok (.aload_n 0, 1) := by decide +kernel
theorem dX12_layCalm_170 : decode cX12_layCalm 170 = .ok (.getfield 25, 3) := by decide +kernel
theorem dX12_layCalm_173 : decode cX12_layCalm 173 = .ok (.aload_n 0, 1) := by decide +kernel
theorem dX12_layCalm_174 : decode cX12_layCalm 174 = .ok (.getfield 28, 3) := by decide +kernel
theorem dX12_layCalm_177 : decode cX12_layCalm 177 = .ok (.invokestatic 112, 3) := by decide +kernel
theorem dX12_layCalm_180 : decode cX12_layCalm 180 = .ok (.iinc 4 1, 3) := by decide +kernel
theorem dX12_layCalm_183 : decode cX12_layCalm 183 = .ok (.goto (-152), 3) := by decide +kernel
theorem dX12_layCalm_186 : decode cX12_layCalm 186 = .ok (.iload_n 3, 1) := by decide +kernel
theorem dX12_layCalm_187 : decode cX12_layCalm 187 = .ok (.ireturn, 1) := by decide +kernel
set_option maxRecDepth 20000 in
theorem ggX12_calmOf_X12_layCalm : GoodIn wsX12_calmOf wsX12_layCalm := goodIn_r _ [6, 7, 8, 9, 1, 10, 11, 12, 5, 13, 14, 15, 16, 17, 18, 19, 20, 21, 22, 23, 24, 25, 26, 27, 28, 29, 30, 31, 32, 33, 34, 35, 36, 37, 38, 39, 40, 41, 42, 43, 44, 45, 46, 47, 48, 49, 50, 51, 52, 53, 54, 55, 56, 57, 58, 59, 60, 61, 62, 63, 64, 65, 66, 67, 68, 69, 70, 71, 72, 73, 74, 75, 76] (by decide +kernel) (by decide +kernel)
set_option maxRecDepth 20000 in
theorem gX12_calmOf_X12_layCalm : GoodIn wsX12_calmOf (wsV RX12 160 RX12 yX12_layCalm wsX12_layCalm) := goodIn_app (goodIn_of _ (by decide +kernel)) ggX12_calmOf_X12_layCalm
theorem dX12_calmOf_0 : decode cX12_calmOf 0 = .ok (.aload_n 0, 1) := by decide +kernel
theorem dX12_calmOf_1 : decode cX12_calmOf 1 = .ok (.iload_n 1, 1) := by decide +kernel
theorem dX12_calmOf_2 : decode cX12_calmOf 2 = .ok (.invokevirtual 160, 3) := by decide +kernel
theorem dX12_calmOf_5 : decode cX12_calmOf 5 = .ok (.istore_n 3, 1) := by decide +kernel
theorem dX12_calmOf_6 : decode cX12_calmOf 6 = .ok (.iload_n 2, 1) := by decide +kernel
theorem dX12_calmOf_7 : decode cX12_calmOf 7 = .ok (.ifCond .ne 7, 3) := by decide +kernel
theorem dX12_calmOf_10 : decode cX12_calmOf 10 = .ok (.iload_n 3, 1) := by decide +kernel
theorem dX12_calmOf_11 : decode cX12_calmOf 11 = .ok (.goto 24, 3) := by decide +kernel
theorem dX12_calmOf_14 : decode cX12_calmOf 14 = .ok (.iload_n 2, 1) := by decide +kernel
theorem dX12_calmOf_15 : decode cX12_calmOf 15 = .ok (.bipush 10, 2) := by decide +kernel
theorem dX12_calmOf_17 : decode cX12_calmOf 17 = .ok (.isub, 1) := by decide +kernel
theorem dX12_calmOf_18 : decode cX12_calmOf 18 = .ok (.iload_n 1, 1) := by decide +kernel
theorem dX12_calmOf_19 : decode cX12_calmOf 19 = .ok (.if_icmp .ge 15, 3) := by decide +kernel
theorem dX12_calmOf_22 : decode cX12_calmOf 22 = .ok (.aload_n 0, 1) := by decide +kernel
theorem dX12_calmOf_23 : decode cX12_calmOf 23 = .ok (.getfield 28, 3) := by decide +kernel
theorem dX12_calmOf_26 : decode cX12_calmOf 26 = .ok (.iload_n 2, 1) := by decide +kernel
theorem dX12_calmOf_27 : decode cX12_calmOf 27 = .ok (.bipush 10, 2) := by decide +kernel
theorem dX12_calmOf_29 : decode cX12_calmOf 29 = .ok (.isub, 1) := by decide +kernel
theorem dX12_calmOf_30 : decode cX12_calmOf 30 = .ok (.iaload, 1) := by decide +kernel
theorem dX12_calmOf_31 : decode cX12_calmOf 31 = .ok (.goto 4, 3) := by decide +kernel
theorem dX12_calmOf_34 : decode cX12_calmOf 34 = .ok (.iconst (-1), 1) := by decide +kernel
theorem dX12_calmOf_35 : decode cX12_calmOf 35 = .ok (.ireturn, 1) := by decide +kernel
set_option maxRecDepth 20000 in
theorem ggX12_calm_X12_in : GoodIn wsX12_calm wsX12_in := goodIn_r _ [7] (by decide +kernel) (by decide +kernel)
set_option maxRecDepth 20000 in
theorem gX12_calm_X12_in : GoodIn wsX12_calm (va_wsS RX12 55 yX12_in wsX12_in) := goodIn_app (goodIn_of _ (by decide +kernel)) ggX12_calm_X12_in
set_option maxRecDepth 20000 in
theorem ggX12_calm_X12_lacks : GoodIn wsX12_calm wsX12_lacks := goodIn_r _ [11, 12, 58, 59, 60, 61, 62, 63, 64, 65, 66, 67, 68, 69, 70, 71, 72, 73, 74, 75, 76, 77, 78, 79, 80, 81, 82, 83, 84, 85, 86, 87, 88, 89, 90] (by decide +kernel) (by decide +kernel)
set_option maxRecDepth 20000 in
theorem gX12_calm_X12_lacks : GoodIn wsX12_calm (wsV RX12 167 RX12 yX12_lacks wsX12_lacks) := goodIn_app (goodIn_of _ (by decide +kernel)) ggX12_calm_X12_lacks
set_option maxRecDepth 20000 in
theorem ggX12_calm_X12_calmOf : GoodIn wsX12_calm wsX12_calmOf := goodIn_r _ [16, 17, 18, 19, 20, 6, 21, 12, 22, 23, 24, 25, 26, 27, 28, 29, 30, 31, 32, 33, 34, 35, 36, 37, 38, 39, 40, 41, 42, 43, 44, 45, 46, 47, 48, 49, 50, 51, 52, 53, 54, 55, 56, 57, 58, 59, 60, 61, 62, 63, 64, 65, 66, 67, 68, 69, 70, 71, 72, 73, 74, 75, 76, 77, 78, 79, 80, 81, 82, 83, 84, 85, 86, 87, 88, 89, 90] (by decide +kernel) (by decide +kernel)
set_option maxRecDepth 20000 in
theorem gX12_calm_X12_calmOf : GoodIn wsX12_calm (wsV RX12 171 RX12 yX12_calmOf wsX12_calmOf) := goodIn_app (goodIn_of _ (by decide +kernel)) ggX12_calm_X12_calmOf
theorem dX12_calm_0 : decode cX12_calm 0 = .ok (.iload_n 1, 1) := by decide +kernel
theorem dX12_calm_1 : decode cX12_calm 1 = .ok (.i2l, 1) := by decide +kernel
theorem dX12_calm_2 : decode cX12_calm 2 = .ok (.lconst 1, 1) := by decide +kernel
theorem dX12_calm_3 : decode cX12_calm 3 = .ok (.ldc2_w 147, 3) := by decide +kernel
theorem dX12_calm_6 : decode cX12_calm 6 = .ok (.invokestatic 55, 3) := by decide +kernel
theorem dX12_calm_9 : decode cX12_calm 9 = .ok (.ifCond .eq 21, 3) := by decide +kernel
theorem dX12_calm_12 : decode cX12_calm 12 = .ok (.iload_n 2, 1) := by decide +kernel
theorem dX12_calm_13 : decode cX12_calm 13 = .ok (.ifCond .eq 20, 3) := by decide +kernel
theorem dX12_calm_16 : decode cX12_calm 16 = .ok (.iload_n 2, 1) := by decide +kernel
theorem dX12_calm_17 : decode cX12_calm 17 = .ok (.i2l, 1) := by decide +kernel
theorem dX12_calm_18 : decode cX12_calm 18 = .ok (.ldc2_w 163, 3) := by decide +kernel
theorem dX12_calm_21 : decode cX12_calm 21 = .ok (.ldc2_w 165, 3) := by decide +kernel
theorem dX12_calm_24 : decode cX12_calm 24 = .ok (.invokestatic 55, 3) := by decide +kernel
theorem dX12_calm_27 : decode cX12_calm 27 = .ok (.ifCond .ne 6, 3) := by decide +kernel
theorem dX12_calm_30 : decode cX12_calm 30 = .ok (.bipush (-102), 2) := by decide +kernel
theorem dX12_calm_32 : decode cX12_calm 32 = .ok (.ireturn, 1) := by decide +kernel
theorem dX12_calm_33 : decode cX12_calm 33 = .ok (.aload_n 0, 1) := by decide +kernel
theorem dX12_calm_34 : decode cX12_calm 34 = .ok (.invokevirtual 167, 3) := by decide +kernel
theorem dX12_calm_37 : decode cX12_calm 37 = .ok (.ifCond .eq 8, 3) := by decide +kernel
theorem dX12_calm_40 : decode cX12_calm 40 = .ok (.bipush (-103), 2) := by decide +kernel
theorem dX12_calm_42 : decode cX12_calm 42 = .ok (.goto 9, 3) := by decide +kernel
theorem dX12_calm_45 : decode cX12_calm 45 = .ok (.aload_n 0, 1) := by decide +kernel
theorem dX12_calm_46 : decode cX12_calm 46 = .ok (.iload_n 1, 1) := by decide +kernel
theorem dX12_calm_47 : decode cX12_calm 47 = .ok (.iload_n 2, 1) := by decide +kernel
theorem dX12_calm_48 : decode cX12_calm 48 = .ok (.invokevirtual 171, 3) := by decide +kernel
theorem dX12_calm_51 : decode cX12_calm 51 = .ok (.ireturn, 1) := by decide +kernel
set_option maxRecDepth 20000 in
theorem ggX12_look_X12_in : GoodIn wsX12_look wsX12_in := goodIn_r _ [9] (by decide +kernel) (by decide +kernel)
set_option maxRecDepth 20000 in
theorem gX12_look_X12_in : GoodIn wsX12_look (va_wsS RX12 55 yX12_in wsX12_in) := goodIn_app (goodIn_of _ (by decide +kernel)) ggX12_look_X12_in
set_option maxRecDepth 20000 in
theorem ggX12_look_X12_lacks : GoodIn wsX12_look wsX12_lacks := goodIn_r _ [13, 1, 14, 15, 16, 17, 18, 19, 20, 21, 22, 23, 24, 25, 26, 27, 28, 29, 30, 31, 32, 33, 34, 35, 36, 37, 38, 39, 40, 41, 42, 43, 44, 45, 46] (by decide +kernel) (by decide +kernel)
set_option maxRecDepth 20000 in
theorem gX12_look_X12_lacks : GoodIn wsX12_look (wsV RX12 167 RX12 yX12_lacks wsX12_lacks) := goodIn_app (goodIn_of _ (by decide +kernel)) ggX12_look_X12_lacks
theorem dX12_look_0 : decode cX12_look 0 = .ok (.iload_n 2, 1) := by decide +kernel
theorem dX12_look_1 : decode cX12_look 1 = .ok (.ifCond .ne 7, 3) := by decide +kernel
theorem dX12_look_4 : decode cX12_look 4 = .ok (.iconst 3, 1) := by decide +kernel
theorem dX12_look_5 : decode cX12_look 5 = .ok (.goto 19, 3) := by decide +kernel
theorem dX12_look_8 : decode cX12_look 8 = .ok (.iload_n 2, 1) := by decide +kernel
theorem dX12_look_9 : decode cX12_look 9 = .ok (.iconst 1, 1) := by decide +kernel
theorem dX12_look_10 : decode cX12_look 10 = .ok (.if_icmp .ne 8, 3) := by decide +kernel
theorem dX12_look_13 : decode cX12_look 13 = .ok (.bipush 7, 2) := by decide +kernel
theorem dX12_look_15 : decode cX12_look 15 = .ok (.goto 9, 3) := by decide +kernel
theorem dX12_look_18 : decode cX12_look 18 = .ok (.aload_n 0, 1) := by decide +kernel
theorem dX12_look_19 : decode cX12_look 19 = .ok (.getfield 87, 3) := by decide +kernel
theorem dX12_look_22 : decode cX12_look 22 = .ok (.iconst 1, 1) := by decide +kernel
theorem dX12_look_23 : decode cX12_look 23 = .ok (.isub, 1) := by decide +kernel
theorem dX12_look_24 : decode cX12_look 24 = .ok (.istore 4, 2) := by decide +kernel
theorem dX12_look_26 : decode cX12_look 26 = .ok (.iload_n 1, 1) := by decide +kernel
theorem dX12_look_27 : decode cX12_look 27 = .ok (.i2l, 1) := by decide +kernel
theorem dX12_look_28 : decode cX12_look 28 = .ok (.lconst 0, 1) := by decide +kernel
theorem dX12_look_29 : decode cX12_look 29 = .ok (.ldc2_w 174, 3) := by decide +kernel
theorem dX12_look_32 : decode cX12_look 32 = .ok (.invokestatic 55, 3) := by decide +kernel
theorem dX12_look_35 : decode cX12_look 35 = .ok (.ifCond .eq 27, 3) := by decide +kernel
theorem dX12_look_38 : decode cX12_look 38 = .ok (.iload_n 2, 1) := by decide +kernel
theorem dX12_look_39 : decode cX12_look 39 = .ok (.i2l, 1) := by decide +kernel
theorem dX12_look_40 : decode cX12_look 40 = .ok (.lconst 0, 1) := by decide +kernel
theorem dX12_look_41 : decode cX12_look 41 = .ok (.ldc2_w 176, 3) := by decide +kernel
theorem dX12_look_44 : decode cX12_look 44 = .ok (.invokestatic 55, 3) := by decide +kernel
theorem dX12_look_47 : decode cX12_look 47 = .ok (.ifCond .eq 15, 3) := by decide +kernel
theorem dX12_look_50 : decode cX12_look 50 = .ok (.iload_n 3, 1) := by decide +kernel
theorem dX12_look_51 : decode cX12_look 51 = .ok (.i2l, 1) := by decide +kernel
theorem dX12_look_52 : decode cX12_look 52 = .ok (.lconst 0, 1) := by decide +kernel
theorem dX12_look_53 : decode cX12_look 53 = .ok (.iload 4, 2) := by decide +kernel
theorem dX12_look_55 : decode cX12_look 55 = .ok (.i2l, 1) := by decide +kernel
theorem dX12_look_56 : decode cX12_look 56 = .ok (.invokestatic 55, 3) := by decide +kernel
theorem dX12_look_59 : decode cX12_look 59 = .ok (.ifCond .ne 6, 3) := by decide +kernel
theorem dX12_look_62 : decode cX12_look 62 = .ok (.bipush (-102), 2) := by decide +kernel
theorem dX12_look_64 : decode cX12_look 64 = .ok (.ireturn, 1) := by decide +kernel
theorem dX12_look_65 : decode cX12_look 65 = .ok (.aload_n 0, 1) := by decide +kernel
theorem dX12_look_66 : decode cX12_look 66 = .ok (.invokevirtual 167, 3) := by decide +kernel
theorem dX12_look_69 : decode cX12_look 69 = .ok (.ifCond .eq 6, 3) := by decide +kernel
theorem dX12_look_72 : decode cX12_look 72 = .ok (.bipush (-103), 2) := by decide +kernel
theorem dX12_look_74 : decode cX12_look 74 = .ok (.ireturn, 1) := by decide +kernel
theorem dX12_look_75 : decode cX12_look 75 = .ok (.aload_n 0, 1) := by decide +kernel
theorem dX12_look_76 : decode cX12_look 76 = .ok (.getfield 99, 3) := by decide +kernel
theorem dX12_look_79 : decode cX12_look 79 = .ok (.bipush 8, 2) := by decide +kernel
theorem dX12_look_81 : decode cX12_look 81 = .ok (.if_icmp .ne 6, 3) := by decide +kernel
theorem dX12_look_84 : decode cX12_look 84 = .ok (.bipush (-104), 2) := by decide +kernel
theorem dX12_look_86 : decode cX12_look 86 = .ok (.ireturn, 1) := by decide +kernel
theorem dX12_look_87 : decode cX12_look 87 = .ok (.aload_n 0, 1) := by decide +kernel
theorem dX12_look_88 : decode cX12_look 88 = .ok (.getfield 31, 3) := by decide +kernel
theorem dX12_look_91 : decode cX12_look 91 = .ok (.iconst 3, 1) := by decide +kernel
theorem dX12_look_92 : decode cX12_look 92 = .ok (.aload_n 0, 1) := by decide +kernel
theorem dX12_look_93 : decode cX12_look 93 = .ok (.getfield 99, 3) := by decide +kernel
theorem dX12_look_96 : decode cX12_look 96 = .ok (.imul, 1) := by decide +kernel
theorem dX12_look_97 : decode cX12_look 97 = .ok (.iload_n 1, 1) := by decide +kernel
theorem dX12_look_98 : decode cX12_look 98 = .ok (.iastore, 1) := by decide +kernel
theorem dX12_look_99 : decode cX12_look 99 = .ok (.aload_n 0, 1) := by decide +kernel
theorem dX12_look_100 : decode cX12_look 100 = .ok (.getfield 31, 3) := by decide +kernel
theorem dX12_look_103 : decode cX12_look 103 = .ok (.iconst 3, 1) := by decide +kernel
theorem dX12_look_104 : decode cX12_look 104 = .ok (.aload_n 0, 1) := by decide +kernel
theorem dX12_look_105 : decode cX12_look 105 = .ok (.getfield 99, 3) := by decide +kernel
theorem dX12_look_108 : decode cX12_look 108 = .ok (.imul, 1) := by decide +kernel
theorem dX12_look_109 : decode cX12_look 109 = .ok (.iconst 1, 1) := by decide +kernel
theorem dX12_look_110 : decode cX12_look 110 = .ok (.iadd, 1) := by decide +kernel
theorem dX12_look_111 : decode cX12_look 111 = .ok (.iload_n 2, 1) := by decide +kernel
theorem dX12_look_112 : decode cX12_look 112 = .ok (.iastore, 1) := by decide +kernel
theorem dX12_look_113 : decode cX12_look 113 = .ok (.aload_n 0, 1) := by decide +kernel
theorem dX12_look_114 : decode cX12_look 114 = .ok (.getfield 31, 3) := by decide +kernel
theorem dX12_look_117 : decode cX12_look 117 = .ok (.iconst 3, 1) := by decide +kernel
theorem dX12_look_118 : decode cX12_look 118 = .ok (.aload_n 0, 1) := by decide +kernel
theorem dX12_look_119 : decode cX12_look 119 = .ok (.getfield 99, 3) := by decide +kernel
theorem dX12_look_122 : decode cX12_look 122 = .ok (.imul, 1) := by decide +kernel
theorem dX12_look_123 : decode cX12_look 123 = .ok (.iconst 2, 1) := by decide +kernel
theorem dX12_look_124 : decode cX12_look 124 = .ok (.iadd, 1) := by decide +kernel
theorem dX12_look_125 : decode cX12_look 125 = .ok (.iload_n 3, 1) := by decide +kernel
theorem dX12_look_126 : decode cX12_look 126 = .ok (.iastore, 1) := by decide +kernel
theorem dX12_look_127 : decode cX12_look 127 = .ok (.aload_n 0, 1) := by decide +kernel
theorem dX12_look_128 : decode cX12_look 128 = .ok (.dup, 1) := by decide +kernel
theorem dX12_look_129 : decode cX12_look 129 = .ok (.getfield 99, 3) := by decide +kernel
theorem dX12_look_132 : decode cX12_look 132 = .ok (.iconst 1, 1) := by decide +kernel
theorem dX12_look_133 : decode cX12_look 133 = .ok (.iadd, 1) := by decide +kernel
theorem dX12_look_134 : decode cX12_look 134 = .ok (.putfield 99, 3) := by decide +kernel
theorem dX12_look_137 : decode cX12_look 137 = .ok (.aload_n 0, 1) := by decide +kernel
theorem dX12_look_138 : decode cX12_look 138 = .ok (.getfield 99, 3) := by decide +kernel
theorem dX12_look_141 : decode cX12_look 141 = .ok (.ireturn, 1) := by decide +kernel
theorem dX12_forget_0 : decode cX12_forget 0 = .ok (.aload_n 0, 1) := by decide +kernel
theorem dX12_forget_1 : decode cX12_forget 1 = .ok (.getfield 99, 3) := by decide +kernel
theorem dX12_forget_4 : decode cX12_forget 4 = .ok (.istore_n 1, 1) := by decide +kernel
theorem dX12_forget_5 : decode cX12_forget 5 = .ok (.aload_n 0, 1) := by decide +kernel
theorem dX12_forget_6 : decode cX12_forget 6 = .ok (.iconst 0, 1) := by decide +kernel
theorem dX12_forget_7 : decode cX12_forget 7 = .ok (.putfield 99, 3) := by decide +kernel
theorem dX12_forget_10 : decode cX12_forget 10 = .ok (.iload_n 1, 1) := by decide +kernel
theorem dX12_forget_11 : decode cX12_forget 11 = .ok (.ireturn, 1) := by decide +kernel
theorem dX12_seenAt_0 : decode cX12_seenAt 0 = .ok (.iload_n 1, 1) := by decide +kernel
theorem dX12_seenAt_1 : decode cX12_seenAt 1 = .ok (.ifCond .ne 13, 3) := by decide +kernel
theorem dX12_seenAt_4 : decode cX12_seenAt 4 = .ok (.iload_n 0, 1) := by decide +kernel
theorem dX12_seenAt_5 : decode cX12_seenAt 5 = .ok (.bipush 32, 2) := by decide +kernel
theorem dX12_seenAt_7 : decode cX12_seenAt 7 = .ok (.irem, 1) := by decide +kernel
theorem dX12_seenAt_8 : decode cX12_seenAt 8 = .ok (.bipush 8, 2) := by decide +kernel
theorem dX12_seenAt_10 : decode cX12_seenAt 10 = .ok (.idiv, 1) := by decide +kernel
theorem dX12_seenAt_11 : decode cX12_seenAt 11 = .ok (.goto 19, 3) := by decide +kernel
theorem dX12_seenAt_14 : decode cX12_seenAt 14 = .ok (.iload_n 1, 1) := by decide +kernel
theorem dX12_seenAt_15 : decode cX12_seenAt 15 = .ok (.iconst 1, 1) := by decide +kernel
theorem dX12_seenAt_16 : decode cX12_seenAt 16 = .ok (.if_icmp .ne 10, 3) := by decide +kernel
theorem dX12_seenAt_19 : decode cX12_seenAt 19 = .ok (.iload_n 0, 1) := by decide +kernel
theorem dX12_seenAt_20 : decode cX12_seenAt 20 = .ok (.bipush 8, 2) := by decide +kernel
theorem dX12_seenAt_22 : decode cX12_seenAt 22 = .ok (.irem, 1) := by decide +kernel
theorem dX12_seenAt_23 : decode cX12_seenAt 23 = .ok (.goto 7, 3) := by decide +kernel
theorem dX12_seenAt_26 : decode cX12_seenAt 26 = .ok (.iload_n 0, 1) := by decide +kernel
theorem dX12_seenAt_27 : decode cX12_seenAt 27 = .ok (.bipush 32, 2) := by decide +kernel
theorem dX12_seenAt_29 : decode cX12_seenAt 29 = .ok (.idiv, 1) := by decide +kernel
theorem dX12_seenAt_30 : decode cX12_seenAt 30 = .ok (.ireturn, 1) := by decide +kernel
set_option maxRecDepth 20000 in
theorem ggX12_layLooks_X12_seenAt : GoodIn wsX12_layLooks wsX12_seenAt := goodIn_r _ [7] (by decide +kernel) (by decide +kernel)
set_option maxRecDepth 20000 in
theorem gX12_layLooks_X12_seenAt : GoodIn wsX12_layLooks (va_wsS RX12 178 yX12_seenAt wsX12_seenAt) := goodIn_app (goodIn_of _ (by decide +kernel)) ggX12_layLooks_X12_seenAt
theorem dX12_layLooks_0 : decode cX12_layLooks 0 = .ok (.iconst 0, 1) := by decide +kernel
theorem dX12_layLooks_1 : decode cX12_layLooks 1 = .ok (.istore_n 2, 1) := by decide +kernel
theorem dX12_layLooks_2 : decode cX12_layLooks 2 = .ok (.iload_n 2, 1) := by decide +kernel
theorem dX12_layLooks_3 : decode cX12_layLooks 3 = .ok (.aload_n 0, 1) := by decide +kernel
theorem dX12_layLooks_4 : decode cX12_layLooks 4 = .ok (.getfield 99, 3) := by decide +kernel
theorem dX12_layLooks_7 : decode cX12_layLooks 7 = .ok (.if_icmp .ge 79, 3) := by decide +kernel
theorem dX12_layLooks_10 : decode cX12_layLooks 10 = .ok (.iconst 0, 1) := by decide +kernel
theorem dX12_layLooks_11 : decode cX12_layLooks 11 = .ok (.istore_n 3, 1) := by decide +kernel
theorem dX12_layLooks_12 : decode cX12_layLooks 12 = .ok (.iload_n 3, 1) := by decide +kernel
theorem dX12_layLooks_13 : decode cX12_layLooks 13 = .ok (.sipush 128, 3) := by decide +kernel
theorem dX12_layLooks_16 : decode cX12_layLooks 16 = .ok (.if_icmp .ge 64, 3) := by decide +kernel
theorem dX12_layLooks_19 : decode cX12_layLooks 19 = .ok (.aload_n 0, 1) := by decide +kernel
theorem dX12_layLooks_20 : decode cX12_layLooks 20 = .ok (.getfield 31, 3) := by decide +kernel
theorem dX12_layLooks_23 : decode cX12_layLooks 23 = .ok (.iconst 3, 1) := by decide +kernel
theorem dX12_layLooks_24 : decode cX12_layLooks 24 = .ok (.iload_n 2, 1) := by decide +kernel
theorem dX12_layLooks_25 : decode cX12_layLooks 25 = .ok (.imul, 1) := by decide +kernel
theorem dX12_layLooks_26 : decode cX12_layLooks 26 = .ok (.iaload, 1) := by decide +kernel
theorem dX12_layLooks_27 : decode cX12_layLooks 27 = .ok (.iload_n 1, 1) := by decide +kernel
theorem dX12_layLooks_28 : decode cX12_layLooks 28 = .ok (.if_icmp .ne 52, 3) := by decide +kernel
theorem dX12_layLooks_31 : decode cX12_layLooks 31 = .ok (.aload_n 0, 1) := by decide +kernel
theorem dX12_layLooks_32 : decode cX12_layLooks 32 = .ok (.getfield 34, 3) := by decide +kernel
theorem dX12_layLooks_35 : decode cX12_layLooks 35 = .ok (.iload_n 3, 1) := by decide +kernel
theorem dX12_layLooks_36 : decode cX12_layLooks 36 = .ok (.iload_n 3, 1) := by decide +kernel
theorem dX12_layLooks_37 : decode cX12_layLooks 37 = .ok (.aload_n 0, 1) := by decide +kernel
theorem dX12_layLooks_38 : decode cX12_layLooks 38 = .ok (.getfield 31, 3) := by decide +kernel
theorem dX12_layLooks_41 : decode cX12_layLooks 41 = .ok (.iconst 3, 1) := by decide +kernel
theorem dX12_layLooks_42 : decode cX12_layLooks 42 = .ok (.iload_n 2, 1) := by decide +kernel
theorem dX12_layLooks_43 : decode cX12_layLooks 43 = .ok (.imul, 1) := by decide +kernel
theorem dX12_layLooks_44 : decode cX12_layLooks 44 = .ok (.iconst 1, 1) := by decide +kernel
theorem dX12_layLooks_45 : decode cX12_layLooks 45 = .ok (.iadd, 1) := by decide +kernel
theorem dX12_layLooks_46 : decode cX12_layLooks 46 = .ok (.iaload, 1) := by decide +kernel
theorem dX12_layLooks_47 : decode cX12_layLooks 47 = .ok (.invokestatic 178, 3) := by decide +kernel
theorem dX12_layLooks_50 : decode cX12_layLooks 50 = .ok (.aload_n 0, 1) := by decide +kernel
theorem dX12_layLooks_51 : decode cX12_layLooks 51 = .ok (.getfield 31, 3) := by decide +kernel
theorem dX12_layLooks_54 : decode cX12_layLooks 54 = .ok (.iconst 3, 1) := by decide +kernel
theorem dX12_layLooks_55 : decode cX12_layLooks 55 = .ok (.iload_n 2, 1) := by decide +kernel
theorem dX12_layLooks_56 : decode cX12_layLooks 56 = .ok (.imul, 1) := by decide +kernel
theorem dX12_layLooks_57 : decode cX12_layLooks 57 = .ok (.iconst 2, 1) := by decide +kernel
theorem dX12_layLooks_58 : decode cX12_layLooks 58 = .ok (.iadd, 1) := by decide +kernel
theorem dX12_layLooks_59 : decode cX12_layLooks 59 = .ok (.iaload, 1) := by decide +kernel
theorem dX12_layLooks_60 : decode cX12_layLooks 60 = .ok (.if_icmp .ne 12, 3) := by decide +kernel
theorem dX12_layLooks_63 : decode cX12_layLooks 63 = .ok (.aload_n 0, 1) := by decide +kernel
theorem dX12_layLooks_64 : decode cX12_layLooks 64 = .ok (.getfield 34, 3) := by decide +kernel
theorem dX12_layLooks_67 : decode cX12_layLooks 67 = .ok (.iload_n 3, 1) := by decide +kernel
theorem dX12_layLooks_68 : decode cX12_layLooks 68 = .ok (.iaload, 1) := by decide +kernel
theorem dX12_layLooks_69 : decode cX12_layLooks 69 = .ok (.goto 4, 3) := by decide +kernel
theorem dX12_layLooks_72 : decode cX12_layLooks 72 = .ok (.iconst 0, 1) := by decide +kernel
theorem dX12_layLooks_73 : decode cX12_layLooks 73 = .ok (.iastore, 1) := by decide +kernel
theorem dX12_layLooks_74 : decode cX12_layLooks 74 = .ok (.iinc 3 1, 3) := by decide +kernel
theorem dX12_layLooks_77 : decode cX12_layLooks 77 = .ok (.goto (-65), 3) := by decide +kernel
theorem dX12_layLooks_80 : decode cX12_layLooks 80 = .ok (.iinc 2 1, 3) := by decide +kernel
theorem dX12_layLooks_83 : decode cX12_layLooks 83 = .ok (.goto (-81), 3) := by decide +kernel
theorem dX12_layLooks_86 : decode cX12_layLooks 86 = .ok (.return_, 1) := by decide +kernel
set_option maxRecDepth 20000 in
theorem ggX12_layWays_X12_layLooks : GoodIn wsX12_layWays wsX12_layLooks := goodIn_r _ [10, 11, 12, 1, 13, 14, 9, 15, 24, 25, 26, 27, 28, 29, 30, 31, 32, 33, 34, 35, 36, 37, 38, 39, 40, 41, 42, 43, 44, 45, 46, 47, 48, 49, 50, 51, 52, 53, 54, 55, 56] (by decide +kernel) (by decide +kernel)
set_option maxRecDepth 20000 in
theorem gX12_layWays_X12_layLooks : GoodIn wsX12_layWays (wsV RX12 181 RX12 yX12_layLooks wsX12_layLooks) := goodIn_app (goodIn_of _ (by decide +kernel)) ggX12_layWays_X12_layLooks
set_option maxRecDepth 20000 in
theorem ggX12_layWays_X12_doneBy : GoodIn wsX12_layWays wsX12_doneBy := goodIn_r _ [19, 20, 24, 25, 26, 27, 28, 29, 30, 31, 32, 33, 34, 35, 36, 37, 38, 39, 40, 41, 42, 43, 44, 45, 46, 47, 48, 49, 50, 51, 52, 53, 54, 55, 56] (by decide +kernel) (by decide +kernel)
set_option maxRecDepth 20000 in
theorem gX12_layWays_X12_doneBy : GoodIn wsX12_layWays (wsV RX12 108 RX12 yX12_doneBy wsX12_doneBy) := goodIn_app (goodIn_of _ (by decide +kernel)) ggX12_layWays_X12_doneBy
set_option maxRecDepth 20000 in
theorem ggX12_layWays_X12_copy : GoodIn wsX12_layWays wsX12_copy := goodIn_r _ [23] (by decide +kernel) (by decide +kernel)
set_option maxRecDepth 20000 in
theorem gX12_layWays_X12_copy : GoodIn wsX12_layWays (va_wsS RX12 112 yX12_copy wsX12_copy) := goodIn_app (goodIn_of _ (by decide +kernel)) ggX12_layWays_X12_copy
theorem dX12_layWays_0 : decode cX12_layWays 0 = .ok (.iconst 0, 1) := by decide +kernel
theorem dX12_layWays_1 : decode cX12_layWays 1 = .ok (.istore_n 2, 1) := by decide +kernel
theorem dX12_layWays_2 : decode cX12_layWays 2 = .ok (.iload_n 2, 1) := by decide +kernel
theorem dX12_layWays_3 : decode cX12_layWays 3 = .ok (.sipush 128, 3) := by decide +kernel
theorem dX12_layWays_6 : decode cX12_layWays 6 = .ok (.if_icmp .ge 16, 3) := by decide +kernel
theorem dX12_layWays_9 : decode cX12_layWays 9 = .ok (.aload_n 0, 1) := by decide +kernel
theorem dX12_layWays_10 : decode cX12_layWays 10 = .ok (.getfield 34, 3) := by decide +kernel
theorem dX12_layWays_13 : decode cX12_layWays 13 = .ok (.iload_n 2, 1) := by decide +kernel
theorem dX12_layWays_14 : decode cX12_layWays 14 = .ok (.iconst 0, 1) := by decide +kernel
theorem dX12_layWays_15 : decode cX12_layWays 15 = .ok (.iastore, 1) := by decide +kernel
theorem dX12_layWays_16 : decode cX12_layWays 16 = .ok (.iinc 2 1, 3) := by decide +kernel
theorem dX12_layWays_19 : decode cX12_layWays 19 = .ok (.goto (-17), 3) := by decide +kernel
theorem dX12_layWays_22 : decode cX12_layWays 22 = .ok (.aload_n 0, 1) := by decide +kernel
theorem dX12_layWays_23 : decode cX12_layWays 23 = .ok (.getfield 34, 3) := by decide +kernel
theorem dX12_layWays_26 : decode cX12_layWays 26 = .ok (.bipush 32, 2) := by decide +kernel
theorem dX12_layWays_28 : decode cX12_layWays 28 = .ok (.aload_n 0, 1) := by decide +kernel
theorem dX12_layWays_29 : decode cX12_layWays 29 = .ok (.getfield 90, 3) := by decide +kernel
theorem dX12_layWays_32 : decode cX12_layWays 32 = .ok (.imul, 1) := by decide +kernel
theorem dX12_layWays_33 : decode cX12_layWays 33 = .ok (.aload_n 0, 1) := by decide +kernel
theorem dX12_layWays_34 : decode cX12_layWays 34 = .ok (.getfield 93, 3) := by decide +kernel
theorem dX12_layWays_37 : decode cX12_layWays 37 = .ok (.iadd, 1) := by decide +kernel
theorem dX12_layWays_38 : decode cX12_layWays 38 = .ok (.iconst 1, 1) := by decide +kernel
theorem dX12_layWays_39 : decode cX12_layWays 39 = .ok (.iastore, 1) := by decide +kernel
theorem dX12_layWays_40 : decode cX12_layWays 40 = .ok (.aload_n 0, 1) := by decide +kernel
theorem dX12_layWays_41 : decode cX12_layWays 41 = .ok (.iconst 0, 1) := by decide +kernel
theorem dX12_layWays_42 : decode cX12_layWays 42 = .ok (.invokevirtual 181, 3) := by decide +kernel
theorem dX12_layWays_45 : decode cX12_layWays 45 = .ok (.iconst 1, 1) := by decide +kernel
theorem dX12_layWays_46 : decode cX12_layWays 46 = .ok (.istore_n 2, 1) := by decide +kernel
theorem dX12_layWays_47 : decode cX12_layWays 47 = .ok (.iload_n 2, 1) := by decide +kernel
theorem dX12_layWays_48 : decode cX12_layWays 48 = .ok (.iload_n 1, 1) := by decide +kernel
theorem dX12_layWays_49 : decode cX12_layWays 49 = .ok (.if_icmp .gt 132, 3) := by decide +kernel
theorem dX12_layWays_52 : decode cX12_layWays 52 = .ok (.iconst 0, 1) := by decide +kernel
theorem dX12_layWays_53 : decode cX12_layWays 53 = .ok (.istore_n 3, 1) := by decide +kernel
theorem dX12_layWays_54 : decode cX12_layWays 54 = .ok (.iload_n 3, 1) := by decide +kernel
theorem dX12_layWays_55 : decode cX12_layWays 55 = .ok (.sipush 128, 3) := by decide +kernel
theorem dX12_layWays_58 : decode cX12_layWays 58 = .ok (.if_icmp .ge 16, 3) := by decide +kernel
theorem dX12_layWays_61 : decode cX12_layWays 61 = .ok (.aload_n 0, 1) := by decide +kernel
theorem dX12_layWays_62 : decode cX12_layWays 62 = .ok (.getfield 37, 3) := by decide +kernel
theorem dX12_layWays_65 : decode cX12_layWays 65 = .ok (.iload_n 3, 1) := by decide +kernel
theorem dX12_layWays_66 : decode cX12_layWays 66 = .ok (.iconst 0, 1) := by decide +kernel
theorem dX12_layWays_67 : decode cX12_layWays 67 = .ok (.iastore, 1) := by decide +kernel
theorem dX12_layWays_68 : decode cX12_layWays 68 = .ok (.iinc 3 1, 3) := by decide +kernel
theorem dX12_layWays_71 : decode cX12_layWays 71 = .ok (.goto (-17), 3) := by decide +kernel
theorem dX12_layWays_74 : decode cX12_layWays 74 = .ok (.iconst 0, 1) := by decide +kernel
theorem dX12_layWays_75 : decode cX12_layWays 75 = .ok (.istore_n 3, 1) := by decide +kernel
theorem dX12_layWays_76 : decode cX12_layWays 76 = .ok (.iload_n 3, 1) := by decide +kernel
theorem dX12_layWays_77 : decode cX12_layWays 77 = .ok (.sipush 128, 3) := by decide +kernel
theorem dX12_layWays_80 : decode cX12_layWays 80 = .ok (.if_icmp .ge 79, 3) := by decide +kernel
theorem dX12_layWays_83 : decode cX12_layWays 83 = .ok (.iconst 0, 1) := by decide +kernel
theorem dX12_layWays_84 : decode cX12_layWays 84 = .ok (.istore 4, 2) := by decide +kernel
theorem dX12_layWays_86 : decode cX12_layWays 86 = .ok (.iload 4, 2) := by decide +kernel
theorem dX12_layWays_88 : decode cX12_layWays 88 = .ok (.aload_n 0, 1) := by decide +kernel
theorem dX12_layWays_89 : decode cX12_layWays 89 = .ok (.getfield 87, 3) := by decide +kernel
theorem dX12_layWays_92 : decode cX12_layWays 92 = .ok (.if_icmp .ge 61, 3) := by decide +kernel
theorem dX12_layWays_95 : decode cX12_layWays 95 = .ok (.aload_n 0, 1) := by decide +kernel
theorem dX12_layWays_96 : decode cX12_layWays 96 = .ok (.getfield 34, 3) := by decide +kernel
theorem dX12_layWays_99 : decode cX12_layWays 99 = .ok (.iload_n 3, 1) := by decide +kernel
theorem dX12_layWays_100 : decode cX12_layWays 100 = .ok (.iaload, 1) := by decide +kernel
theorem dX12_layWays_101 : decode cX12_layWays 101 = .ok (.ifCond .le 52, 3) := by decide +kernel
theorem dX12_layWays_104 : decode cX12_layWays 104 = .ok (.aload_n 0, 1) := by decide +kernel
theorem dX12_layWays_105 : decode cX12_layWays 105 = .ok (.getfield 37, 3) := by decide +kernel
theorem dX12_layWays_108 : decode cX12_layWays 108 = .ok (.bipush 32, 2) := by decide +kernel
theorem dX12_layWays_110 : decode cX12_layWays 110 = .ok (.iload 4, 2) := by decide +kernel
theorem dX12_layWays_112 : decode cX12_layWays 112 = .ok (.imul, 1) := by decide +kernel
theorem dX12_layWays_113 : decode cX12_layWays 113 = .ok (.aload_n 0, 1) := by decide +kernel
theorem dX12_layWays_114 : decode cX12_layWays 114 = .ok (.iload 4, 2) := by decide +kernel
theorem dX12_layWays_116 : decode cX12_layWays 116 = .ok (.iload_n 3, 1) := by decide +kernel
theorem dX12_layWays_117 : decode cX12_layWays 117 = .ok (.bipush 32, 2) := by decide +kernel
theorem dX12_layWays_119 : decode cX12_layWays 119 = .ok (.irem, 1) := by decide +kernel
theorem dX12_layWays_120 : decode cX12_layWays 120 = .ok (.invokevirtual 108, 3) := by decide +kernel
theorem dX12_layWays_123 : decode cX12_layWays 123 = .ok (.iadd, 1) := by decide +kernel
theorem dX12_layWays_124 : decode cX12_layWays 124 = .ok (.dup2, 1) := by decide +kernel
theorem dX12_layWays_125 : decode cX12_layWays 125 = .ok (.iaload, 1) := by decide +kernel
theorem dX12_layWays_126 : decode cX12_layWays 126 = .ok (.iload 4, 2) := by decide +kernel
theorem dX12_layWays_128 : decode cX12_layWays 128 = .ok (.iload_n 3, 1) := by decide +kernel
theorem dX12_layWays_129 : decode cX12_layWays 129 = .ok (.bipush 32, 2) := by decide +kernel
theorem dX12_layWays_131 : decode cX12_layWays 131 = .ok (.idiv, 1) := by decide +kernel
theorem dX12_layWays_132 : decode cX12_layWays 132 = .ok (.if_icmp .ne 7, 3) := by decide +kernel
theorem dX12_layWays_135 : decode cX12_layWays 135 = .ok (.iconst 0, 1) := by decide +kernel
theorem dX12_layWays_136 : decode cX12_layWays 136 = .ok (.goto 9, 3) := by decide +kernel
theorem dX12_layWays_139 : decode cX12_layWays 139 = .ok (.aload_n 0, 1) := by decide +kernel
theorem dX12_layWays_140 : decode cX12_layWays 140 = .ok (.getfield 34, 3) := by decide +kernel
theorem dX12_layWays_143 : decode cX12_layWays 143 = .ok (.iload_n 3, 1) := by decide +kernel
theorem dX12_layWays_144 : decode cX12_layWays 144 = .ok (.iaload, 1) := by decide +kernel
theorem dX12_layWays_145 : decode cX12_layWays 145 = .ok (.iadd, 1) := by decide +kernel
theorem dX12_layWays_146 : decode cX12_layWays 146 = .ok (.iastore, 1) := by decide +kernel
theorem dX12_layWays_147 : decode cX12_layWays 147 = .ok (.iinc 4 1, 3) := by decide +kernel
theorem dX12_layWays_150 : decode cX12_layWays 150 = .ok (.goto (-64), 3) := by decide +kernel
theorem dX12_layWays_153 : decode cX12_layWays 153 = .ok (.iinc 3 1, 3) := by decide +kernel
theorem dX12_layWays_156 : decode cX12_layWays 156 = .ok (.goto (-80), 3) := by decide +kernel
theorem dX12_layWays_159 : decode cX12_layWays 159 = .ok (.aload_n 0, 1) := by decide +kernel
theorem dX12_layWays_160 : decode cX12_layWays 160 = .ok (.getfield 37, 3) := by decide +kernel
theorem dX12_layWays_163 : decode cX12_layWays 163 = .ok (.aload_n 0, 1) := by decide +kernel
theorem dX12_layWays_164 : decode cX12_layWays 164 = .ok (.getfield 34, 3) := by decide +kernel
theorem dX12_layWays_167 : decode cX12_layWays 167 = .ok (.invokestatic 112, 3) := by decide +kernel
theorem dX12_layWays_170 : decode cX12_layWays 170 = .ok (.aload_n 0, 1) := by decide +kernel
theorem dX12_layWays_171 : decode cX12_layWays 171 = .ok (.iload_n 2, 1) := by decide +kernel
theorem dX12_layWays_172 : decode cX12_layWays 172 = .ok (.invokevirtual 181, 3) := by decide +kernel
theorem dX12_layWays_175 : decode cX12_layWays 175 = .ok (.iinc 2 1, 3) := by decide +kernel
theorem dX12_layWays_178 : decode cX12_layWays 178 = .ok (.goto (-131), 3) := by decide +kernel
theorem dX12_layWays_181 : decode cX12_layWays 181 = .ok (.return_, 1) := by decide +kernel
set_option maxRecDepth 20000 in
theorem ggX12_rowsOf_X12_layWays : GoodIn wsX12_rowsOf wsX12_layWays := goodIn_r _ [6, 1, 7, 8, 9, 10, 11, 12, 13, 5, 14, 15, 16, 17, 18, 19, 20, 21, 22, 23, 24, 25, 26, 27, 28, 29, 30, 31, 32, 33, 34, 35, 36, 37, 38, 39, 40, 41, 42, 43, 44, 45, 46, 47, 48, 49, 50, 51, 52, 53, 54, 55, 56, 57, 58, 59, 60] (by decide +kernel) (by decide +kernel)
set_option maxRecDepth 20000 in
theorem gX12_rowsOf_X12_layWays : GoodIn wsX12_rowsOf (wsV RX12 184 RX12 yX12_layWays wsX12_layWays) := goodIn_app (goodIn_of _ (by decide +kernel)) ggX12_rowsOf_X12_layWays
theorem dX12_rowsOf_0 : decode cX12_rowsOf 0 = .ok (.aload_n 0, 1) := by decide +kernel
theorem dX12_rowsOf_1 : decode cX12_rowsOf 1 = .ok (.iload_n 1, 1) := by decide +kernel
theorem dX12_rowsOf_2 : decode cX12_rowsOf 2 = .ok (.invokevirtual 184, 3) := by decide +kernel
theorem dX12_rowsOf_5 : decode cX12_rowsOf 5 = .ok (.iconst 0, 1) := by decide +kernel
theorem dX12_rowsOf_6 : decode cX12_rowsOf 6 = .ok (.istore_n 3, 1) := by decide +kernel
theorem dX12_rowsOf_7 : decode cX12_rowsOf 7 = .ok (.iconst 0, 1) := by decide +kernel
theorem dX12_rowsOf_8 : decode cX12_rowsOf 8 = .ok (.istore 4, 2) := by decide +kernel
theorem dX12_rowsOf_10 : decode cX12_rowsOf 10 = .ok (.iconst 0, 1) := by decide +kernel
theorem dX12_rowsOf_11 : decode cX12_rowsOf 11 = .ok (.istore 5, 2) := by decide +kernel
theorem dX12_rowsOf_13 : decode cX12_rowsOf 13 = .ok (.iload 5, 2) := by decide +kernel
theorem dX12_rowsOf_15 : decode cX12_rowsOf 15 = .ok (.sipush 128, 3) := by decide +kernel
theorem dX12_rowsOf_18 : decode cX12_rowsOf 18 = .ok (.if_icmp .ge 45, 3) := by decide +kernel
theorem dX12_rowsOf_21 : decode cX12_rowsOf 21 = .ok (.iload_n 3, 1) := by decide +kernel
theorem dX12_rowsOf_22 : decode cX12_rowsOf 22 = .ok (.aload_n 0, 1) := by decide +kernel
theorem dX12_rowsOf_23 : decode cX12_rowsOf 23 = .ok (.getfield 34, 3) := by decide +kernel
theorem dX12_rowsOf_26 : decode cX12_rowsOf 26 = .ok (.iload 5, 2) := by decide +kernel
theorem dX12_rowsOf_28 : decode cX12_rowsOf 28 = .ok (.iaload, 1) := by decide +kernel
theorem dX12_rowsOf_29 : decode cX12_rowsOf 29 = .ok (.iadd, 1) := by decide +kernel
theorem dX12_rowsOf_30 : decode cX12_rowsOf 30 = .ok (.istore_n 3, 1) := by decide +kernel
theorem dX12_rowsOf_31 : decode cX12_rowsOf 31 = .ok (.iload 4, 2) := by decide +kernel
theorem dX12_rowsOf_33 : decode cX12_rowsOf 33 = .ok (.aload_n 0, 1) := by decide +kernel
theorem dX12_rowsOf_34 : decode cX12_rowsOf 34 = .ok (.getfield 34, 3) := by decide +kernel
theorem dX12_rowsOf_37 : decode cX12_rowsOf 37 = .ok (.iload 5, 2) := by decide +kernel
theorem dX12_rowsOf_39 : decode cX12_rowsOf 39 = .ok (.iaload, 1) := by decide +kernel
theorem dX12_rowsOf_40 : decode cX12_rowsOf 40 = .ok (.ifCond .le 13, 3) := by decide +kernel
theorem dX12_rowsOf_43 : decode cX12_rowsOf 43 = .ok (.iconst 1, 1) := by decide +kernel
theorem dX12_rowsOf_44 : decode cX12_rowsOf 44 = .ok (.iload 5, 2) := by decide +kernel
theorem dX12_rowsOf_46 : decode cX12_rowsOf 46 = .ok (.bipush 32, 2) := by decide +kernel
theorem dX12_rowsOf_48 : decode cX12_rowsOf 48 = .ok (.idiv, 1) := by decide +kernel
theorem dX12_rowsOf_49 : decode cX12_rowsOf 49 = .ok (.ishl, 1) := by decide +kernel
theorem dX12_rowsOf_50 : decode cX12_rowsOf 50 = .ok (.goto 4, 3) := by decide +kernel
theorem dX12_rowsOf_53 : decode cX12_rowsOf 53 = .ok (.iconst 0, 1) := by decide +kernel
theorem dX12_rowsOf_54 : decode cX12_rowsOf 54 = .ok (.ior, 1) := by decide +kernel
theorem dX12_rowsOf_55 : decode cX12_rowsOf 55 = .ok (.istore 4, 2) := by decide +kernel
theorem dX12_rowsOf_57 : decode cX12_rowsOf 57 = .ok (.iinc 5 1, 3) := by decide +kernel
theorem dX12_rowsOf_60 : decode cX12_rowsOf 60 = .ok (.goto (-47), 3) := by decide +kernel
theorem dX12_rowsOf_63 : decode cX12_rowsOf 63 = .ok (.iload_n 2, 1) := by decide +kernel
theorem dX12_rowsOf_64 : decode cX12_rowsOf 64 = .ok (.ifCond .ne 7, 3) := by decide +kernel
theorem dX12_rowsOf_67 : decode cX12_rowsOf 67 = .ok (.iload_n 3, 1) := by decide +kernel
theorem dX12_rowsOf_68 : decode cX12_rowsOf 68 = .ok (.goto 5, 3) := by decide +kernel
theorem dX12_rowsOf_71 : decode cX12_rowsOf 71 = .ok (.iload 4, 2) := by decide +kernel
theorem dX12_rowsOf_73 : decode cX12_rowsOf 73 = .ok (.ireturn, 1) := by decide +kernel
set_option maxRecDepth 20000 in
theorem ggX12_rows_X12_in : GoodIn wsX12_rows wsX12_in := goodIn_r _ [5] (by decide +kernel) (by decide +kernel)
set_option maxRecDepth 20000 in
theorem gX12_rows_X12_in : GoodIn wsX12_rows (va_wsS RX12 55 yX12_in wsX12_in) := goodIn_app (goodIn_of _ (by decide +kernel)) ggX12_rows_X12_in
set_option maxRecDepth 20000 in
theorem ggX12_rows_X12_lacks : GoodIn wsX12_rows wsX12_lacks := goodIn_r _ [9, 10, 40, 41, 42, 43, 44, 45, 46, 47, 48, 49, 50, 51, 52, 53, 54, 55, 56, 57, 58, 59, 60, 61, 62, 63, 64, 65, 66, 67, 68, 69, 70, 71, 72] (by decide +kernel) (by decide +kernel)
set_option maxRecDepth 20000 in
theorem gX12_rows_X12_lacks : GoodIn wsX12_rows (wsV RX12 167 RX12 yX12_lacks wsX12_lacks) := goodIn_app (goodIn_of _ (by decide +kernel)) ggX12_rows_X12_lacks
set_option maxRecDepth 20000 in
theorem ggX12_rows_X12_rowsOf : GoodIn wsX12_rows wsX12_rowsOf := goodIn_r _ [14, 15, 16, 17, 18, 4, 19, 20, 21, 22, 10, 23, 24, 25, 26, 27, 28, 29, 30, 31, 32, 33, 34, 35, 36, 37, 38, 39, 40, 41, 42, 43, 44, 45, 46, 47, 48, 49, 50, 51, 52, 53, 54, 55, 56, 57, 58, 59, 60, 61, 62, 63, 64, 65, 66, 67, 68, 69, 70, 71, 72] (by decide +kernel) (by decide +kernel)
set_option maxRecDepth 20000 in
theorem gX12_rows_X12_rowsOf : GoodIn wsX12_rows (wsV RX12 187 RX12 yX12_rowsOf wsX12_rowsOf) := goodIn_app (goodIn_of _ (by decide +kernel)) ggX12_rows_X12_rowsOf
theorem dX12_rows_0 : decode cX12_rows 0 = .ok (.iload_n 1, 1) := by decide +kernel
theorem dX12_rows_1 : decode cX12_rows 1 = .ok (.i2l, 1) := by decide +kernel
theorem dX12_rows_2 : decode cX12_rows 2 = .ok (.lconst 0, 1) := by decide +kernel
theorem dX12_rows_3 : decode cX12_rows 3 = .ok (.ldc2_w 174, 3) := by decide +kernel
theorem dX12_rows_6 : decode cX12_rows 6 = .ok (.invokestatic 55, 3) := by decide +kernel
theorem dX12_rows_9 : decode cX12_rows 9 = .ok (.ifCond .eq 13, 3) := by decide +kernel
theorem dX12_rows_12 : decode cX12_rows 12 = .ok (.iload_n 2, 1) := by decide +kernel
theorem dX12_rows_13 : decode cX12_rows 13 = .ok (.i2l, 1) := by decide +kernel
theorem dX12_rows_14 : decode cX12_rows 14 = .ok (.lconst 0, 1) := by decide +kernel
theorem dX12_rows_15 : decode cX12_rows 15 = .ok (.lconst 1, 1) := by decide +kernel
theorem dX12_rows_16 : decode cX12_rows 16 = .ok (.invokestatic 55, 3) := by decide +kernel
theorem dX12_rows_19 : decode cX12_rows 19 = .ok (.ifCond .ne 6, 3) := by decide +kernel
theorem dX12_rows_22 : decode cX12_rows 22 = .ok (.bipush (-102), 2) := by decide +kernel
theorem dX12_rows_24 : decode cX12_rows 24 = .ok (.ireturn, 1) := by decide +kernel
theorem dX12_rows_25 : decode cX12_rows 25 = .ok (.aload_n 0, 1) := by decide +kernel
theorem dX12_rows_26 : decode cX12_rows 26 = .ok (.invokevirtual 167, 3) := by decide +kernel
theorem dX12_rows_29 : decode cX12_rows 29 = .ok (.ifCond .eq 8, 3) := by decide +kernel
theorem dX12_rows_32 : decode cX12_rows 32 = .ok (.bipush (-103), 2) := by decide +kernel
theorem dX12_rows_34 : decode cX12_rows 34 = .ok (.goto 9, 3) := by decide +kernel
theorem dX12_rows_37 : decode cX12_rows 37 = .ok (.aload_n 0, 1) := by decide +kernel
theorem dX12_rows_38 : decode cX12_rows 38 = .ok (.iload_n 1, 1) := by decide +kernel
theorem dX12_rows_39 : decode cX12_rows 39 = .ok (.iload_n 2, 1) := by decide +kernel
theorem dX12_rows_40 : decode cX12_rows 40 = .ok (.invokevirtual 187, 3) := by decide +kernel
theorem dX12_rows_43 : decode cX12_rows 43 = .ok (.ireturn, 1) := by decide +kernel
set_option maxRecDepth 20000 in
theorem ggX12_nextOf_X12_layWays : GoodIn wsX12_nextOf wsX12_layWays := goodIn_r _ [7, 2, 8, 9, 10, 11, 12, 13, 14, 6, 15, 16, 17, 18, 19, 20, 21, 22, 23, 24, 25, 26, 27, 28, 29, 30, 31, 32, 33, 34, 35, 36, 37, 38, 39, 40, 41, 42, 43, 44, 45, 46, 47, 48, 49, 50, 51, 52, 53, 54, 55, 56, 57, 58, 59, 60, 61] (by decide +kernel) (by decide +kernel)
set_option maxRecDepth 20000 in
theorem gX12_nextOf_X12_layWays : GoodIn wsX12_nextOf (wsV RX12 184 RX12 yX12_layWays wsX12_layWays) := goodIn_app (goodIn_of _ (by decide +kernel)) ggX12_nextOf_X12_layWays
set_option maxRecDepth 20000 in
theorem ggX12_nextOf_X12_seenAt : GoodIn wsX12_nextOf wsX12_seenAt := goodIn_r _ [20] (by decide +kernel) (by decide +kernel)
set_option maxRecDepth 20000 in
theorem gX12_nextOf_X12_seenAt : GoodIn wsX12_nextOf (va_wsS RX12 178 yX12_seenAt wsX12_seenAt) := goodIn_app (goodIn_of _ (by decide +kernel)) ggX12_nextOf_X12_seenAt
theorem dX12_nextOf_0 : decode cX12_nextOf 0 = .ok (.aload_n 0, 1) := by decide +kernel
theorem dX12_nextOf_1 : decode cX12_nextOf 1 = .ok (.iload_n 1, 1) := by decide +kernel
theorem dX12_nextOf_2 : decode cX12_nextOf 2 = .ok (.invokevirtual 184, 3) := by decide +kernel
theorem dX12_nextOf_5 : decode cX12_nextOf 5 = .ok (.iconst (-1), 1) := by decide +kernel
theorem dX12_nextOf_6 : decode cX12_nextOf 6 = .ok (.istore_n 2, 1) := by decide +kernel
theorem dX12_nextOf_7 : decode cX12_nextOf 7 = .ok (.iconst (-1), 1) := by decide +kernel
theorem dX12_nextOf_8 : decode cX12_nextOf 8 = .ok (.istore_n 3, 1) := by decide +kernel
theorem dX12_nextOf_9 : decode cX12_nextOf 9 = .ok (.iconst 0, 1) := by decide +kernel
theorem dX12_nextOf_10 : decode cX12_nextOf 10 = .ok (.istore 4, 2) := by decide +kernel
theorem dX12_nextOf_12 : decode cX12_nextOf 12 = .ok (.iload 4, 2) := by decide +kernel
theorem dX12_nextOf_14 : decode cX12_nextOf 14 = .ok (.iconst 3, 1) := by decide +kernel
theorem dX12_nextOf_15 : decode cX12_nextOf 15 = .ok (.if_icmp .ge 164, 3) := by decide +kernel
theorem dX12_nextOf_18 : decode cX12_nextOf 18 = .ok (.iconst 0, 1) := by decide +kernel
theorem dX12_nextOf_19 : decode cX12_nextOf 19 = .ok (.istore 5, 2) := by decide +kernel
theorem dX12_nextOf_21 : decode cX12_nextOf 21 = .ok (.iload 5, 2) := by decide +kernel
theorem dX12_nextOf_23 : decode cX12_nextOf 23 = .ok (.bipush 8, 2) := by decide +kernel
theorem dX12_nextOf_25 : decode cX12_nextOf 25 = .ok (.if_icmp .ge 17, 3) := by decide +kernel
theorem dX12_nextOf_28 : decode cX12_nextOf 28 = .ok (.aload_n 0, 1) := by decide +kernel
theorem dX12_nextOf_29 : decode cX12_nextOf 29 = .ok (.getfield 40, 3) := by decide +kernel
theorem dX12_nextOf_32 : decode cX12_nextOf 32 = .ok (.iload 5, 2) := by decide +kernel
theorem dX12_nextOf_34 : decode cX12_nextOf 34 = .ok (.iconst 0, 1) := by decide +kernel
theorem dX12_nextOf_35 : decode cX12_nextOf 35 = .ok (.iastore, 1) := by decide +kernel
theorem dX12_nextOf_36 : decode cX12_nextOf 36 = .ok (.iinc 5 1, 3) := by decide +kernel
theorem dX12_nextOf_39 : decode cX12_nextOf 39 = .ok (.goto (-18), 3) := by decide +kernel
theorem dX12_nextOf_42 : decode cX12_nextOf 42 = .ok (.iconst 0, 1) := by decide +kernel
theorem dX12_nextOf_43 : decode cX12_nextOf 43 = .ok (.istore 5, 2) := by decide +kernel
theorem dX12_nextOf_45 : decode cX12_nextOf 45 = .ok (.iload 5, 2) := by decide +kernel
theorem dX12_nextOf_47 : decode cX12_nextOf 47 = .ok (.sipush 128, 3) := by decide +kernel
theorem dX12_nextOf_50 : decode cX12_nextOf 50 = .ok (.if_icmp .ge 31, 3) := by decide +kernel
theorem dX12_nextOf_53 : decode cX12_nextOf 53 = .ok (.aload_n 0, 1) := by decide +kernel
theorem dX12_nextOf_54 : decode cX12_nextOf 54 = .ok (.getfield 40, 3) := by decide +kernel
theorem dX12_nextOf_57 : decode cX12_nextOf 57 = .ok (.iload 5, 2) := by decide +kernel
theorem dX12_nextOf_59 : decode cX12_nextOf 59 = .ok (.iload 4, 2) := by decide +kernel
theorem dX12_nextOf_61 : decode cX12_nextOf 61 = .ok (.invokestatic 178, 3) := by decide +kernel
theorem dX12_nextOf_64 : decode cX12_nextOf 64 = .ok (.dup2, 1) := by decide +kernel
theorem dX12_nextOf_65 : decode cX12_nextOf 65 = .ok (.iaload, 1) := by decide +kernel
theorem dX12_nextOf_66 : decode cX12_nextOf 66 = .ok (.aload_n 0, 1) := by decide +kernel
theorem dX12_nextOf_67 : decode cX12_nextOf 67 = .ok (.getfield 34, 3) := by decide +kernel
theorem dX12_nextOf_70 : decode cX12_nextOf 70 = .ok (.iload 5, 2) := by decide +kernel
theorem dX12_nextOf_72 : decode cX12_nextOf 72 = .ok (.iaload, 1) := by decide +kernel
theorem dX12_nextOf_73 : decode cX12_nextOf 73 = .ok (.iadd, 1) := by decide +kernel
theorem dX12_nextOf_74 : decode cX12_nextOf 74 = .ok (.iastore, 1) := by decide +kernel
theorem dX12_nextOf_75 : decode cX12_nextOf 75 = .ok (.iinc 5 1, 3) := by decide +kernel
theorem dX12_nextOf_78 : decode cX12_nextOf 78 = .ok (.goto (-33), 3) := by decide +kernel
theorem dX12_nextOf_81 : decode cX12_nextOf 81 = .ok (.iconst 0, 1) := by decide +kernel
theorem dX12_nextOf_82 : decode cX12_nextOf 82 = .ok (.istore 5, 2) := by decide +kernel
theorem dX12_nextOf_84 : decode cX12_nextOf 84 = .ok (.iconst 0, 1) := by decide +kernel
theorem dX12_nextOf_85 : decode cX12_nextOf 85 = .ok (.istore 6, 2) := by decide +kernel
theorem dX12_nextOf_87 : decode cX12_nextOf 87 = .ok (.iload 6, 2) := by decide +kernel
theorem dX12_nextOf_89 : decode cX12_nextOf 89 = .ok (.bipush 8, 2) := by decide +kernel
theorem dX12_nextOf_91 : decode cX12_nextOf 91 = .ok (.if_icmp .ge 35, 3) := by decide +kernel
theorem dX12_nextOf_94 : decode cX12_nextOf 94 = .ok (.aload_n 0, 1) := by decide +kernel
theorem dX12_nextOf_95 : decode cX12_nextOf 95 = .ok (.getfield 40, 3) := by decide +kernel
theorem dX12_nextOf_98 : decode cX12_nextOf 98 = .ok (.iload 6, 2) := by decide +kernel
theorem dX12_nextOf_100 : decode cX12_nextOf 100 = .ok (.iaload, 1) := by decide +kernel
theorem dX12_nextOf_101 : decode cX12_nextOf 101 = .ok (.iload 5, 2) := by decide +kernel
theorem dX12_nextOf_103 : decode cX12_nextOf 103 = .ok (.if_icmp .le 13, 3) := by decide +kernel
theorem dX12_nextOf_106 : decode cX12_nextOf 106 = .ok (.aload_n 0, 1) := by decide +kernel
theorem dX12_nextOf_107 : decode cX12_nextOf 107 = .ok (.getfield 40, 3) := by decide +kernel
theorem dX12_nextOf_110 : decode cX12_nextOf 110 = .ok (.iload 6, 2) := by decide +kernel
theorem dX12_nextOf_112 : decode cX12_nextOf 112 = .ok (.iaload, 1) := by decide +kernel
theorem dX12_nextOf_113 : decode cX12_nextOf 113 = .ok (.goto 5, 3) := by decide +kernel
theorem dX12_nextOf_116 : decode cX12_nextOf 116 = .ok (.iload 5, 2) := by decide +kernel
theorem dX12_nextOf_118 : decode cX12_nextOf 118 = .ok (.istore 5, 2) := by decide +kernel
theorem dX12_nextOf_120 : decode cX12_nextOf 120 = .ok (.iinc 6 1, 3) := by decide +kernel
theorem dX12_nextOf_123 : decode cX12_nextOf 123 = .ok (.goto (-36), 3) := by decide +kernel
theorem dX12_nextOf_126 : decode cX12_nextOf 126 = .ok (.iload 5, 2) := by decide +kernel
theorem dX12_nextOf_128 : decode cX12_nextOf 128 = .ok (.ifCond .le 18, 3) := by decide +kernel
theorem dX12_nextOf_131 : decode cX12_nextOf 131 = .ok (.iload_n 2, 1) := by decide +kernel
theorem dX12_nextOf_132 : decode cX12_nextOf 132 = .ok (.iconst (-1), 1) := by decide +kernel
theorem dX12_nextOf_133 : decode cX12_nextOf 133 = .ok (.if_icmp .eq 9, 3) := by decide +kernel
theorem dX12_nextOf_136 : decode cX12_nextOf 136 = .ok (.iload 5, 2) := by decide +kernel
theorem dX12_nextOf_138 : decode cX12_nextOf 138 = .ok (.iload_n 3, 1) := by decide +kernel
theorem dX12_nextOf_139 : decode cX12_nextOf 139 = .ok (.if_icmp .ge 7, 3) := by decide +kernel
theorem dX12_nextOf_142 : decode cX12_nextOf 142 = .ok (.iconst 1, 1) := by decide +kernel
theorem dX12_nextOf_143 : decode cX12_nextOf 143 = .ok (.goto 4, 3) := by decide +kernel
theorem dX12_nextOf_146 : decode cX12_nextOf 146 = .ok (.iconst 0, 1) := by decide +kernel
theorem dX12_nextOf_147 : decode cX12_nextOf 147 = .ok (.istore 6, 2) := by decide +kernel
theorem dX12_nextOf_149 : decode cX12_nextOf 149 = .ok (.iload 6, 2) := by decide +kernel
theorem dX12_nextOf_151 : decode cX12_nextOf 151 = .ok (.ifCond .eq 8, 3) := by decide +kernel
theorem dX12_nextOf_154 : decode cX12_nextOf 154 = .ok (.iload 4, 2) := by decide +kernel
theorem dX12_nextOf_156 : decode cX12_nextOf 156 = .ok (.goto 4, 3) := by decide +kernel
theorem dX12_nextOf_159 : decode cX12_nextOf 159 = .ok (.iload_n 2, 1) := by decide +kernel
theorem dX12_nextOf_160 : decode cX12_nextOf 160 = .ok (.istore_n 2, 1) := by decide +kernel
theorem dX12_nextOf_161 : decode cX12_nextOf 161 = .ok (.iload 6, 2) := by decide +kernel
theorem dX12_nextOf_163 : decode cX12_nextOf 163 = .ok (.ifCond .eq 8, 3) := by decide +kernel
theorem dX12_nextOf_166 : decode cX12_nextOf 166 = .ok (.iload 5, 2) := by decide +kernel
theorem dX12_nextOf_168 : decode cX12_nextOf 168 = .ok (.goto 4, 3) := by decide +kernel
theorem dX12_nextOf_171 : decode cX12_nextOf 171 = .ok (.iload_n 3, 1) := by decide +kernel
theorem dX12_nextOf_172 : decode cX12_nextOf 172 = .ok (.istore_n 3, 1) := by decide +kernel
theorem dX12_nextOf_173 : decode cX12_nextOf 173 = .ok (.iinc 4 1, 3) := by decide +kernel
theorem dX12_nextOf_176 : decode cX12_nextOf 176 = .ok (.goto (-164), 3) := by decide +kernel
theorem dX12_nextOf_179 : decode cX12_nextOf 179 = .ok (.iload_n 2, 1) := by decide +kernel
theorem dX12_nextOf_180 : decode cX12_nextOf 180 = .ok (.ireturn, 1) := by decide +kernel
set_option maxRecDepth 20000 in
theorem ggX12_lookNext_X12_in : GoodIn wsX12_lookNext wsX12_in := goodIn_r _ [5] (by decide +kernel) (by decide +kernel)
set_option maxRecDepth 20000 in
theorem gX12_lookNext_X12_in : GoodIn wsX12_lookNext (va_wsS RX12 55 yX12_in wsX12_in) := goodIn_app (goodIn_of _ (by decide +kernel)) ggX12_lookNext_X12_in
set_option maxRecDepth 20000 in
theorem ggX12_lookNext_X12_lacks : GoodIn wsX12_lookNext wsX12_lacks := goodIn_r _ [9, 10, 41, 42, 43, 44, 45, 46, 47, 48, 49, 50, 51, 52, 53, 54, 55, 56, 57, 58, 59, 60, 61, 62, 63, 64, 65, 66, 67, 68, 69, 70, 71, 72, 73] (by decide +kernel) (by decide +kernel)
set_option maxRecDepth 20000 in
theorem gX12_lookNext_X12_lacks : GoodIn wsX12_lookNext (wsV RX12 167 RX12 yX12_lacks wsX12_lacks) := goodIn_app (goodIn_of _ (by decide +kernel)) ggX12_lookNext_X12_lacks
set_option maxRecDepth 20000 in
theorem ggX12_lookNext_X12_nextOf : GoodIn wsX12_lookNext wsX12_nextOf := goodIn_r _ [14, 15, 16, 17, 18, 19, 4, 20, 21, 22, 23, 10, 24, 25, 26, 27, 28, 29, 30, 31, 32, 33, 34, 35, 36, 37, 38, 39, 40, 41, 42, 43, 44, 45, 46, 47, 48, 49, 50, 51, 52, 53, 54, 55, 56, 57, 58, 59, 60, 61, 62, 63, 64, 65, 66, 67, 68, 69, 70, 71, 72, 73] (by decide +kernel) (by decide +kernel)
set_option maxRecDepth 20000 in
theorem gX12_lookNext_X12_nextOf : GoodIn wsX12_lookNext (wsV RX12 190 RX12 yX12_nextOf wsX12_nextOf) := goodIn_app (goodIn_of _ (by decide +kernel)) ggX12_lookNext_X12_nextOf
theorem dX12_lookNext_0 : decode cX12_lookNext 0 = .ok (.iload_n 1, 1) := by decide +kernel
theorem dX12_lookNext_1 : decode cX12_lookNext 1 = .ok (.i2l, 1) := by decide +kernel
theorem dX12_lookNext_2 : decode cX12_lookNext 2 = .ok (.lconst 0, 1) := by decide +kernel
theorem dX12_lookNext_3 : decode cX12_lookNext 3 = .ok (.ldc2_w 174, 3) := by decide +kernel
theorem dX12_lookNext_6 : decode cX12_lookNext 6 = .ok (.invokestatic 55, 3) := by decide +kernel
theorem dX12_lookNext_9 : decode cX12_lookNext 9 = .ok (.ifCond .ne 6, 3) := by decide +kernel
theorem dX12_lookNext_12 : decode cX12_lookNext 12 = .ok (.bipush (-102), 2) := by decide +kernel
theorem dX12_lookNext_14 : decode cX12_lookNext 14 = .ok (.ireturn, 1) := by decide +kernel
theorem dX12_lookNext_15 : decode cX12_lookNext 15 = .ok (.aload_n 0, 1) := by decide +kernel
theorem dX12_lookNext_16 : decode cX12_lookNext 16 = .ok (.invokevirtual 167, 3) := by decide +kernel
theorem dX12_lookNext_19 : decode cX12_lookNext 19 = .ok (.ifCond .eq 8, 3) := by decide +kernel
theorem dX12_lookNext_22 : decode cX12_lookNext 22 = .ok (.bipush (-103), 2) := by decide +kernel
theorem dX12_lookNext_24 : decode cX12_lookNext 24 = .ok (.goto 8, 3) := by decide +kernel
theorem dX12_lookNext_27 : decode cX12_lookNext 27 = .ok (.aload_n 0, 1) := by decide +kernel
theorem dX12_lookNext_28 : decode cX12_lookNext 28 = .ok (.iload_n 1, 1) := by decide +kernel
theorem dX12_lookNext_29 : decode cX12_lookNext 29 = .ok (.invokevirtual 190, 3) := by decide +kernel
theorem dX12_lookNext_32 : decode cX12_lookNext 32 = .ok (.ireturn, 1) := by decide +kernel
theorem dX12_draw_0 : decode cX12_draw 0 = .ok (.aload_n 0, 1) := by decide +kernel
theorem dX12_draw_1 : decode cX12_draw 1 = .ok (.ldc2_w 193, 3) := by decide +kernel
theorem dX12_draw_4 : decode cX12_draw 4 = .ok (.aload_n 0, 1) := by decide +kernel
theorem dX12_draw_5 : decode cX12_draw 5 = .ok (.getfield 195, 3) := by decide +kernel
theorem dX12_draw_8 : decode cX12_draw 8 = .ok (.i2l, 1) := by decide +kernel
theorem dX12_draw_9 : decode cX12_draw 9 = .ok (.lmul, 1) := by decide +kernel
theorem dX12_draw_10 : decode cX12_draw 10 = .ok (.ldc2_w 198, 3) := by decide +kernel
theorem dX12_draw_13 : decode cX12_draw 13 = .ok (.ladd, 1) := by decide +kernel
theorem dX12_draw_14 : decode cX12_draw 14 = .ok (.ldc2_w 200, 3) := by decide +kernel
theorem dX12_draw_17 : decode cX12_draw 17 = .ok (.land, 1) := by decide +kernel
theorem dX12_draw_18 : decode cX12_draw 18 = .ok (.l2i, 1) := by decide +kernel
theorem dX12_draw_19 : decode cX12_draw 19 = .ok (.putfield 195, 3) := by decide +kernel
theorem dX12_draw_22 : decode cX12_draw 22 = .ok (.aload_n 0, 1) := by decide +kernel
theorem dX12_draw_23 : decode cX12_draw 23 = .ok (.getfield 195, 3) := by decide +kernel
theorem dX12_draw_26 : decode cX12_draw 26 = .ok (.ldc 202, 2) := by decide +kernel
theorem dX12_draw_28 : decode cX12_draw 28 = .ok (.idiv, 1) := by decide +kernel
theorem dX12_draw_29 : decode cX12_draw 29 = .ok (.iload_n 1, 1) := by decide +kernel
theorem dX12_draw_30 : decode cX12_draw 30 = .ok (.irem, 1) := by decide +kernel
theorem dX12_draw_31 : decode cX12_draw 31 = .ok (.ireturn, 1) := by decide +kernel
set_option maxRecDepth 20000 in
theorem ggX12_seasons_X12_in : GoodIn wsX12_seasons wsX12_in := goodIn_r _ [10] (by decide +kernel) (by decide +kernel)
set_option maxRecDepth 20000 in
theorem gX12_seasons_X12_in : GoodIn wsX12_seasons (va_wsS RX12 55 yX12_in wsX12_in) := goodIn_app (goodIn_of _ (by decide +kernel)) ggX12_seasons_X12_in
set_option maxRecDepth 20000 in
theorem ggX12_seasons_X12_lacks : GoodIn wsX12_seasons wsX12_lacks := goodIn_r _ [14, 4, 56, 57, 58, 59, 60, 61, 62, 63, 64, 65, 66, 67, 68, 69, 70, 71, 72, 73, 74, 75, 76, 77, 78, 79, 80, 81, 82, 83, 84, 85, 86, 87, 88] (by decide +kernel) (by decide +kernel)
set_option maxRecDepth 20000 in
theorem gX12_seasons_X12_lacks : GoodIn wsX12_seasons (wsV RX12 167 RX12 yX12_lacks wsX12_lacks) := goodIn_app (goodIn_of _ (by decide +kernel)) ggX12_seasons_X12_lacks
set_option maxRecDepth 20000 in
theorem ggX12_seasons_X12_layAside : GoodIn wsX12_seasons wsX12_layAside := goodIn_r _ [18, 19, 20, 5, 21, 6, 22, 23, 24, 25, 26, 9, 27, 56, 57, 58, 59, 60, 61, 62, 63, 64, 65, 66, 67, 68, 69, 70, 71, 72, 73, 74, 75, 76, 77, 78, 79, 80, 81, 82, 83, 84, 85, 86, 87, 88] (by decide +kernel) (by decide +kernel)
set_option maxRecDepth 20000 in
theorem gX12_seasons_X12_layAside : GoodIn wsX12_seasons (wsV RX12 125 RX12 yX12_layAside wsX12_layAside) := goodIn_app (goodIn_of _ (by decide +kernel)) ggX12_seasons_X12_layAside
set_option maxRecDepth 20000 in
theorem ggX12_seasons_X12_draw : GoodIn wsX12_seasons wsX12_draw := goodIn_r _ [31, 32, 3, 33, 34, 35, 56, 57, 58, 59, 60, 61, 62, 63, 64, 65, 66, 67, 68, 69, 70, 71, 72, 73, 74, 75, 76, 77, 78, 79, 80, 81, 82, 83, 84, 85, 86, 87, 88] (by decide +kernel) (by decide +kernel)
set_option maxRecDepth 20000 in
theorem gX12_seasons_X12_draw : GoodIn wsX12_seasons (wsV RX12 205 RX12 yX12_draw wsX12_draw) := goodIn_app (goodIn_of _ (by decide +kernel)) ggX12_seasons_X12_draw
set_option maxRecDepth 20000 in
theorem ggX12_seasons_X12_goesTo : GoodIn wsX12_seasons wsX12_goesTo := goodIn_r _ [39, 19, 5, 6, 23, 40, 41, 42, 9, 43, 56, 57, 58, 59, 60, 61, 62, 63, 64, 65, 66, 67, 68, 69, 70, 71, 72, 73, 74, 75, 76, 77, 78, 79, 80, 81, 82, 83, 84, 85, 86, 87, 88] (by decide +kernel) (by decide +kernel)
set_option maxRecDepth 20000 in
theorem gX12_seasons_X12_goesTo : GoodIn wsX12_seasons (wsV RX12 128 RX12 yX12_goesTo wsX12_goesTo) := goodIn_app (goodIn_of _ (by decide +kernel)) ggX12_seasons_X12_goesTo
set_option maxRecDepth 20000 in
theorem ggX12_seasons_X12_claims : GoodIn wsX12_seasons wsX12_claims := goodIn_r _ [47, 19, 48, 49, 50, 9, 51, 5, 6, 56, 57, 58, 59, 60, 61, 62, 63, 64, 65, 66, 67, 68, 69, 70, 71, 72, 73, 74, 75, 76, 77, 78, 79, 80, 81, 82, 83, 84, 85, 86, 87, 88] (by decide +kernel) (by decide +kernel)
set_option maxRecDepth 20000 in
theorem gX12_seasons_X12_claims : GoodIn wsX12_seasons (wsV RX12 149 RX12 yX12_claims wsX12_claims) := goodIn_app (goodIn_of _ (by decide +kernel)) ggX12_seasons_X12_claims
set_option maxRecDepth 20000 in
theorem ggX12_seasons_X12_layBack : GoodIn wsX12_seasons wsX12_layBack := goodIn_r _ [55, 20, 19, 21, 5, 22, 6, 24, 23, 25, 26, 9, 27, 56, 57, 58, 59, 60, 61, 62, 63, 64, 65, 66, 67, 68, 69, 70, 71, 72, 73, 74, 75, 76, 77, 78, 79, 80, 81, 82, 83, 84, 85, 86, 87, 88] (by decide +kernel) (by decide +kernel)
set_option maxRecDepth 20000 in
theorem gX12_seasons_X12_layBack : GoodIn wsX12_seasons (wsV RX12 135 RX12 yX12_layBack wsX12_layBack) := goodIn_app (goodIn_of _ (by decide +kernel)) ggX12_seasons_X12_layBack
theorem dX12_seasons_0 : decode cX12_seasons 0 = .ok (.iload_n 1, 1) := by decide +kernel
theorem dX12_seasons_1 : decode cX12_seasons 1 = .ok (.i2l, 1) := by decide +kernel
theorem dX12_seasons_2 : decode cX12_seasons 2 = .ok (.lconst 1, 1) := by decide +kernel
theorem dX12_seasons_3 : decode cX12_seasons 3 = .ok (.ldc2_w 203, 3) := by decide +kernel
theorem dX12_seasons_6 : decode cX12_seasons 6 = .ok (.invokestatic 55, 3) := by decide +kernel
theorem dX12_seasons_9 : decode cX12_seasons 9 = .ok (.ifCond .eq 19, 3) := by decide +kernel
theorem dX12_seasons_12 : decode cX12_seasons 12 = .ok (.iload_n 2, 1) := by decide +kernel
theorem dX12_seasons_13 : decode cX12_seasons 13 = .ok (.ifCond .lt 15, 3) := by decide +kernel
theorem dX12_seasons_16 : decode cX12_seasons 16 = .ok (.iload_n 3, 1) := by decide +kernel
theorem dX12_seasons_17 : decode cX12_seasons 17 = .ok (.i2l, 1) := by decide +kernel
theorem dX12_seasons_18 : decode cX12_seasons 18 = .ok (.lconst 0, 1) := by decide +kernel
theorem dX12_seasons_19 : decode cX12_seasons 19 = .ok (.ldc2_w 176, 3) := by decide +kernel
theorem dX12_seasons_22 : decode cX12_seasons 22 = .ok (.invokestatic 55, 3) := by decide +kernel
theorem dX12_seasons_25 : decode cX12_seasons 25 = .ok (.ifCond .ne 6, 3) := by decide +kernel
theorem dX12_seasons_28 : decode cX12_seasons 28 = .ok (.bipush (-102), 2) := by decide +kernel
theorem dX12_seasons_30 : decode cX12_seasons 30 = .ok (.ireturn, 1) := by decide +kernel
theorem dX12_seasons_31 : decode cX12_seasons 31 = .ok (.aload_n 0, 1) := by decide +kernel
theorem dX12_seasons_32 : decode cX12_seasons 32 = .ok (.invokevirtual 167, 3) := by decide +kernel
theorem dX12_seasons_35 : decode cX12_seasons 35 = .ok (.ifCond .eq 6, 3) := by decide +kernel
theorem dX12_seasons_38 : decode cX12_seasons 38 = .ok (.bipush (-103), 2) := by decide +kernel
theorem dX12_seasons_40 : decode cX12_seasons 40 = .ok (.ireturn, 1) := by decide +kernel
theorem dX12_seasons_41 : decode cX12_seasons 41 = .ok (.aload_n 0, 1) := by decide +kernel
theorem dX12_seasons_42 : decode cX12_seasons 42 = .ok (.invokevirtual 125, 3) := by decide +kernel
theorem dX12_seasons_45 : decode cX12_seasons 45 = .ok (.aload_n 0, 1) := by decide +kernel
theorem dX12_seasons_46 : decode cX12_seasons 46 = .ok (.iload_n 2, 1) := by decide +kernel
theorem dX12_seasons_47 : decode cX12_seasons 47 = .ok (.putfield 195, 3) := by decide +kernel
theorem dX12_seasons_50 : decode cX12_seasons 50 = .ok (.iconst 0, 1) := by decide +kernel
theorem dX12_seasons_51 : decode cX12_seasons 51 = .ok (.istore 4, 2) := by decide +kernel
theorem dX12_seasons_53 : decode cX12_seasons 53 = .ok (.iconst 0, 1) := by decide +kernel
theorem dX12_seasons_54 : decode cX12_seasons 54 = .ok (.istore 5, 2) := by decide +kernel
theorem dX12_seasons_56 : decode cX12_seasons 56 = .ok (.iload 5, 2) := by decide +kernel
theorem dX12_seasons_58 : decode cX12_seasons 58 = .ok (.iload_n 1, 1) := by decide +kernel
theorem dX12_seasons_59 : decode cX12_seasons 59 = .ok (.if_icmp .ge 63, 3) := by decide +kernel
theorem dX12_seasons_62 : decode cX12_seasons 62 = .ok (.aload_n 0, 1) := by decide +kernel
theorem dX12_seasons_63 : decode cX12_seasons 63 = .ok (.aload_n 0, 1) := by decide +kernel
theorem dX12_seasons_64 : decode cX12_seasons 64 = .ok (.getfield 87, 3) := by decide +kernel
theorem dX12_seasons_67 : decode cX12_seasons 67 = .ok (.invokevirtual 205, 3) := by decide +kernel
theorem dX12_seasons_70 : decode cX12_seasons 70 = .ok (.istore 6, 2) := by decide +kernel
theorem dX12_seasons_72 : decode cX12_seasons 72 = .ok (.iload 6, 2) := by decide +kernel
theorem dX12_seasons_74 : decode cX12_seasons 74 = .ok (.aload_n 0, 1) := by decide +kernel
theorem dX12_seasons_75 : decode cX12_seasons 75 = .ok (.getfield 90, 3) := by decide +kernel
theorem dX12_seasons_78 : decode cX12_seasons 78 = .ok (.if_icmp .eq 9, 3) := by decide +kernel
theorem dX12_seasons_81 : decode cX12_seasons 81 = .ok (.aload_n 0, 1) := by decide +kernel
theorem dX12_seasons_82 : decode cX12_seasons 82 = .ok (.iload 6, 2) := by decide +kernel
theorem dX12_seasons_84 : decode cX12_seasons 84 = .ok (.invokevirtual 128, 3) := by decide +kernel
theorem dX12_seasons_87 : decode cX12_seasons 87 = .ok (.iconst 0, 1) := by decide +kernel
theorem dX12_seasons_88 : decode cX12_seasons 88 = .ok (.istore 7, 2) := by decide +kernel
theorem dX12_seasons_90 : decode cX12_seasons 90 = .ok (.iload 7, 2) := by decide +kernel
theorem dX12_seasons_92 : decode cX12_seasons 92 = .ok (.aload_n 0, 1) := by decide +kernel
theorem dX12_seasons_93 : decode cX12_seasons 93 = .ok (.getfield 87, 3) := by decide +kernel
theorem dX12_seasons_96 : decode cX12_seasons 96 = .ok (.if_icmp .ge 20, 3) := by decide +kernel
theorem dX12_seasons_99 : decode cX12_seasons 99 = .ok (.iload 4, 2) := by decide +kernel
theorem dX12_seasons_101 : decode cX12_seasons 101 = .ok (.aload_n 0, 1) := by decide +kernel
theorem dX12_seasons_102 : decode cX12_seasons 102 = .ok (.iload 7, 2) := by decide +kernel
theorem dX12_seasons_104 : decode cX12_seasons 104 = .ok (.invokevirtual 149, 3) := by decide +kernel
theorem dX12_seasons_107 : decode cX12_seasons 107 = .ok (.iadd, 1) := by decide +kernel
theorem dX12_seasons_108 : decode cX12_seasons 108 = .ok (.istore 4, 2) := by decide +kernel
theorem dX12_seasons_110 : decode cX12_seasons 110 = .ok (.iinc 7 1, 3) := by decide +kernel
theorem dX12_seasons_113 : decode cX12_seasons 113 = .ok (.goto (-23), 3) := by decide +kernel
theorem dX12_seasons_116 : decode cX12_seasons 116 = .ok (.iinc 5 1, 3) := by decide +kernel
theorem dX12_seasons_119 : decode cX12_seasons 119 = .ok (.goto (-63), 3) := by decide +kernel
theorem dX12_seasons_122 : decode cX12_seasons 122 = .ok (.aload_n 0, 1) := by decide +kernel
theorem dX12_seasons_123 : decode cX12_seasons 123 = .ok (.getfield 93, 3) := by decide +kernel
theorem dX12_seasons_126 : decode cX12_seasons 126 = .ok (.istore 5, 2) := by decide +kernel
theorem dX12_seasons_128 : decode cX12_seasons 128 = .ok (.aload_n 0, 1) := by decide +kernel
theorem dX12_seasons_129 : decode cX12_seasons 129 = .ok (.invokevirtual 135, 3) := by decide +kernel
theorem dX12_seasons_132 : decode cX12_seasons 132 = .ok (.iload_n 3, 1) := by decide +kernel
theorem dX12_seasons_133 : decode cX12_seasons 133 = .ok (.ifCond .ne 8, 3) := by decide +kernel
theorem dX12_seasons_136 : decode cX12_seasons 136 = .ok (.iload 4, 2) := by decide +kernel
theorem dX12_seasons_138 : decode cX12_seasons 138 = .ok (.goto 17, 3) := by decide +kernel
theorem dX12_seasons_141 : decode cX12_seasons 141 = .ok (.iload_n 3, 1) := by decide +kernel
theorem dX12_seasons_142 : decode cX12_seasons 142 = .ok (.iconst 1, 1) := by decide +kernel
theorem dX12_seasons_143 : decode cX12_seasons 143 = .ok (.if_icmp .ne 8, 3) := by decide +kernel
theorem dX12_seasons_146 : decode cX12_seasons 146 = .ok (.iload 5, 2) := by decide +kernel
theorem dX12_seasons_148 : decode cX12_seasons 148 = .ok (.goto 7, 3) := by decide +kernel
theorem dX12_seasons_151 : decode cX12_seasons 151 = .ok (.aload_n 0, 1) := by decide +kernel
theorem dX12_seasons_152 : decode cX12_seasons 152 = .ok (.getfield 195, 3) := by decide +kernel
theorem dX12_seasons_155 : decode cX12_seasons 155 = .ok (.ireturn, 1) := by decide +kernel
set_option maxRecDepth 20000 in
theorem ggX12_image_X12_lacks : GoodIn wsX12_image wsX12_lacks := goodIn_r _ [19, 20, 24, 25, 26, 27, 28, 29, 30, 31, 32, 33, 34, 35, 36, 37, 38, 39, 40, 41, 42, 43, 44, 45, 46, 47, 48, 49, 50, 51, 52, 53, 54, 55, 56] (by decide +kernel) (by decide +kernel)
set_option maxRecDepth 20000 in
theorem gX12_image_X12_lacks : GoodIn wsX12_image (wsV RX12 167 RX12 yX12_lacks wsX12_lacks) := goodIn_app (goodIn_of _ (by decide +kernel)) ggX12_image_X12_lacks
set_option maxRecDepth 20000 in
theorem ggX12_image_X12_copy : GoodIn wsX12_image wsX12_copy := goodIn_r _ [23] (by decide +kernel) (by decide +kernel)
set_option maxRecDepth 20000 in
theorem gX12_image_X12_copy : GoodIn wsX12_image (va_wsS RX12 112 yX12_copy wsX12_copy) := goodIn_app (goodIn_of _ (by decide +kernel)) ggX12_image_X12_copy
theorem dX12_image_0 : decode cX12_image 0 = .ok (.aload_n 0, 1) := by decide +kernel
theorem dX12_image_1 : decode cX12_image 1 = .ok (.invokevirtual 167, 3) := by decide +kernel
theorem dX12_image_4 : decode cX12_image 4 = .ok (.ifCond .eq 6, 3) := by decide +kernel
theorem dX12_image_7 : decode cX12_image 7 = .ok (.bipush (-103), 2) := by decide +kernel
theorem dX12_image_9 : decode cX12_image 9 = .ok (.ireturn, 1) := by decide +kernel
theorem dX12_image_10 : decode cX12_image 10 = .ok (.aload_n 0, 1) := by decide +kernel
theorem dX12_image_11 : decode cX12_image 11 = .ok (.getfield 16, 3) := by decide +kernel
theorem dX12_image_14 : decode cX12_image 14 = .ok (.aload_n 0, 1) := by decide +kernel
theorem dX12_image_15 : decode cX12_image 15 = .ok (.getfield 43, 3) := by decide +kernel
theorem dX12_image_18 : decode cX12_image 18 = .ok (.invokestatic 112, 3) := by decide +kernel
theorem dX12_image_21 : decode cX12_image 21 = .ok (.aload_n 0, 1) := by decide +kernel
theorem dX12_image_22 : decode cX12_image 22 = .ok (.getfield 31, 3) := by decide +kernel
theorem dX12_image_25 : decode cX12_image 25 = .ok (.aload_n 0, 1) := by decide +kernel
theorem dX12_image_26 : decode cX12_image 26 = .ok (.getfield 46, 3) := by decide +kernel
theorem dX12_image_29 : decode cX12_image 29 = .ok (.invokestatic 112, 3) := by decide +kernel
theorem dX12_image_32 : decode cX12_image 32 = .ok (.aload_n 0, 1) := by decide +kernel
theorem dX12_image_33 : decode cX12_image 33 = .ok (.aload_n 0, 1) := by decide +kernel
theorem dX12_image_34 : decode cX12_image 34 = .ok (.getfield 90, 3) := by decide +kernel
theorem dX12_image_37 : decode cX12_image 37 = .ok (.putfield 208, 3) := by decide +kernel
theorem dX12_image_40 : decode cX12_image 40 = .ok (.aload_n 0, 1) := by decide +kernel
theorem dX12_image_41 : decode cX12_image 41 = .ok (.aload_n 0, 1) := by decide +kernel
theorem dX12_image_42 : decode cX12_image 42 = .ok (.getfield 93, 3) := by decide +kernel
theorem dX12_image_45 : decode cX12_image 45 = .ok (.putfield 211, 3) := by decide +kernel
theorem dX12_image_48 : decode cX12_image 48 = .ok (.aload_n 0, 1) := by decide +kernel
theorem dX12_image_49 : decode cX12_image 49 = .ok (.aload_n 0, 1) := by decide +kernel
theorem dX12_image_50 : decode cX12_image 50 = .ok (.getfield 96, 3) := by decide +kernel
theorem dX12_image_53 : decode cX12_image 53 = .ok (.putfield 214, 3) := by decide +kernel
theorem dX12_image_56 : decode cX12_image 56 = .ok (.aload_n 0, 1) := by decide +kernel
theorem dX12_image_57 : decode cX12_image 57 = .ok (.aload_n 0, 1) := by decide +kernel
theorem dX12_image_58 : decode cX12_image 58 = .ok (.getfield 99, 3) := by decide +kernel
theorem dX12_image_61 : decode cX12_image 61 = .ok (.putfield 217, 3) := by decide +kernel
theorem dX12_image_64 : decode cX12_image 64 = .ok (.aload_n 0, 1) := by decide +kernel
theorem dX12_image_65 : decode cX12_image 65 = .ok (.aload_n 0, 1) := by decide +kernel
theorem dX12_image_66 : decode cX12_image 66 = .ok (.getfield 102, 3) := by decide +kernel
theorem dX12_image_69 : decode cX12_image 69 = .ok (.putfield 49, 3) := by decide +kernel
theorem dX12_image_72 : decode cX12_image 72 = .ok (.aload_n 0, 1) := by decide +kernel
theorem dX12_image_73 : decode cX12_image 73 = .ok (.getfield 96, 3) := by decide +kernel
theorem dX12_image_76 : decode cX12_image 76 = .ok (.ireturn, 1) := by decide +kernel
set_option maxRecDepth 20000 in
theorem ggX12_restore_X12_copy : GoodIn wsX12_restore wsX12_copy := goodIn_r _ [18] (by decide +kernel) (by decide +kernel)
set_option maxRecDepth 20000 in
theorem gX12_restore_X12_copy : GoodIn wsX12_restore (va_wsS RX12 112 yX12_copy wsX12_copy) := goodIn_app (goodIn_of _ (by decide +kernel)) ggX12_restore_X12_copy
theorem dX12_restore_0 : decode cX12_restore 0 = .ok (.aload_n 0, 1) := by decide +kernel
theorem dX12_restore_1 : decode cX12_restore 1 = .ok (.getfield 49, 3) := by decide +kernel
theorem dX12_restore_4 : decode cX12_restore 4 = .ok (.aload_n 0, 1) := by decide +kernel
theorem dX12_restore_5 : decode cX12_restore 5 = .ok (.getfield 102, 3) := by decide +kernel
theorem dX12_restore_8 : decode cX12_restore 8 = .ok (.if_icmp .eq 6, 3) := by decide +kernel
theorem dX12_restore_11 : decode cX12_restore 11 = .ok (.bipush (-103), 2) := by decide +kernel
theorem dX12_restore_13 : decode cX12_restore 13 = .ok (.ireturn, 1) := by decide +kernel
theorem dX12_restore_14 : decode cX12_restore 14 = .ok (.aload_n 0, 1) := by decide +kernel
theorem dX12_restore_15 : decode cX12_restore 15 = .ok (.getfield 43, 3) := by decide +kernel
theorem dX12_restore_18 : decode cX12_restore 18 = .ok (.aload_n 0, 1) := by decide +kernel
theorem dX12_restore_19 : decode cX12_restore 19 = .ok (.getfield 16, 3) := by decide +kernel
theorem dX12_restore_22 : decode cX12_restore 22 = .ok (.invokestatic 112, 3) := by decide +kernel
theorem dX12_restore_25 : decode cX12_restore 25 = .ok (.aload_n 0, 1) := by decide +kernel
theorem dX12_restore_26 : decode cX12_restore 26 = .ok (.getfield 46, 3) := by decide +kernel
theorem dX12_restore_29 : decode cX12_restore 29 = .ok (.aload_n 0, 1) := by decide +kernel
theorem dX12_restore_30 : decode cX12_restore 30 = .ok (.getfield 31, 3) := by decide +kernel
theorem dX12_restore_33 : decode cX12_restore 33 = .ok (.invokestatic 112, 3) := by decide +kernel
theorem dX12_restore_36 : decode cX12_restore 36 = .ok (.aload_n 0, 1) := by decide +kernel
theorem dX12_restore_37 : decode cX12_restore 37 = .ok (.aload_n 0, 1) := by decide +kernel
theorem dX12_restore_38 : decode cX12_restore 38 = .ok (.getfield 208, 3) := by decide +kernel
theorem dX12_restore_41 : decode cX12_restore 41 = .ok (.putfield 90, 3) := by decide +kernel
theorem dX12_restore_44 : decode cX12_restore 44 = .ok (.aload_n 0, 1) := by decide +kernel
theorem dX12_restore_45 : decode cX12_restore 45 = .ok (.aload_n 0, 1) := by decide +kernel
theorem dX12_restore_46 : decode cX12_restore 46 = .ok (.getfield 211, 3) := by decide +kernel
theorem dX12_restore_49 : decode cX12_restore 49 = .ok (.putfield 93, 3) := by decide +kernel
theorem dX12_restore_52 : decode cX12_restore 52 = .ok (.aload_n 0, 1) := by decide +kernel
theorem dX12_restore_53 : decode cX12_restore 53 = .ok (.aload_n 0, 1) := by decide +kernel
theorem dX12_restore_54 : decode cX12_restore 54 = .ok (.getfield 214, 3) := by decide +kernel
theorem dX12_restore_57 : decode cX12_restore 57 = .ok (.putfield 96, 3) := by decide +kernel
theorem dX12_restore_60 : decode cX12_restore 60 = .ok (.aload_n 0, 1) := by decide +kernel
theorem dX12_restore_61 : decode cX12_restore 61 = .ok (.aload_n 0, 1) := by decide +kernel
theorem dX12_restore_62 : decode cX12_restore 62 = .ok (.getfield 217, 3) := by decide +kernel
theorem dX12_restore_65 : decode cX12_restore 65 = .ok (.putfield 99, 3) := by decide +kernel
theorem dX12_restore_68 : decode cX12_restore 68 = .ok (.aload_n 0, 1) := by decide +kernel
theorem dX12_restore_69 : decode cX12_restore 69 = .ok (.getfield 96, 3) := by decide +kernel
theorem dX12_restore_72 : decode cX12_restore 72 = .ok (.ireturn, 1) := by decide +kernel
theorem dX12_paidAll_0 : decode cX12_paidAll 0 = .ok (.iconst 0, 1) := by decide +kernel
theorem dX12_paidAll_1 : decode cX12_paidAll 1 = .ok (.istore_n 1, 1) := by decide +kernel
theorem dX12_paidAll_2 : decode cX12_paidAll 2 = .ok (.iconst 0, 1) := by decide +kernel
theorem dX12_paidAll_3 : decode cX12_paidAll 3 = .ok (.istore_n 2, 1) := by decide +kernel
theorem dX12_paidAll_4 : decode cX12_paidAll 4 = .ok (.iload_n 2, 1) := by decide +kernel
theorem dX12_paidAll_5 : decode cX12_paidAll 5 = .ok (.aload_n 0, 1) := by decide +kernel
theorem dX12_paidAll_6 : decode cX12_paidAll 6 = .ok (.getfield 87, 3) := by decide +kernel
theorem dX12_paidAll_9 : decode cX12_paidAll 9 = .ok (.if_icmp .ge 22, 3) := by decide +kernel
theorem dX12_paidAll_12 : decode cX12_paidAll 12 = .ok (.iload_n 1, 1) := by decide +kernel
theorem dX12_paidAll_13 : decode cX12_paidAll 13 = .ok (.aload_n 0, 1) := by decide +kernel
theorem dX12_paidAll_14 : decode cX12_paidAll 14 = .ok (.getfield 16, 3) := by decide +kernel
theorem dX12_paidAll_17 : decode cX12_paidAll 17 = .ok (.iconst 4, 1) := by decide +kernel
theorem dX12_paidAll_18 : decode cX12_paidAll 18 = .ok (.iload_n 2, 1) := by decide +kernel
theorem dX12_paidAll_19 : decode cX12_paidAll 19 = .ok (.imul, 1) := by decide +kernel
theorem dX12_paidAll_20 : decode cX12_paidAll 20 = .ok (.iconst 3, 1) := by decide +kernel
theorem dX12_paidAll_21 : decode cX12_paidAll 21 = .ok (.iadd, 1) := by decide +kernel
theorem dX12_paidAll_22 : decode cX12_paidAll 22 = .ok (.iaload, 1) := by decide +kernel
theorem dX12_paidAll_23 : decode cX12_paidAll 23 = .ok (.iadd, 1) := by decide +kernel
theorem dX12_paidAll_24 : decode cX12_paidAll 24 = .ok (.istore_n 1, 1) := by decide +kernel
theorem dX12_paidAll_25 : decode cX12_paidAll 25 = .ok (.iinc 2 1, 3) := by decide +kernel
theorem dX12_paidAll_28 : decode cX12_paidAll 28 = .ok (.goto (-24), 3) := by decide +kernel
theorem dX12_paidAll_31 : decode cX12_paidAll 31 = .ok (.iload_n 1, 1) := by decide +kernel
theorem dX12_paidAll_32 : decode cX12_paidAll 32 = .ok (.ireturn, 1) := by decide +kernel
set_option maxRecDepth 20000 in
theorem ggX12_countOf_X12_lacks : GoodIn wsX12_countOf wsX12_lacks := goodIn_r _ [12, 1, 26, 27, 28, 29, 30, 31, 32, 33, 34, 35, 36, 37, 38, 39, 40, 41, 42, 43, 44, 45, 46, 47, 48, 49, 50, 51, 52, 53, 54, 55, 56, 57, 58] (by decide +kernel) (by decide +kernel)
set_option maxRecDepth 20000 in
theorem gX12_countOf_X12_lacks : GoodIn wsX12_countOf (wsV RX12 167 RX12 yX12_lacks wsX12_lacks) := goodIn_app (goodIn_of _ (by decide +kernel)) ggX12_countOf_X12_lacks
set_option maxRecDepth 20000 in
theorem ggX12_countOf_X12_wrongMany : GoodIn wsX12_countOf wsX12_wrongMany := goodIn_r _ [16, 1, 17, 18, 19, 11, 20, 2, 21, 3, 26, 27, 28, 29, 30, 31, 32, 33, 34, 35, 36, 37, 38, 39, 40, 41, 42, 43, 44, 45, 46, 47, 48, 49, 50, 51, 52, 53, 54, 55, 56, 57, 58] (by decide +kernel) (by decide +kernel)
set_option maxRecDepth 20000 in
theorem gX12_countOf_X12_wrongMany : GoodIn wsX12_countOf (wsV RX12 132 RX12 yX12_wrongMany wsX12_wrongMany) := goodIn_app (goodIn_of _ (by decide +kernel)) ggX12_countOf_X12_wrongMany
set_option maxRecDepth 20000 in
theorem ggX12_countOf_X12_paidAll : GoodIn wsX12_countOf wsX12_paidAll := goodIn_r _ [25, 1, 21, 26, 27, 28, 29, 30, 31, 32, 33, 34, 35, 36, 37, 38, 39, 40, 41, 42, 43, 44, 45, 46, 47, 48, 49, 50, 51, 52, 53, 54, 55, 56, 57, 58] (by decide +kernel) (by decide +kernel)
set_option maxRecDepth 20000 in
theorem gX12_countOf_X12_paidAll : GoodIn wsX12_countOf (wsV RX12 220 RX12 yX12_paidAll wsX12_paidAll) := goodIn_app (goodIn_of _ (by decide +kernel)) ggX12_countOf_X12_paidAll
theorem dX12_countOf_0 : decode cX12_countOf 0 = .ok (.iload_n 1, 1) := by decide +kernel
theorem dX12_countOf_1 : decode cX12_countOf 1 = .ok (.tableswitch 122 0 9 #[55, 60, 76, 84, 92, 97, 102, 107, 112, 117], 55) := by decide +kernel
theorem dX12_countOf_56 : decode cX12_countOf 56 = .ok (.aload_n 0, 1) := by decide +kernel
theorem dX12_countOf_57 : decode cX12_countOf 57 = .ok (.getfield 87, 3) := by decide +kernel
theorem dX12_countOf_60 : decode cX12_countOf 60 = .ok (.ireturn, 1) := by decide +kernel
theorem dX12_countOf_61 : decode cX12_countOf 61 = .ok (.aload_n 0, 1) := by decide +kernel
theorem dX12_countOf_62 : decode cX12_countOf 62 = .ok (.invokevirtual 167, 3) := by decide +kernel
theorem dX12_countOf_65 : decode cX12_countOf 65 = .ok (.ifCond .eq 7, 3) := by decide +kernel
theorem dX12_countOf_68 : decode cX12_countOf 68 = .ok (.iconst (-1), 1) := by decide +kernel
theorem dX12_countOf_69 : decode cX12_countOf 69 = .ok (.goto 7, 3) := by decide +kernel
theorem dX12_countOf_72 : decode cX12_countOf 72 = .ok (.aload_n 0, 1) := by decide +kernel
theorem dX12_countOf_73 : decode cX12_countOf 73 = .ok (.getfield 90, 3) := by decide +kernel
theorem dX12_countOf_76 : decode cX12_countOf 76 = .ok (.ireturn, 1) := by decide +kernel
theorem dX12_countOf_77 : decode cX12_countOf 77 = .ok (.aload_n 0, 1) := by decide +kernel
theorem dX12_countOf_78 : decode cX12_countOf 78 = .ok (.getfield 93, 3) := by decide +kernel
theorem dX12_countOf_81 : decode cX12_countOf 81 = .ok (.bipush 8, 2) := by decide +kernel
theorem dX12_countOf_83 : decode cX12_countOf 83 = .ok (.idiv, 1) := by decide +kernel
theorem dX12_countOf_84 : decode cX12_countOf 84 = .ok (.ireturn, 1) := by decide +kernel
theorem dX12_countOf_85 : decode cX12_countOf 85 = .ok (.aload_n 0, 1) := by decide +kernel
theorem dX12_countOf_86 : decode cX12_countOf 86 = .ok (.getfield 93, 3) := by decide +kernel
theorem dX12_countOf_89 : decode cX12_countOf 89 = .ok (.bipush 8, 2) := by decide +kernel
theorem dX12_countOf_91 : decode cX12_countOf 91 = .ok (.irem, 1) := by decide +kernel
theorem dX12_countOf_92 : decode cX12_countOf 92 = .ok (.ireturn, 1) := by decide +kernel
theorem dX12_countOf_93 : decode cX12_countOf 93 = .ok (.aload_n 0, 1) := by decide +kernel
theorem dX12_countOf_94 : decode cX12_countOf 94 = .ok (.getfield 96, 3) := by decide +kernel
theorem dX12_countOf_97 : decode cX12_countOf 97 = .ok (.ireturn, 1) := by decide +kernel
theorem dX12_countOf_98 : decode cX12_countOf 98 = .ok (.aload_n 0, 1) := by decide +kernel
theorem dX12_countOf_99 : decode cX12_countOf 99 = .ok (.invokevirtual 132, 3) := by decide +kernel
theorem dX12_countOf_102 : decode cX12_countOf 102 = .ok (.ireturn, 1) := by decide +kernel
theorem dX12_countOf_103 : decode cX12_countOf 103 = .ok (.aload_n 0, 1) := by decide +kernel
theorem dX12_countOf_104 : decode cX12_countOf 104 = .ok (.invokevirtual 220, 3) := by decide +kernel
theorem dX12_countOf_107 : decode cX12_countOf 107 = .ok (.ireturn, 1) := by decide +kernel
theorem dX12_countOf_108 : decode cX12_countOf 108 = .ok (.aload_n 0, 1) := by decide +kernel
theorem dX12_countOf_109 : decode cX12_countOf 109 = .ok (.getfield 99, 3) := by decide +kernel
theorem dX12_countOf_112 : decode cX12_countOf 112 = .ok (.ireturn, 1) := by decide +kernel
theorem dX12_countOf_113 : decode cX12_countOf 113 = .ok (.aload_n 0, 1) := by decide +kernel
theorem dX12_countOf_114 : decode cX12_countOf 114 = .ok (.getfield 59, 3) := by decide +kernel
theorem dX12_countOf_117 : decode cX12_countOf 117 = .ok (.ireturn, 1) := by decide +kernel
theorem dX12_countOf_118 : decode cX12_countOf 118 = .ok (.aload_n 0, 1) := by decide +kernel
theorem dX12_countOf_119 : decode cX12_countOf 119 = .ok (.getfield 102, 3) := by decide +kernel
theorem dX12_countOf_122 : decode cX12_countOf 122 = .ok (.ireturn, 1) := by decide +kernel
theorem dX12_countOf_123 : decode cX12_countOf 123 = .ok (.bipush (-102), 2) := by decide +kernel
theorem dX12_countOf_125 : decode cX12_countOf 125 = .ok (.ireturn, 1) := by decide +kernel
set_option maxRecDepth 20000 in
theorem ggX12_count_X12_countOf : GoodIn wsX12_count wsX12_countOf := goodIn_r _ [5, 6, 7, 8, 9, 10, 11, 12, 13, 14, 15, 4, 16, 17, 18, 19, 20, 21, 22, 23, 24, 25, 26, 27, 28, 29, 30, 31, 32, 33, 34, 35, 36, 37, 38, 39, 40, 41, 42, 43, 44, 45, 46, 47, 48, 49, 50, 51, 52, 53, 54, 55, 56, 57, 58, 59, 60, 61, 62] (by decide +kernel) (by decide +kernel)
set_option maxRecDepth 20000 in
theorem gX12_count_X12_countOf : GoodIn wsX12_count (wsV RX12 223 RX12 yX12_countOf wsX12_countOf) := goodIn_app (goodIn_of _ (by decide +kernel)) ggX12_count_X12_countOf
theorem dX12_count_0 : decode cX12_count 0 = .ok (.aload_n 0, 1) := by decide +kernel
theorem dX12_count_1 : decode cX12_count 1 = .ok (.iload_n 1, 1) := by decide +kernel
theorem dX12_count_2 : decode cX12_count 2 = .ok (.invokevirtual 223, 3) := by decide +kernel
theorem dX12_count_5 : decode cX12_count 5 = .ok (.ireturn, 1) := by decide +kernel
theorem dX12_say_0 : decode cX12_say 0 = .ok (.aload_n 0, 1) := by decide +kernel
theorem dX12_say_1 : decode cX12_say 1 = .ok (.ldc2_w 155, 3) := by decide +kernel
theorem dX12_say_4 : decode cX12_say 4 = .ok (.aload_n 0, 1) := by decide +kernel
theorem dX12_say_5 : decode cX12_say 5 = .ok (.getfield 226, 3) := by decide +kernel
theorem dX12_say_8 : decode cX12_say 8 = .ok (.lmul, 1) := by decide +kernel
theorem dX12_say_9 : decode cX12_say 9 = .ok (.lload_n 1, 1) := by decide +kernel
theorem dX12_say_10 : decode cX12_say 10 = .ok (.ladd, 1) := by decide +kernel
theorem dX12_say_11 : decode cX12_say 11 = .ok (.putfield 226, 3) := by decide +kernel
theorem dX12_say_14 : decode cX12_say 14 = .ok (.return_, 1) := by decide +kernel
set_option maxRecDepth 20000 in
theorem ggX12_sayRing_X12_chainOf : GoodIn wsX12_sayRing wsX12_chainOf := goodIn_r _ [7, 8, 2, 9, 1, 10, 11, 12, 6, 13, 14, 15, 16, 17, 18, 87, 88, 89, 90, 91, 92, 93, 94, 95, 96, 97, 98, 99, 100, 101, 102, 103, 104, 105, 106, 107, 108, 109, 110, 111, 112, 113, 114, 115, 116, 117, 118, 119] (by decide +kernel) (by decide +kernel)
set_option maxRecDepth 20000 in
theorem gX12_sayRing_X12_chainOf : GoodIn wsX12_sayRing (wsV RX12 157 RX12 yX12_chainOf wsX12_chainOf) := goodIn_app (goodIn_of _ (by decide +kernel)) ggX12_sayRing_X12_chainOf
set_option maxRecDepth 20000 in
theorem ggX12_sayRing_X12_say : GoodIn wsX12_sayRing wsX12_say := goodIn_r _ [22, 23, 24, 87, 88, 89, 90, 91, 92, 93, 94, 95, 96, 97, 98, 99, 100, 101, 102, 103, 104, 105, 106, 107, 108, 109, 110, 111, 112, 113, 114, 115, 116, 117, 118, 119] (by decide +kernel) (by decide +kernel)
set_option maxRecDepth 20000 in
theorem gX12_sayRing_X12_say : GoodIn wsX12_sayRing (wsV RX12 230 RX12 yX12_say wsX12_say) := goodIn_app (goodIn_of _ (by decide +kernel)) ggX12_sayRing_X12_say
set_option maxRecDepth 20000 in
theorem ggX12_sayRing_X12_calmOf : GoodIn wsX12_sayRing wsX12_calmOf := goodIn_r _ [28, 29, 30, 31, 32, 6, 33, 1, 34, 8, 35, 36, 37, 38, 18, 39, 40, 2, 41, 42, 43, 44, 45, 46, 47, 48, 49, 50, 14, 15, 16, 17, 51, 52, 53, 54, 55, 56, 57, 58, 59, 60, 61, 62, 87, 88, 89, 90, 91, 92, 93, 94, 95, 96, 97, 98, 99, 100, 101, 102, 103, 104, 105, 106, 107, 108, 109, 110, 111, 112, 113, 114, 115, 116, 117, 118, 119] (by decide +kernel) (by decide +kernel)
set_option maxRecDepth 20000 in
theorem gX12_sayRing_X12_calmOf : GoodIn wsX12_sayRing (wsV RX12 171 RX12 yX12_calmOf wsX12_calmOf) := goodIn_app (goodIn_of _ (by decide +kernel)) ggX12_sayRing_X12_calmOf
set_option maxRecDepth 20000 in
theorem ggX12_sayRing_X12_rowsOf : GoodIn wsX12_sayRing wsX12_rowsOf := goodIn_r _ [66, 67, 68, 69, 70, 6, 71, 8, 2, 72, 1, 73, 74, 75, 76, 77, 78, 79, 80, 81, 14, 15, 16, 17, 18, 44, 45, 46, 87, 88, 89, 90, 91, 92, 93, 94, 95, 96, 97, 98, 99, 100, 101, 102, 103, 104, 105, 106, 107, 108, 109, 110, 111, 112, 113, 114, 115, 116, 117, 118, 119] (by decide +kernel) (by decide +kernel)
set_option maxRecDepth 20000 in
theorem gX12_sayRing_X12_rowsOf : GoodIn wsX12_sayRing (wsV RX12 187 RX12 yX12_rowsOf wsX12_rowsOf) := goodIn_app (goodIn_of _ (by decide +kernel)) ggX12_sayRing_X12_rowsOf
set_option maxRecDepth 20000 in
theorem ggX12_sayRing_X12_nextOf : GoodIn wsX12_sayRing wsX12_nextOf := goodIn_r _ [85, 86, 67, 68, 69, 70, 6, 71, 8, 2, 72, 1, 73, 74, 75, 76, 77, 78, 79, 80, 81, 14, 15, 16, 17, 18, 44, 45, 46, 87, 88, 89, 90, 91, 92, 93, 94, 95, 96, 97, 98, 99, 100, 101, 102, 103, 104, 105, 106, 107, 108, 109, 110, 111, 112, 113, 114, 115, 116, 117, 118, 119] (by decide +kernel) (by decide +kernel)
set_option maxRecDepth 20000 in
theorem gX12_sayRing_X12_nextOf : GoodIn wsX12_sayRing (wsV RX12 190 RX12 yX12_nextOf wsX12_nextOf) := goodIn_app (goodIn_of _ (by decide +kernel)) ggX12_sayRing_X12_nextOf
theorem dX12_sayRing_0 : decode cX12_sayRing 0 = .ok (.iconst 0, 1) := by decide +kernel
theorem dX12_sayRing_1 : decode cX12_sayRing 1 = .ok (.istore_n 1, 1) := by decide +kernel
theorem dX12_sayRing_2 : decode cX12_sayRing 2 = .ok (.iload_n 1, 1) := by decide +kernel
theorem dX12_sayRing_3 : decode cX12_sayRing 3 = .ok (.aload_n 0, 1) := by decide +kernel
theorem dX12_sayRing_4 : decode cX12_sayRing 4 = .ok (.getfield 87, 3) := by decide +kernel
theorem dX12_sayRing_7 : decode cX12_sayRing 7 = .ok (.if_icmp .ge 28, 3) := by decide +kernel
theorem dX12_sayRing_10 : decode cX12_sayRing 10 = .ok (.aload_n 0, 1) := by decide +kernel
theorem dX12_sayRing_11 : decode cX12_sayRing 11 = .ok (.aload_n 0, 1) := by decide +kernel
theorem dX12_sayRing_12 : decode cX12_sayRing 12 = .ok (.bipush 32, 2) := by decide +kernel
theorem dX12_sayRing_14 : decode cX12_sayRing 14 = .ok (.iload_n 1, 1) := by decide +kernel
theorem dX12_sayRing_15 : decode cX12_sayRing 15 = .ok (.imul, 1) := by decide +kernel
theorem dX12_sayRing_16 : decode cX12_sayRing 16 = .ok (.aload_n 0, 1) := by decide +kernel
theorem dX12_sayRing_17 : decode cX12_sayRing 17 = .ok (.getfield 93, 3) := by decide +kernel
theorem dX12_sayRing_20 : decode cX12_sayRing 20 = .ok (.iadd, 1) := by decide +kernel
theorem dX12_sayRing_21 : decode cX12_sayRing 21 = .ok (.iconst 0, 1) := by decide +kernel
theorem dX12_sayRing_22 : decode cX12_sayRing 22 = .ok (.invokevirtual 157, 3) := by decide +kernel
theorem dX12_sayRing_25 : decode cX12_sayRing 25 = .ok (.i2l, 1) := by decide +kernel
theorem dX12_sayRing_26 : decode cX12_sayRing 26 = .ok (.invokevirtual 230, 3) := by decide +kernel
theorem dX12_sayRing_29 : decode cX12_sayRing 29 = .ok (.iinc 1 1, 3) := by decide +kernel
theorem dX12_sayRing_32 : decode cX12_sayRing 32 = .ok (.goto (-30), 3) := by decide +kernel
theorem dX12_sayRing_35 : decode cX12_sayRing 35 = .ok (.aload_n 0, 1) := by decide +kernel
theorem dX12_sayRing_36 : decode cX12_sayRing 36 = .ok (.aload_n 0, 1) := by decide +kernel
theorem dX12_sayRing_37 : decode cX12_sayRing 37 = .ok (.iconst 2, 1) := by decide +kernel
theorem dX12_sayRing_38 : decode cX12_sayRing 38 = .ok (.iconst 0, 1) := by decide +kernel
theorem dX12_sayRing_39 : decode cX12_sayRing 39 = .ok (.invokevirtual 171, 3) := by decide +kernel
theorem dX12_sayRing_42 : decode cX12_sayRing 42 = .ok (.i2l, 1) := by decide +kernel
theorem dX12_sayRing_43 : decode cX12_sayRing 43 = .ok (.invokevirtual 230, 3) := by decide +kernel
theorem dX12_sayRing_46 : decode cX12_sayRing 46 = .ok (.aload_n 0, 1) := by decide +kernel
theorem dX12_sayRing_47 : decode cX12_sayRing 47 = .ok (.aload_n 0, 1) := by decide +kernel
theorem dX12_sayRing_48 : decode cX12_sayRing 48 = .ok (.iconst 2, 1) := by decide +kernel
theorem dX12_sayRing_49 : decode cX12_sayRing 49 = .ok (.bipush 10, 2) := by decide +kernel
theorem dX12_sayRing_51 : decode cX12_sayRing 51 = .ok (.invokevirtual 171, 3) := by decide +kernel
theorem dX12_sayRing_54 : decode cX12_sayRing 54 = .ok (.i2l, 1) := by decide +kernel
theorem dX12_sayRing_55 : decode cX12_sayRing 55 = .ok (.invokevirtual 230, 3) := by decide +kernel
theorem dX12_sayRing_58 : decode cX12_sayRing 58 = .ok (.aload_n 0, 1) := by decide +kernel
theorem dX12_sayRing_59 : decode cX12_sayRing 59 = .ok (.aload_n 0, 1) := by decide +kernel
theorem dX12_sayRing_60 : decode cX12_sayRing 60 = .ok (.iconst 2, 1) := by decide +kernel
theorem dX12_sayRing_61 : decode cX12_sayRing 61 = .ok (.bipush 11, 2) := by decide +kernel
theorem dX12_sayRing_63 : decode cX12_sayRing 63 = .ok (.invokevirtual 171, 3) := by decide +kernel
theorem dX12_sayRing_66 : decode cX12_sayRing 66 = .ok (.i2l, 1) := by decide +kernel
theorem dX12_sayRing_67 : decode cX12_sayRing 67 = .ok (.invokevirtual 230, 3) := by decide +kernel
theorem dX12_sayRing_70 : decode cX12_sayRing 70 = .ok (.iconst 0, 1) := by decide +kernel
theorem dX12_sayRing_71 : decode cX12_sayRing 71 = .ok (.istore_n 1, 1) := by decide +kernel
theorem dX12_sayRing_72 : decode cX12_sayRing 72 = .ok (.iload_n 1, 1) := by decide +kernel
theorem dX12_sayRing_73 : decode cX12_sayRing 73 = .ok (.iconst 5, 1) := by decide +kernel
theorem dX12_sayRing_74 : decode cX12_sayRing 74 = .ok (.if_icmp .ge 31, 3) := by decide +kernel
theorem dX12_sayRing_77 : decode cX12_sayRing 77 = .ok (.aload_n 0, 1) := by decide +kernel
theorem dX12_sayRing_78 : decode cX12_sayRing 78 = .ok (.aload_n 0, 1) := by decide +kernel
theorem dX12_sayRing_79 : decode cX12_sayRing 79 = .ok (.iload_n 1, 1) := by decide +kernel
theorem dX12_sayRing_80 : decode cX12_sayRing 80 = .ok (.iconst 0, 1) := by decide +kernel
theorem dX12_sayRing_81 : decode cX12_sayRing 81 = .ok (.invokevirtual 187, 3) := by decide +kernel
theorem dX12_sayRing_84 : decode cX12_sayRing 84 = .ok (.i2l, 1) := by decide +kernel
theorem dX12_sayRing_85 : decode cX12_sayRing 85 = .ok (.invokevirtual 230, 3) := by decide +kernel
theorem dX12_sayRing_88 : decode cX12_sayRing 88 = .ok (.aload_n 0, 1) := by decide +kernel
theorem dX12_sayRing_89 : decode cX12_sayRing 89 = .ok (.aload_n 0, 1) := by decide +kernel
theorem dX12_sayRing_90 : decode cX12_sayRing 90 = .ok (.iload_n 1, 1) := by decide +kernel
theorem dX12_sayRing_91 : decode cX12_sayRing 91 = .ok (.iconst 1, 1) := by decide +kernel
theorem dX12_sayRing_92 : decode cX12_sayRing 92 = .ok (.invokevirtual 187, 3) := by decide +kernel
theorem dX12_sayRing_95 : decode cX12_sayRing 95 = .ok (.i2l, 1) := by decide +kernel
theorem dX12_sayRing_96 : decode cX12_sayRing 96 = .ok (.invokevirtual 230, 3) := by decide +kernel
theorem dX12_sayRing_99 : decode cX12_sayRing 99 = .ok (.iinc 1 1, 3) := by decide +kernel
theorem dX12_sayRing_102 : decode cX12_sayRing 102 = .ok (.goto (-30), 3) := by decide +kernel
theorem dX12_sayRing_105 : decode cX12_sayRing 105 = .ok (.aload_n 0, 1) := by decide +kernel
theorem dX12_sayRing_106 : decode cX12_sayRing 106 = .ok (.aload_n 0, 1) := by decide +kernel
theorem dX12_sayRing_107 : decode cX12_sayRing 107 = .ok (.iconst 3, 1) := by decide +kernel
theorem dX12_sayRing_108 : decode cX12_sayRing 108 = .ok (.invokevirtual 190, 3) := by decide +kernel
theorem dX12_sayRing_111 : decode cX12_sayRing 111 = .ok (.i2l, 1) := by decide +kernel
theorem dX12_sayRing_112 : decode cX12_sayRing 112 = .ok (.invokevirtual 230, 3) := by decide +kernel
theorem dX12_sayRing_115 : decode cX12_sayRing 115 = .ok (.return_, 1) := by decide +kernel
set_option maxRecDepth 20000 in
theorem ggX12_digest_X12_tell : GoodIn wsX12_digest wsX12_tell := goodIn_r _ [10, 11, 12, 13, 14, 15, 16, 9, 17, 18, 19, 20, 21, 22, 23, 24, 25, 26, 27, 28, 29, 30, 31, 32, 33, 34, 35, 36, 37, 38, 39, 40, 41, 42, 43, 44, 45, 3, 46, 47, 48, 49, 115, 116, 117, 118, 119, 120, 121, 122, 123, 124, 125, 126, 127, 128, 129, 130, 131, 132, 133, 134, 135, 136, 137, 138, 139, 140, 141, 142, 143, 144, 145, 146, 147] (by decide +kernel) (by decide +kernel)
set_option maxRecDepth 20000 in
theorem gX12_digest_X12_tell : GoodIn wsX12_digest (wsV RX12 144 RX12 yX12_tell wsX12_tell) := goodIn_app (goodIn_of _ (by decide +kernel)) ggX12_digest_X12_tell
set_option maxRecDepth 20000 in
theorem ggX12_digest_X12_say : GoodIn wsX12_digest wsX12_say := goodIn_r _ [53, 54, 2, 115, 116, 117, 118, 119, 120, 121, 122, 123, 124, 125, 126, 127, 128, 129, 130, 131, 132, 133, 134, 135, 136, 137, 138, 139, 140, 141, 142, 143, 144, 145, 146, 147] (by decide +kernel) (by decide +kernel)
set_option maxRecDepth 20000 in
theorem gX12_digest_X12_say : GoodIn wsX12_digest (wsV RX12 230 RX12 yX12_say wsX12_say) := goodIn_app (goodIn_of _ (by decide +kernel)) ggX12_digest_X12_say
set_option maxRecDepth 20000 in
theorem ggX12_digest_X12_lacks : GoodIn wsX12_digest wsX12_lacks := goodIn_r _ [58, 3, 115, 116, 117, 118, 119, 120, 121, 122, 123, 124, 125, 126, 127, 128, 129, 130, 131, 132, 133, 134, 135, 136, 137, 138, 139, 140, 141, 142, 143, 144, 145, 146, 147] (by decide +kernel) (by decide +kernel)
set_option maxRecDepth 20000 in
theorem gX12_digest_X12_lacks : GoodIn wsX12_digest (wsV RX12 167 RX12 yX12_lacks wsX12_lacks) := goodIn_app (goodIn_of _ (by decide +kernel)) ggX12_digest_X12_lacks
set_option maxRecDepth 20000 in
theorem ggX12_digest_X12_sayRing : GoodIn wsX12_digest wsX12_sayRing := goodIn_r _ [62, 3, 13, 63, 64, 65, 9, 66, 12, 67, 68, 69, 70, 71, 18, 19, 20, 21, 11, 50, 51, 52, 53, 54, 2, 72, 73, 74, 75, 76, 77, 78, 79, 80, 81, 26, 27, 28, 29, 30, 31, 32, 33, 34, 35, 36, 37, 38, 39, 40, 41, 42, 43, 44, 45, 14, 15, 16, 17, 46, 47, 48, 49, 82, 83, 84, 85, 86, 87, 88, 89, 90, 91, 92, 93, 94, 95, 96, 97, 98, 99, 100, 101, 102, 103, 104, 105, 115, 116, 117, 118, 119, 120, 121, 122, 123, 124, 125, 126, 127, 128, 129, 130, 131, 132, 133, 134, 135, 136, 137, 138, 139, 140, 141, 142, 143, 144, 145, 146, 147] (by decide +kernel) (by decide +kernel)
set_option maxRecDepth 20000 in
theorem gX12_digest_X12_sayRing : GoodIn wsX12_digest (wsV RX12 236 RX12 yX12_sayRing wsX12_sayRing) := goodIn_app (goodIn_of _ (by decide +kernel)) ggX12_digest_X12_sayRing
set_option maxRecDepth 20000 in
theorem ggX12_digest_X12_countOf : GoodIn wsX12_digest wsX12_countOf := goodIn_r _ [109, 3, 12, 13, 33, 96, 4, 110, 55, 56, 57, 9, 58, 42, 43, 44, 45, 14, 15, 16, 17, 11, 111, 112, 113, 114, 115, 116, 117, 118, 119, 120, 121, 122, 123, 124, 125, 126, 127, 128, 129, 130, 131, 132, 133, 134, 135, 136, 137, 138, 139, 140, 141, 142, 143, 144, 145, 146, 147] (by decide +kernel) (by decide +kernel)
set_option maxRecDepth 20000 in
theorem gX12_digest_X12_countOf : GoodIn wsX12_digest (wsV RX12 223 RX12 yX12_countOf wsX12_countOf) := goodIn_app (goodIn_of _ (by decide +kernel)) ggX12_digest_X12_countOf
theorem dX12_digest_0 : decode cX12_digest 0 = .ok (.aload_n 0, 1) := by decide +kernel
theorem dX12_digest_1 : decode cX12_digest 1 = .ok (.ldc2_w 234, 3) := by decide +kernel
theorem dX12_digest_4 : decode cX12_digest 4 = .ok (.putfield 226, 3) := by decide +kernel
theorem dX12_digest_7 : decode cX12_digest 7 = .ok (.iconst 0, 1) := by decide +kernel
theorem dX12_digest_8 : decode cX12_digest 8 = .ok (.istore_n 1, 1) := by decide +kernel
theorem dX12_digest_9 : decode cX12_digest 9 = .ok (.iload_n 1, 1) := by decide +kernel
theorem dX12_digest_10 : decode cX12_digest 10 = .ok (.aload_n 0, 1) := by decide +kernel
theorem dX12_digest_11 : decode cX12_digest 11 = .ok (.getfield 87, 3) := by decide +kernel
theorem dX12_digest_14 : decode cX12_digest 14 = .ok (.if_icmp .ge 34, 3) := by decide +kernel
theorem dX12_digest_17 : decode cX12_digest 17 = .ok (.iconst 0, 1) := by decide +kernel
theorem dX12_digest_18 : decode cX12_digest 18 = .ok (.istore_n 2, 1) := by decide +kernel
theorem dX12_digest_19 : decode cX12_digest 19 = .ok (.iload_n 2, 1) := by decide +kernel
theorem dX12_digest_20 : decode cX12_digest 20 = .ok (.bipush 7, 2) := by decide +kernel
theorem dX12_digest_22 : decode cX12_digest 22 = .ok (.if_icmp .ge 20, 3) := by decide +kernel
theorem dX12_digest_25 : decode cX12_digest 25 = .ok (.aload_n 0, 1) := by decide +kernel
theorem dX12_digest_26 : decode cX12_digest 26 = .ok (.aload_n 0, 1) := by decide +kernel
theorem dX12_digest_27 : decode cX12_digest 27 = .ok (.iload_n 1, 1) := by decide +kernel
theorem dX12_digest_28 : decode cX12_digest 28 = .ok (.iload_n 2, 1) := by decide +kernel
theorem dX12_digest_29 : decode cX12_digest 29 = .ok (.invokevirtual 144, 3) := by decide +kernel
theorem dX12_digest_32 : decode cX12_digest 32 = .ok (.i2l, 1) := by decide +kernel
theorem dX12_digest_33 : decode cX12_digest 33 = .ok (.invokevirtual 230, 3) := by decide +kernel
theorem dX12_digest_36 : decode cX12_digest 36 = .ok (.iinc 2 1, 3) := by decide +kernel
theorem dX12_digest_39 : decode cX12_digest 39 = .ok (.goto (-20), 3) := by decide +kernel
theorem dX12_digest_42 : decode cX12_digest 42 = .ok (.iinc 1 1, 3) := by decide +kernel
theorem dX12_digest_45 : decode cX12_digest 45 = .ok (.goto (-36), 3) := by decide +kernel
theorem dX12_digest_48 : decode cX12_digest 48 = .ok (.aload_n 0, 1) := by decide +kernel
theorem dX12_digest_49 : decode cX12_digest 49 = .ok (.invokevirtual 167, 3) := by decide +kernel
theorem dX12_digest_52 : decode cX12_digest 52 = .ok (.ifCond .ne 7, 3) := by decide +kernel
theorem dX12_digest_55 : decode cX12_digest 55 = .ok (.aload_n 0, 1) := by decide +kernel
theorem dX12_digest_56 : decode cX12_digest 56 = .ok (.invokevirtual 236, 3) := by decide +kernel
theorem dX12_digest_59 : decode cX12_digest 59 = .ok (.iconst 0, 1) := by decide +kernel
theorem dX12_digest_60 : decode cX12_digest 60 = .ok (.istore_n 1, 1) := by decide +kernel
theorem dX12_digest_61 : decode cX12_digest 61 = .ok (.iload_n 1, 1) := by decide +kernel
theorem dX12_digest_62 : decode cX12_digest 62 = .ok (.aload_n 0, 1) := by decide +kernel
theorem dX12_digest_63 : decode cX12_digest 63 = .ok (.getfield 59, 3) := by decide +kernel
theorem dX12_digest_66 : decode cX12_digest 66 = .ok (.if_icmp .ge 20, 3) := by decide +kernel
theorem dX12_digest_69 : decode cX12_digest 69 = .ok (.aload_n 0, 1) := by decide +kernel
theorem dX12_digest_70 : decode cX12_digest 70 = .ok (.aload_n 0, 1) := by decide +kernel
theorem dX12_digest_71 : decode cX12_digest 71 = .ok (.getfield 7, 3) := by decide +kernel
theorem dX12_digest_74 : decode cX12_digest 74 = .ok (.iload_n 1, 1) := by decide +kernel
theorem dX12_digest_75 : decode cX12_digest 75 = .ok (.iaload, 1) := by decide +kernel
theorem dX12_digest_76 : decode cX12_digest 76 = .ok (.i2l, 1) := by decide +kernel
theorem dX12_digest_77 : decode cX12_digest 77 = .ok (.invokevirtual 230, 3) := by decide +kernel
theorem dX12_digest_80 : decode cX12_digest 80 = .ok (.iinc 1 1, 3) := by decide +kernel
theorem dX12_digest_83 : decode cX12_digest 83 = .ok (.goto (-22), 3) := by decide +kernel
theorem dX12_digest_86 : decode cX12_digest 86 = .ok (.iconst 0, 1) := by decide +kernel
theorem dX12_digest_87 : decode cX12_digest 87 = .ok (.istore_n 1, 1) := by decide +kernel
theorem dX12_digest_88 : decode cX12_digest 88 = .ok (.iload_n 1, 1) := by decide +kernel
theorem dX12_digest_89 : decode cX12_digest 89 = .ok (.bipush 10, 2) := by decide +kernel
theorem dX12_digest_91 : decode cX12_digest 91 = .ok (.if_icmp .ge 19, 3) := by decide +kernel
theorem dX12_digest_94 : decode cX12_digest 94 = .ok (.aload_n 0, 1) := by decide +kernel
theorem dX12_digest_95 : decode cX12_digest 95 = .ok (.aload_n 0, 1) := by decide +kernel
theorem dX12_digest_96 : decode cX12_digest 96 = .ok (.iload_n 1, 1) := by decide +kernel
theorem dX12_digest_97 : decode cX12_digest 97 = .ok (.invokevirtual 223, 3) := by decide +kernel
theorem dX12_digest_100 : decode cX12_digest 100 = .ok (.i2l, 1) := by decide +kernel
theorem dX12_digest_101 : decode cX12_digest 101 = .ok (.invokevirtual 230, 3) := by decide +kernel
theorem dX12_digest_104 : decode cX12_digest 104 = .ok (.iinc 1 1, 3) := by decide +kernel
theorem dX12_digest_107 : decode cX12_digest 107 = .ok (.goto (-19), 3) := by decide +kernel
theorem dX12_digest_110 : decode cX12_digest 110 = .ok (.aload_n 0, 1) := by decide +kernel
theorem dX12_digest_111 : decode cX12_digest 111 = .ok (.getfield 226, 3) := by decide +kernel
theorem dX12_digest_114 : decode cX12_digest 114 = .ok (.lreturn, 1) := by decide +kernel
theorem dJ9_max_7cf53_0 : decode cJ9_max_7cf53 0 = .ok (.iload_n 0, 1) := by decide +kernel
theorem dJ9_max_7cf53_1 : decode cJ9_max_7cf53 1 = .ok (.iload_n 1, 1) := by decide +kernel
theorem dJ9_max_7cf53_2 : decode cJ9_max_7cf53 2 = .ok (.if_icmp .lt 7, 3) := by decide +kernel
theorem dJ9_max_7cf53_5 : decode cJ9_max_7cf53 5 = .ok (.iload_n 0, 1) := by decide +kernel
theorem dJ9_max_7cf53_6 : decode cJ9_max_7cf53 6 = .ok (.goto 4, 3) := by decide +kernel
theorem dJ9_max_7cf53_9 : decode cJ9_max_7cf53 9 = .ok (.iload_n 1, 1) := by decide +kernel
theorem dJ9_max_7cf53_10 : decode cJ9_max_7cf53 10 = .ok (.ireturn, 1) := by decide +kernel
theorem dJ9_min_7cf53_0 : decode cJ9_min_7cf53 0 = .ok (.iload_n 0, 1) := by decide +kernel
theorem dJ9_min_7cf53_1 : decode cJ9_min_7cf53 1 = .ok (.iload_n 1, 1) := by decide +kernel
theorem dJ9_min_7cf53_2 : decode cJ9_min_7cf53 2 = .ok (.if_icmp .gt 7, 3) := by decide +kernel
theorem dJ9_min_7cf53_5 : decode cJ9_min_7cf53 5 = .ok (.iload_n 0, 1) := by decide +kernel
theorem dJ9_min_7cf53_6 : decode cJ9_min_7cf53 6 = .ok (.goto 4, 3) := by decide +kernel
theorem dJ9_min_7cf53_9 : decode cJ9_min_7cf53 9 = .ok (.iload_n 1, 1) := by decide +kernel
theorem dJ9_min_7cf53_10 : decode cJ9_min_7cf53 10 = .ok (.ireturn, 1) := by decide +kernel
theorem dJ7_fill_53178_0 : decode cJ7_fill_53178 0 = .ok (.iconst 0, 1) := by decide +kernel
theorem dJ7_fill_53178_1 : decode cJ7_fill_53178 1 = .ok (.istore_n 2, 1) := by decide +kernel
theorem dJ7_fill_53178_2 : decode cJ7_fill_53178 2 = .ok (.aload_n 0, 1) := by decide +kernel
theorem dJ7_fill_53178_3 : decode cJ7_fill_53178 3 = .ok (.arraylength, 1) := by decide +kernel
theorem dJ7_fill_53178_4 : decode cJ7_fill_53178 4 = .ok (.istore_n 3, 1) := by decide +kernel
theorem dJ7_fill_53178_5 : decode cJ7_fill_53178 5 = .ok (.iload_n 2, 1) := by decide +kernel
theorem dJ7_fill_53178_6 : decode cJ7_fill_53178 6 = .ok (.iload_n 3, 1) := by decide +kernel
theorem dJ7_fill_53178_7 : decode cJ7_fill_53178 7 = .ok (.if_icmp .ge 13, 3) := by decide +kernel
theorem dJ7_fill_53178_10 : decode cJ7_fill_53178 10 = .ok (.aload_n 0, 1) := by decide +kernel
theorem dJ7_fill_53178_11 : decode cJ7_fill_53178 11 = .ok (.iload_n 2, 1) := by decide +kernel
theorem dJ7_fill_53178_12 : decode cJ7_fill_53178 12 = .ok (.iload_n 1, 1) := by decide +kernel
theorem dJ7_fill_53178_13 : decode cJ7_fill_53178 13 = .ok (.iastore, 1) := by decide +kernel
theorem dJ7_fill_53178_14 : decode cJ7_fill_53178 14 = .ok (.iinc 2 1, 3) := by decide +kernel
theorem dJ7_fill_53178_17 : decode cJ7_fill_53178 17 = .ok (.goto (-12), 3) := by decide +kernel
theorem dJ7_fill_53178_20 : decode cJ7_fill_53178 20 = .ok (.return_, 1) := by decide +kernel
