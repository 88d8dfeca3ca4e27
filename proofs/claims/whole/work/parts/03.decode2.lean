theorem dX11_init_0 : decode cX11_init 0 = .ok (.aload_n 0, 1) := by decide +kernel
theorem dX11_init_1 : decode cX11_init 1 = .ok (.invokespecial 3, 3) := by decide +kernel
theorem dX11_init_4 : decode cX11_init 4 = .ok (.aload_n 0, 1) := by decide +kernel
theorem dX11_init_5 : decode cX11_init 5 = .ok (.new 9, 3) := by decide +kernel
theorem dX11_init_8 : decode cX11_init 8 = .ok (.dup, 1) := by decide +kernel
theorem dX11_init_9 : decode cX11_init 9 = .ok (.invokespecial 11, 3) := by decide +kernel
theorem dX11_init_12 : decode cX11_init 12 = .ok (.putfield 12, 3) := by decide +kernel
theorem dX11_init_15 : decode cX11_init 15 = .ok (.aload_n 0, 1) := by decide +kernel
theorem dX11_init_16 : decode cX11_init 16 = .ok (.new 16, 3) := by decide +kernel
theorem dX11_init_19 : decode cX11_init 19 = .ok (.dup, 1) := by decide +kernel
theorem dX11_init_20 : decode cX11_init 20 = .ok (.invokespecial 18, 3) := by decide +kernel
theorem dX11_init_23 : decode cX11_init 23 = .ok (.putfield 19, 3) := by decide +kernel
theorem dX11_init_26 : decode cX11_init 26 = .ok (.aload_n 0, 1) := by decide +kernel
theorem dX11_init_27 : decode cX11_init 27 = .ok (.new 23, 3) := by decide +kernel
theorem dX11_init_30 : decode cX11_init 30 = .ok (.dup, 1) := by decide +kernel
theorem dX11_init_31 : decode cX11_init 31 = .ok (.invokespecial 25, 3) := by decide +kernel
theorem dX11_init_34 : decode cX11_init 34 = .ok (.putfield 26, 3) := by decide +kernel
theorem dX11_init_37 : decode cX11_init 37 = .ok (.aload_n 0, 1) := by decide +kernel
theorem dX11_init_38 : decode cX11_init 38 = .ok (.new 23, 3) := by decide +kernel
theorem dX11_init_41 : decode cX11_init 41 = .ok (.dup, 1) := by decide +kernel
theorem dX11_init_42 : decode cX11_init 42 = .ok (.invokespecial 25, 3) := by decide +kernel
theorem dX11_init_45 : decode cX11_init 45 = .ok (.putfield 30, 3) := by decide +kernel
theorem dX11_init_48 : decode cX11_init 48 = .ok (.aload_n 0, 1) := by decide +kernel
theorem dX11_init_49 : decode cX11_init 49 = .ok (.new 23, 3) := by decide +kernel
theorem dX11_init_52 : decode cX11_init 52 = .ok (.dup, 1) := by decide +kernel
theorem dX11_init_53 : decode cX11_init 53 = .ok (.invokespecial 25, 3) := by decide +kernel
theorem dX11_init_56 : decode cX11_init 56 = .ok (.putfield 33, 3) := by decide +kernel
theorem dX11_init_59 : decode cX11_init 59 = .ok (.aload_n 0, 1) := by decide +kernel
theorem dX11_init_60 : decode cX11_init 60 = .ok (.new 36, 3) := by decide +kernel
theorem dX11_init_63 : decode cX11_init 63 = .ok (.dup, 1) := by decide +kernel
theorem dX11_init_64 : decode cX11_init 64 = .ok (.invokespecial 38, 3) := by decide +kernel
theorem dX11_init_67 : decode cX11_init 67 = .ok (.putfield 39, 3) := by decide +kernel
theorem dX11_init_70 : decode cX11_init 70 = .ok (.aload_n 0, 1) := by decide +kernel
theorem dX11_init_71 : decode cX11_init 71 = .ok (.new 36, 3) := by decide +kernel
theorem dX11_init_74 : decode cX11_init 74 = .ok (.dup, 1) := by decide +kernel
theorem dX11_init_75 : decode cX11_init 75 = .ok (.invokespecial 38, 3) := by decide +kernel
theorem dX11_init_78 : decode cX11_init 78 = .ok (.putfield 43, 3) := by decide +kernel
theorem dX11_init_81 : decode cX11_init 81 = .ok (.aload_n 0, 1) := by decide +kernel
theorem dX11_init_82 : decode cX11_init 82 = .ok (.new 46, 3) := by decide +kernel
theorem dX11_init_85 : decode cX11_init 85 = .ok (.dup, 1) := by decide +kernel
theorem dX11_init_86 : decode cX11_init 86 = .ok (.invokespecial 48, 3) := by decide +kernel
theorem dX11_init_89 : decode cX11_init 89 = .ok (.putfield 49, 3) := by decide +kernel
theorem dX11_init_92 : decode cX11_init 92 = .ok (.aload_n 0, 1) := by decide +kernel
theorem dX11_init_93 : decode cX11_init 93 = .ok (.new 53, 3) := by decide +kernel
theorem dX11_init_96 : decode cX11_init 96 = .ok (.dup, 1) := by decide +kernel
theorem dX11_init_97 : decode cX11_init 97 = .ok (.invokespecial 55, 3) := by decide +kernel
theorem dX11_init_100 : decode cX11_init 100 = .ok (.putfield 56, 3) := by decide +kernel
theorem dX11_init_103 : decode cX11_init 103 = .ok (.aload_n 0, 1) := by decide +kernel
theorem dX11_init_104 : decode cX11_init 104 = .ok (.iconst 4, 1) := by decide +kernel
theorem dX11_init_105 : decode cX11_init 105 = .ok (.newarray .int, 2) := by decide +kernel
theorem dX11_init_107 : decode cX11_init 107 = .ok (.putfield 60, 3) := by decide +kernel
theorem dX11_init_110 : decode cX11_init 110 = .ok (.aload_n 0, 1) := by decide +kernel
theorem dX11_init_111 : decode cX11_init 111 = .ok (.iconst 4, 1) := by decide +kernel
theorem dX11_init_112 : decode cX11_init 112 = .ok (.newarray .int, 2) := by decide +kernel
theorem dX11_init_114 : decode cX11_init 114 = .ok (.putfield 64, 3) := by decide +kernel
theorem dX11_init_117 : decode cX11_init 117 = .ok (.aload_n 0, 1) := by decide +kernel
theorem dX11_init_118 : decode cX11_init 118 = .ok (.iconst (-1), 1) := by decide +kernel
theorem dX11_init_119 : decode cX11_init 119 = .ok (.putfield 67, 3) := by decide +kernel
theorem dX11_init_122 : decode cX11_init 122 = .ok (.aload_n 0, 1) := by decide +kernel
theorem dX11_init_123 : decode cX11_init 123 = .ok (.iconst 0, 1) := by decide +kernel
theorem dX11_init_124 : decode cX11_init 124 = .ok (.putfield 71, 3) := by decide +kernel
theorem dX11_init_127 : decode cX11_init 127 = .ok (.aload_n 0, 1) := by decide +kernel
theorem dX11_init_128 : decode cX11_init 128 = .ok (.iconst 0, 1) := by decide +kernel
theorem dX11_init_129 : decode cX11_init 129 = .ok (.putfield 75, 3) := by decide +kernel
theorem dX11_init_132 : decode cX11_init 132 = .ok (.return_, 1) := by decide +kernel
set_option maxRecDepth 20000 in
theorem ggX11_letter_X4_add : GoodIn wsX11_letter wsX4_add := goodIn_r _ [5, 6, 7, 22, 23] (by decide +kernel) (by decide +kernel)
set_option maxRecDepth 20000 in
theorem gX11_letter_X4_add_n78 : GoodIn wsX11_letter (wsX4_add) := ggX11_letter_X4_add
theorem dX11_letter_0 : decode cX11_letter 0 = .ok (.iload_n 1, 1) := by decide +kernel
theorem dX11_letter_1 : decode cX11_letter 1 = .ok (.iconst 1, 1) := by decide +kernel
theorem dX11_letter_2 : decode cX11_letter 2 = .ok (.if_icmp .lt 9, 3) := by decide +kernel
theorem dX11_letter_5 : decode cX11_letter 5 = .ok (.iload_n 1, 1) := by decide +kernel
theorem dX11_letter_6 : decode cX11_letter 6 = .ok (.bipush 126, 2) := by decide +kernel
theorem dX11_letter_8 : decode cX11_letter 8 = .ok (.if_icmp .le 6, 3) := by decide +kernel
theorem dX11_letter_11 : decode cX11_letter 11 = .ok (.bipush (-102), 2) := by decide +kernel
theorem dX11_letter_13 : decode cX11_letter 13 = .ok (.ireturn, 1) := by decide +kernel
theorem dX11_letter_14 : decode cX11_letter 14 = .ok (.aload_n 0, 1) := by decide +kernel
theorem dX11_letter_15 : decode cX11_letter 15 = .ok (.getfield 12, 3) := by decide +kernel
theorem dX11_letter_18 : decode cX11_letter 18 = .ok (.iload_n 1, 1) := by decide +kernel
theorem dX11_letter_19 : decode cX11_letter 19 = .ok (.invokevirtual 78, 3) := by decide +kernel
theorem dX11_letter_22 : decode cX11_letter 22 = .ok (.ifCond .eq 13, 3) := by decide +kernel
theorem dX11_letter_25 : decode cX11_letter 25 = .ok (.aload_n 0, 1) := by decide +kernel
theorem dX11_letter_26 : decode cX11_letter 26 = .ok (.getfield 12, 3) := by decide +kernel
theorem dX11_letter_29 : decode cX11_letter 29 = .ok (.getfield 82, 3) := by decide +kernel
theorem dX11_letter_32 : decode cX11_letter 32 = .ok (.goto 5, 3) := by decide +kernel
theorem dX11_letter_35 : decode cX11_letter 35 = .ok (.bipush (-104), 2) := by decide +kernel
theorem dX11_letter_37 : decode cX11_letter 37 = .ok (.ireturn, 1) := by decide +kernel
set_option maxRecDepth 20000 in
theorem ggX11_blank_X4_clear : GoodIn wsX11_blank wsX4_clear := goodIn_r _ [5, 6, 21, 22] (by decide +kernel) (by decide +kernel)
set_option maxRecDepth 20000 in
theorem gX11_blank_X4_clear_n85 : GoodIn wsX11_blank (wsX4_clear) := ggX11_blank_X4_clear
theorem dX11_blank_0 : decode cX11_blank 0 = .ok (.aload_n 0, 1) := by decide +kernel
theorem dX11_blank_1 : decode cX11_blank 1 = .ok (.getfield 12, 3) := by decide +kernel
theorem dX11_blank_4 : decode cX11_blank 4 = .ok (.getfield 82, 3) := by decide +kernel
theorem dX11_blank_7 : decode cX11_blank 7 = .ok (.istore_n 1, 1) := by decide +kernel
theorem dX11_blank_8 : decode cX11_blank 8 = .ok (.aload_n 0, 1) := by decide +kernel
theorem dX11_blank_9 : decode cX11_blank 9 = .ok (.getfield 12, 3) := by decide +kernel
theorem dX11_blank_12 : decode cX11_blank 12 = .ok (.invokevirtual 85, 3) := by decide +kernel
theorem dX11_blank_15 : decode cX11_blank 15 = .ok (.iload_n 1, 1) := by decide +kernel
theorem dX11_blank_16 : decode cX11_blank 16 = .ok (.ireturn, 1) := by decide +kernel
set_option maxRecDepth 20000 in
theorem ggX11_fault_X4_faultPlace : GoodIn wsX11_fault wsX4_faultPlace := goodIn_r _ [5, 6, 7, 8, 9, 3, 10, 11, 12, 13, 14, 15, 16, 17, 18, 19, 20, 21, 22, 37, 38] (by decide +kernel) (by decide +kernel)
set_option maxRecDepth 20000 in
theorem gX11_fault_X4_faultPlace_n88 : GoodIn wsX11_fault (wsX4_faultPlace) := ggX11_fault_X4_faultPlace
theorem dX11_fault_0 : decode cX11_fault 0 = .ok (.aload_n 0, 1) := by decide +kernel
theorem dX11_fault_1 : decode cX11_fault 1 = .ok (.getfield 12, 3) := by decide +kernel
theorem dX11_fault_4 : decode cX11_fault 4 = .ok (.invokevirtual 88, 3) := by decide +kernel
theorem dX11_fault_7 : decode cX11_fault 7 = .ok (.ireturn, 1) := by decide +kernel
set_option maxRecDepth 20000 in
theorem ggX11_ring_X4_isRing : GoodIn wsX11_ring wsX4_isRing := goodIn_r _ [10, 11, 12, 13, 14, 8, 15, 16, 17, 18, 19, 20, 21, 22, 23, 24, 25, 26, 27, 28, 29, 30, 31, 106, 107] (by decide +kernel) (by decide +kernel)
set_option maxRecDepth 20000 in
theorem gX11_ring_X4_isRing_n92 : GoodIn wsX11_ring (wsX4_isRing) := ggX11_ring_X4_isRing
set_option maxRecDepth 20000 in
theorem ggX11_ring_X4_leadingPeople : GoodIn wsX11_ring wsX4_leadingPeople := goodIn_r _ [15, 16, 17, 18, 8, 19, 11, 20, 21, 22, 23, 106, 107] (by decide +kernel) (by decide +kernel)
set_option maxRecDepth 20000 in
theorem gX11_ring_X4_leadingPeople_n96 : GoodIn wsX11_ring (wsX4_leadingPeople) := ggX11_ring_X4_leadingPeople
set_option maxRecDepth 20000 in
theorem ggX11_ring_X5_clear : GoodIn wsX11_ring wsX5_clear := goodIn_r _ [34, 35, 104, 105] (by decide +kernel) (by decide +kernel)
set_option maxRecDepth 20000 in
theorem gX11_ring_X5_clear_n99 : GoodIn wsX11_ring (wsX5_clear) := ggX11_ring_X5_clear
set_option maxRecDepth 20000 in
theorem ggX11_ring_X4_at : GoodIn wsX11_ring wsX4_at := goodIn_r _ [19, 11, 20, 106, 107] (by decide +kernel) (by decide +kernel)
set_option maxRecDepth 20000 in
theorem gX11_ring_X4_at_n100 : GoodIn wsX11_ring (wsX4_at) := ggX11_ring_X4_at
set_option maxRecDepth 20000 in
theorem ggX11_ring_X5_join : GoodIn wsX11_ring wsX5_join := goodIn_r _ [38, 35, 39, 40, 41, 22, 42, 43, 44, 45, 46, 47, 48, 49, 50, 51, 52, 53, 54, 55, 56, 57, 58, 59, 60, 61, 62, 63, 64, 65, 66, 67, 68, 69, 70, 71, 104, 105, 108] (by decide +kernel) (by decide +kernel)
set_option maxRecDepth 20000 in
theorem gX11_ring_X5_join_n104 : GoodIn wsX11_ring (wsX5_join) := ggX11_ring_X5_join
set_option maxRecDepth 20000 in
theorem ggX11_ring_X8_begin : GoodIn wsX11_ring wsX8_begin := goodIn_r _ [75, 76, 77, 78, 79, 80, 81, 109, 110, 111, 112, 113, 114] (by decide +kernel) (by decide +kernel)
set_option maxRecDepth 20000 in
theorem gX11_ring_X8_begin_n108 : GoodIn wsX11_ring (wsX8_begin) := ggX11_ring_X8_begin
set_option maxRecDepth 20000 in
theorem ggX11_ring_X3_clear : GoodIn wsX11_ring wsX3_clear := goodIn_r _ [85, 86, 115, 116, 117, 118] (by decide +kernel) (by decide +kernel)
set_option maxRecDepth 20000 in
theorem gX11_ring_X3_clear_n111 : GoodIn wsX11_ring (wsX3_clear) := ggX11_ring_X3_clear
set_option maxRecDepth 20000 in
theorem ggX11_ring_X4_clear : GoodIn wsX11_ring wsX4_clear := goodIn_r _ [89, 11, 106, 107] (by decide +kernel) (by decide +kernel)
set_option maxRecDepth 20000 in
theorem gX11_ring_X4_clear_n85 : GoodIn wsX11_ring (wsX4_clear) := ggX11_ring_X4_clear
theorem dX11_ring_0 : decode cX11_ring 0 = .ok (.aload_n 0, 1) := by decide +kernel
theorem dX11_ring_1 : decode cX11_ring 1 = .ok (.getfield 12, 3) := by decide +kernel
theorem dX11_ring_4 : decode cX11_ring 4 = .ok (.invokevirtual 92, 3) := by decide +kernel
theorem dX11_ring_7 : decode cX11_ring 7 = .ok (.ifCond .ne 6, 3) := by decide +kernel
theorem dX11_ring_10 : decode cX11_ring 10 = .ok (.bipush (-103), 2) := by decide +kernel
theorem dX11_ring_12 : decode cX11_ring 12 = .ok (.ireturn, 1) := by decide +kernel
theorem dX11_ring_13 : decode cX11_ring 13 = .ok (.aload_n 0, 1) := by decide +kernel
theorem dX11_ring_14 : decode cX11_ring 14 = .ok (.getfield 12, 3) := by decide +kernel
theorem dX11_ring_17 : decode cX11_ring 17 = .ok (.invokevirtual 96, 3) := by decide +kernel
theorem dX11_ring_20 : decode cX11_ring 20 = .ok (.istore_n 1, 1) := by decide +kernel
theorem dX11_ring_21 : decode cX11_ring 21 = .ok (.aload_n 0, 1) := by decide +kernel
theorem dX11_ring_22 : decode cX11_ring 22 = .ok (.getfield 19, 3) := by decide +kernel
theorem dX11_ring_25 : decode cX11_ring 25 = .ok (.invokevirtual 99, 3) := by decide +kernel
theorem dX11_ring_28 : decode cX11_ring 28 = .ok (.iconst 0, 1) := by decide +kernel
theorem dX11_ring_29 : decode cX11_ring 29 = .ok (.istore_n 2, 1) := by decide +kernel
theorem dX11_ring_30 : decode cX11_ring 30 = .ok (.iload_n 2, 1) := by decide +kernel
theorem dX11_ring_31 : decode cX11_ring 31 = .ok (.iload_n 1, 1) := by decide +kernel
theorem dX11_ring_32 : decode cX11_ring 32 = .ok (.if_icmp .ge 24, 3) := by decide +kernel
theorem dX11_ring_35 : decode cX11_ring 35 = .ok (.aload_n 0, 1) := by decide +kernel
theorem dX11_ring_36 : decode cX11_ring 36 = .ok (.getfield 19, 3) := by decide +kernel
theorem dX11_ring_39 : decode cX11_ring 39 = .ok (.aload_n 0, 1) := by decide +kernel
theorem dX11_ring_40 : decode cX11_ring 40 = .ok (.getfield 12, 3) := by decide +kernel
theorem dX11_ring_43 : decode cX11_ring 43 = .ok (.iload_n 2, 1) := by decide +kernel
theorem dX11_ring_44 : decode cX11_ring 44 = .ok (.invokevirtual 100, 3) := by decide +kernel
theorem dX11_ring_47 : decode cX11_ring 47 = .ok (.invokevirtual 104, 3) := by decide +kernel
theorem dX11_ring_50 : decode cX11_ring 50 = .ok (.iinc 2 1, 3) := by decide +kernel
theorem dX11_ring_53 : decode cX11_ring 53 = .ok (.goto (-23), 3) := by decide +kernel
theorem dX11_ring_56 : decode cX11_ring 56 = .ok (.aload_n 0, 1) := by decide +kernel
theorem dX11_ring_57 : decode cX11_ring 57 = .ok (.getfield 26, 3) := by decide +kernel
theorem dX11_ring_60 : decode cX11_ring 60 = .ok (.bipush 8, 2) := by decide +kernel
theorem dX11_ring_62 : decode cX11_ring 62 = .ok (.aload_n 0, 1) := by decide +kernel
theorem dX11_ring_63 : decode cX11_ring 63 = .ok (.getfield 12, 3) := by decide +kernel
theorem dX11_ring_66 : decode cX11_ring 66 = .ok (.iload_n 1, 1) := by decide +kernel
theorem dX11_ring_67 : decode cX11_ring 67 = .ok (.iconst 1, 1) := by decide +kernel
theorem dX11_ring_68 : decode cX11_ring 68 = .ok (.iadd, 1) := by decide +kernel
theorem dX11_ring_69 : decode cX11_ring 69 = .ok (.invokevirtual 100, 3) := by decide +kernel
theorem dX11_ring_72 : decode cX11_ring 72 = .ok (.bipush 48, 2) := by decide +kernel
theorem dX11_ring_74 : decode cX11_ring 74 = .ok (.isub, 1) := by decide +kernel
theorem dX11_ring_75 : decode cX11_ring 75 = .ok (.imul, 1) := by decide +kernel
theorem dX11_ring_76 : decode cX11_ring 76 = .ok (.aload_n 0, 1) := by decide +kernel
theorem dX11_ring_77 : decode cX11_ring 77 = .ok (.getfield 12, 3) := by decide +kernel
theorem dX11_ring_80 : decode cX11_ring 80 = .ok (.iload_n 1, 1) := by decide +kernel
theorem dX11_ring_81 : decode cX11_ring 81 = .ok (.iconst 2, 1) := by decide +kernel
theorem dX11_ring_82 : decode cX11_ring 82 = .ok (.iadd, 1) := by decide +kernel
theorem dX11_ring_83 : decode cX11_ring 83 = .ok (.invokevirtual 100, 3) := by decide +kernel
theorem dX11_ring_86 : decode cX11_ring 86 = .ok (.iadd, 1) := by decide +kernel
theorem dX11_ring_87 : decode cX11_ring 87 = .ok (.bipush 48, 2) := by decide +kernel
theorem dX11_ring_89 : decode cX11_ring 89 = .ok (.isub, 1) := by decide +kernel
theorem dX11_ring_90 : decode cX11_ring 90 = .ok (.invokevirtual 108, 3) := by decide +kernel
theorem dX11_ring_93 : decode cX11_ring 93 = .ok (.aload_n 0, 1) := by decide +kernel
theorem dX11_ring_94 : decode cX11_ring 94 = .ok (.getfield 39, 3) := by decide +kernel
theorem dX11_ring_97 : decode cX11_ring 97 = .ok (.invokevirtual 111, 3) := by decide +kernel
theorem dX11_ring_100 : decode cX11_ring 100 = .ok (.aload_n 0, 1) := by decide +kernel
theorem dX11_ring_101 : decode cX11_ring 101 = .ok (.iconst 0, 1) := by decide +kernel
theorem dX11_ring_102 : decode cX11_ring 102 = .ok (.putfield 71, 3) := by decide +kernel
theorem dX11_ring_105 : decode cX11_ring 105 = .ok (.aload_n 0, 1) := by decide +kernel
theorem dX11_ring_106 : decode cX11_ring 106 = .ok (.dup, 1) := by decide +kernel
theorem dX11_ring_107 : decode cX11_ring 107 = .ok (.getfield 75, 3) := by decide +kernel
theorem dX11_ring_110 : decode cX11_ring 110 = .ok (.iconst 1, 1) := by decide +kernel
theorem dX11_ring_111 : decode cX11_ring 111 = .ok (.iadd, 1) := by decide +kernel
theorem dX11_ring_112 : decode cX11_ring 112 = .ok (.putfield 75, 3) := by decide +kernel
theorem dX11_ring_115 : decode cX11_ring 115 = .ok (.aload_n 0, 1) := by decide +kernel
theorem dX11_ring_116 : decode cX11_ring 116 = .ok (.getfield 12, 3) := by decide +kernel
theorem dX11_ring_119 : decode cX11_ring 119 = .ok (.invokevirtual 85, 3) := by decide +kernel
theorem dX11_ring_122 : decode cX11_ring 122 = .ok (.aload_n 0, 1) := by decide +kernel
theorem dX11_ring_123 : decode cX11_ring 123 = .ok (.getfield 19, 3) := by decide +kernel
theorem dX11_ring_126 : decode cX11_ring 126 = .ok (.getfield 112, 3) := by decide +kernel
theorem dX11_ring_129 : decode cX11_ring 129 = .ok (.ireturn, 1) := by decide +kernel
set_option maxRecDepth 20000 in
theorem ggX11_about_X5_has : GoodIn wsX11_about wsX5_has := goodIn_r _ [6, 7, 130, 131] (by decide +kernel) (by decide +kernel)
set_option maxRecDepth 20000 in
theorem gX11_about_X5_has_n115 : GoodIn wsX11_about (wsX5_has) := ggX11_about_X5_has
set_option maxRecDepth 20000 in
theorem ggX11_about_X5_kindOf : GoodIn wsX11_about wsX5_kindOf := goodIn_r _ [10, 11, 12, 13, 4, 14, 7, 15, 16, 17, 18, 19, 20, 21, 22, 23, 24, 25, 26, 27, 28, 29, 30, 31, 32, 33, 34, 35, 36, 37, 38, 39, 130, 131] (by decide +kernel) (by decide +kernel)
set_option maxRecDepth 20000 in
theorem gX11_about_X5_kindOf_n118 : GoodIn wsX11_about (wsX5_kindOf) := ggX11_about_X5_kindOf
set_option maxRecDepth 20000 in
theorem ggX11_about_X8_memoryOf : GoodIn wsX11_about wsX8_memoryOf := goodIn_r _ [43, 44, 45, 46, 41, 47, 124, 125, 126, 127, 128, 129] (by decide +kernel) (by decide +kernel)
set_option maxRecDepth 20000 in
theorem gX11_about_X8_memoryOf_n124 : GoodIn wsX11_about (wsX8_memoryOf) := ggX11_about_X8_memoryOf
set_option maxRecDepth 20000 in
theorem ggX11_about_X8_isWrong : GoodIn wsX11_about wsX8_isWrong := goodIn_r _ [50, 51, 52, 53, 40, 42, 41, 43, 44, 45, 46, 47, 124, 125, 126, 127, 128, 129] (by decide +kernel) (by decide +kernel)
set_option maxRecDepth 20000 in
theorem gX11_about_X8_isWrong_n127 : GoodIn wsX11_about (wsX8_isWrong) := ggX11_about_X8_isWrong
set_option maxRecDepth 20000 in
theorem ggX11_about_X8_timesPaid : GoodIn wsX11_about wsX8_timesPaid := goodIn_r _ [56, 57, 45, 46, 41, 47, 124, 125, 126, 127, 128, 129] (by decide +kernel) (by decide +kernel)
set_option maxRecDepth 20000 in
theorem gX11_about_X8_timesPaid_n130 : GoodIn wsX11_about (wsX8_timesPaid) := ggX11_about_X8_timesPaid
set_option maxRecDepth 20000 in
theorem ggX11_about_X11_marksIfPassed : GoodIn wsX11_about wsX11_marksIfPassed := goodIn_r _ [62, 2, 1, 63, 4, 64, 65, 11, 12, 13, 14, 7, 15, 66, 67, 68, 69, 70, 21, 71, 72, 73, 74, 26, 75, 76, 77, 78, 79, 80, 81, 31, 82, 83, 34, 84, 85, 86, 87, 38, 88, 110, 111, 112, 113, 114, 115, 116, 117, 118, 119, 120, 121, 122, 123, 124, 125, 126, 127, 128, 129, 130, 131, 132] (by decide +kernel) (by decide +kernel)
set_option maxRecDepth 20000 in
theorem gX11_about_X11_marksIfPassed : GoodIn wsX11_about (wsV RX11 133 RX11 yX11_marksIfPassed wsX11_marksIfPassed) := goodIn_app (goodIn_of _ (by decide +kernel)) ggX11_about_X11_marksIfPassed
set_option maxRecDepth 20000 in
theorem ggX11_about_X11_wrongIfPassed : GoodIn wsX11_about wsX11_wrongIfPassed := goodIn_r _ [92, 2, 93, 94, 41, 95, 96, 51, 52, 97, 44, 57, 98, 99, 100, 101, 61, 102, 1, 63, 4, 64, 65, 11, 12, 13, 14, 7, 15, 66, 67, 68, 69, 70, 21, 71, 72, 73, 74, 26, 75, 76, 77, 78, 79, 80, 81, 31, 82, 83, 34, 84, 85, 86, 87, 38, 88, 103, 104, 105, 45, 46, 47, 106, 107, 108, 109, 48, 49, 50, 53, 40, 42, 43, 110, 111, 112, 113, 114, 115, 116, 117, 118, 119, 120, 121, 122, 123, 124, 125, 126, 127, 128, 129, 130, 131, 132] (by decide +kernel) (by decide +kernel)
set_option maxRecDepth 20000 in
theorem gX11_about_X11_wrongIfPassed : GoodIn wsX11_about (wsV RX11 136 RX11 yX11_wrongIfPassed wsX11_wrongIfPassed) := goodIn_app (goodIn_of _ (by decide +kernel)) ggX11_about_X11_wrongIfPassed
theorem dX11_about_0 : decode cX11_about 0 = .ok (.aload_n 0, 1) := by decide +kernel
theorem dX11_about_1 : decode cX11_about 1 = .ok (.getfield 19, 3) := by decide +kernel
theorem dX11_about_4 : decode cX11_about 4 = .ok (.iload_n 1, 1) := by decide +kernel
theorem dX11_about_5 : decode cX11_about 5 = .ok (.invokevirtual 115, 3) := by decide +kernel
theorem dX11_about_8 : decode cX11_about 8 = .ok (.ifCond .ne 6, 3) := by decide +kernel
theorem dX11_about_11 : decode cX11_about 11 = .ok (.bipush (-101), 2) := by decide +kernel
theorem dX11_about_13 : decode cX11_about 13 = .ok (.ireturn, 1) := by decide +kernel
theorem dX11_about_14 : decode cX11_about 14 = .ok (.iload_n 2, 1) := by decide +kernel
theorem dX11_about_15 : decode cX11_about 15 = .ok (.tableswitch 114 0 6 #[41, 50, 67, 76, 93, 102, 108], 41) := by decide +kernel
theorem dX11_about_56 : decode cX11_about 56 = .ok (.aload_n 0, 1) := by decide +kernel
theorem dX11_about_57 : decode cX11_about 57 = .ok (.getfield 19, 3) := by decide +kernel
theorem dX11_about_60 : decode cX11_about 60 = .ok (.iload_n 1, 1) := by decide +kernel
theorem dX11_about_61 : decode cX11_about 61 = .ok (.invokevirtual 118, 3) := by decide +kernel
theorem dX11_about_64 : decode cX11_about 64 = .ok (.ireturn, 1) := by decide +kernel
theorem dX11_about_65 : decode cX11_about 65 = .ok (.aload_n 0, 1) := by decide +kernel
theorem dX11_about_66 : decode cX11_about 66 = .ok (.getfield 26, 3) := by decide +kernel
theorem dX11_about_69 : decode cX11_about 69 = .ok (.getfield 121, 3) := by decide +kernel
theorem dX11_about_72 : decode cX11_about 72 = .ok (.iload_n 1, 1) := by decide +kernel
theorem dX11_about_73 : decode cX11_about 73 = .ok (.if_icmp .ne 7, 3) := by decide +kernel
theorem dX11_about_76 : decode cX11_about 76 = .ok (.iconst 1, 1) := by decide +kernel
theorem dX11_about_77 : decode cX11_about 77 = .ok (.goto 4, 3) := by decide +kernel
theorem dX11_about_80 : decode cX11_about 80 = .ok (.iconst 0, 1) := by decide +kernel
theorem dX11_about_81 : decode cX11_about 81 = .ok (.ireturn, 1) := by decide +kernel
theorem dX11_about_82 : decode cX11_about 82 = .ok (.aload_n 0, 1) := by decide +kernel
theorem dX11_about_83 : decode cX11_about 83 = .ok (.getfield 26, 3) := by decide +kernel
theorem dX11_about_86 : decode cX11_about 86 = .ok (.iload_n 1, 1) := by decide +kernel
theorem dX11_about_87 : decode cX11_about 87 = .ok (.invokevirtual 124, 3) := by decide +kernel
theorem dX11_about_90 : decode cX11_about 90 = .ok (.ireturn, 1) := by decide +kernel
theorem dX11_about_91 : decode cX11_about 91 = .ok (.aload_n 0, 1) := by decide +kernel
theorem dX11_about_92 : decode cX11_about 92 = .ok (.getfield 26, 3) := by decide +kernel
theorem dX11_about_95 : decode cX11_about 95 = .ok (.iload_n 1, 1) := by decide +kernel
theorem dX11_about_96 : decode cX11_about 96 = .ok (.invokevirtual 127, 3) := by decide +kernel
theorem dX11_about_99 : decode cX11_about 99 = .ok (.ifCond .eq 7, 3) := by decide +kernel
theorem dX11_about_102 : decode cX11_about 102 = .ok (.iconst 1, 1) := by decide +kernel
theorem dX11_about_103 : decode cX11_about 103 = .ok (.goto 4, 3) := by decide +kernel
theorem dX11_about_106 : decode cX11_about 106 = .ok (.iconst 0, 1) := by decide +kernel
theorem dX11_about_107 : decode cX11_about 107 = .ok (.ireturn, 1) := by decide +kernel
theorem dX11_about_108 : decode cX11_about 108 = .ok (.aload_n 0, 1) := by decide +kernel
theorem dX11_about_109 : decode cX11_about 109 = .ok (.getfield 26, 3) := by decide +kernel
theorem dX11_about_112 : decode cX11_about 112 = .ok (.iload_n 1, 1) := by decide +kernel
theorem dX11_about_113 : decode cX11_about 113 = .ok (.invokevirtual 130, 3) := by decide +kernel
theorem dX11_about_116 : decode cX11_about 116 = .ok (.ireturn, 1) := by decide +kernel
theorem dX11_about_117 : decode cX11_about 117 = .ok (.aload_n 0, 1) := by decide +kernel
theorem dX11_about_118 : decode cX11_about 118 = .ok (.iload_n 1, 1) := by decide +kernel
theorem dX11_about_119 : decode cX11_about 119 = .ok (.invokevirtual 133, 3) := by decide +kernel
theorem dX11_about_122 : decode cX11_about 122 = .ok (.ireturn, 1) := by decide +kernel
theorem dX11_about_123 : decode cX11_about 123 = .ok (.aload_n 0, 1) := by decide +kernel
theorem dX11_about_124 : decode cX11_about 124 = .ok (.iload_n 1, 1) := by decide +kernel
theorem dX11_about_125 : decode cX11_about 125 = .ok (.invokevirtual 136, 3) := by decide +kernel
theorem dX11_about_128 : decode cX11_about 128 = .ok (.ireturn, 1) := by decide +kernel
theorem dX11_about_129 : decode cX11_about 129 = .ok (.bipush (-102), 2) := by decide +kernel
theorem dX11_about_131 : decode cX11_about 131 = .ok (.ireturn, 1) := by decide +kernel
set_option maxRecDepth 20000 in
theorem ggX11_as_X5_has : GoodIn wsX11_as wsX5_has := goodIn_r _ [5, 6, 33, 34] (by decide +kernel) (by decide +kernel)
set_option maxRecDepth 20000 in
theorem gX11_as_X5_has_n115 : GoodIn wsX11_as (wsX5_has) := ggX11_as_X5_has
set_option maxRecDepth 20000 in
theorem ggX11_as_X5_isA : GoodIn wsX11_as wsX5_isA := goodIn_r _ [9, 10, 11, 12, 13, 14, 15, 16, 3, 17, 6, 18, 33, 34] (by decide +kernel) (by decide +kernel)
set_option maxRecDepth 20000 in
theorem gX11_as_X5_isA_n139 : GoodIn wsX11_as (wsX5_isA) := ggX11_as_X5_isA
theorem dX11_as_0 : decode cX11_as 0 = .ok (.aload_n 0, 1) := by decide +kernel
theorem dX11_as_1 : decode cX11_as 1 = .ok (.getfield 19, 3) := by decide +kernel
theorem dX11_as_4 : decode cX11_as 4 = .ok (.iload_n 1, 1) := by decide +kernel
theorem dX11_as_5 : decode cX11_as 5 = .ok (.invokevirtual 115, 3) := by decide +kernel
theorem dX11_as_8 : decode cX11_as 8 = .ok (.ifCond .ne 6, 3) := by decide +kernel
theorem dX11_as_11 : decode cX11_as 11 = .ok (.bipush (-101), 2) := by decide +kernel
theorem dX11_as_13 : decode cX11_as 13 = .ok (.ireturn, 1) := by decide +kernel
theorem dX11_as_14 : decode cX11_as 14 = .ok (.iload_n 2, 1) := by decide +kernel
theorem dX11_as_15 : decode cX11_as 15 = .ok (.ifCond .lt 8, 3) := by decide +kernel
theorem dX11_as_18 : decode cX11_as 18 = .ok (.iload_n 2, 1) := by decide +kernel
theorem dX11_as_19 : decode cX11_as 19 = .ok (.iconst 4, 1) := by decide +kernel
theorem dX11_as_20 : decode cX11_as 20 = .ok (.if_icmp .le 6, 3) := by decide +kernel
theorem dX11_as_23 : decode cX11_as 23 = .ok (.bipush (-102), 2) := by decide +kernel
theorem dX11_as_25 : decode cX11_as 25 = .ok (.ireturn, 1) := by decide +kernel
theorem dX11_as_26 : decode cX11_as 26 = .ok (.aload_n 0, 1) := by decide +kernel
theorem dX11_as_27 : decode cX11_as 27 = .ok (.getfield 19, 3) := by decide +kernel
theorem dX11_as_30 : decode cX11_as 30 = .ok (.iload_n 1, 1) := by decide +kernel
theorem dX11_as_31 : decode cX11_as 31 = .ok (.iload_n 2, 1) := by decide +kernel
theorem dX11_as_32 : decode cX11_as 32 = .ok (.invokevirtual 139, 3) := by decide +kernel
theorem dX11_as_35 : decode cX11_as 35 = .ok (.ifCond .eq 7, 3) := by decide +kernel
theorem dX11_as_38 : decode cX11_as 38 = .ok (.iload_n 1, 1) := by decide +kernel
theorem dX11_as_39 : decode cX11_as 39 = .ok (.goto 4, 3) := by decide +kernel
theorem dX11_as_42 : decode cX11_as 42 = .ok (.iconst (-1), 1) := by decide +kernel
theorem dX11_as_43 : decode cX11_as 43 = .ok (.ireturn, 1) := by decide +kernel
set_option maxRecDepth 20000 in
theorem ggX11_pass_X5_has : GoodIn wsX11_pass wsX5_has := goodIn_r _ [6, 7, 81, 82] (by decide +kernel) (by decide +kernel)
set_option maxRecDepth 20000 in
theorem gX11_pass_X5_has_n115 : GoodIn wsX11_pass (wsX5_has) := ggX11_pass_X5_has
set_option maxRecDepth 20000 in
theorem ggX11_pass_X11_handOver : GoodIn wsX11_pass wsX11_handOver := goodIn_r _ [12, 1, 13, 4, 14, 15, 16, 17, 18, 19, 7, 20, 21, 22, 23, 24, 25, 26, 27, 28, 29, 30, 31, 32, 33, 34, 35, 36, 37, 38, 39, 40, 41, 42, 43, 44, 45, 46, 47, 48, 49, 50, 51, 52, 53, 54, 55, 56, 57, 58, 59, 60, 61, 62, 63, 64, 65, 66, 67, 68, 69, 70, 71, 72, 73, 74, 75, 76, 77, 78, 79, 80, 81, 82, 83] (by decide +kernel) (by decide +kernel)
set_option maxRecDepth 20000 in
theorem gX11_pass_X11_handOver : GoodIn wsX11_pass (wsV RX11 143 RX11 yX11_handOver wsX11_handOver) := goodIn_app (goodIn_of _ (by decide +kernel)) ggX11_pass_X11_handOver
theorem dX11_pass_0 : decode cX11_pass 0 = .ok (.aload_n 0, 1) := by decide +kernel
theorem dX11_pass_1 : decode cX11_pass 1 = .ok (.getfield 19, 3) := by decide +kernel
theorem dX11_pass_4 : decode cX11_pass 4 = .ok (.iload_n 1, 1) := by decide +kernel
theorem dX11_pass_5 : decode cX11_pass 5 = .ok (.invokevirtual 115, 3) := by decide +kernel
theorem dX11_pass_8 : decode cX11_pass 8 = .ok (.ifCond .ne 6, 3) := by decide +kernel
theorem dX11_pass_11 : decode cX11_pass 11 = .ok (.bipush (-101), 2) := by decide +kernel
theorem dX11_pass_13 : decode cX11_pass 13 = .ok (.ireturn, 1) := by decide +kernel
theorem dX11_pass_14 : decode cX11_pass 14 = .ok (.aload_n 0, 1) := by decide +kernel
theorem dX11_pass_15 : decode cX11_pass 15 = .ok (.getfield 26, 3) := by decide +kernel
theorem dX11_pass_18 : decode cX11_pass 18 = .ok (.getfield 121, 3) := by decide +kernel
theorem dX11_pass_21 : decode cX11_pass 21 = .ok (.iload_n 1, 1) := by decide +kernel
theorem dX11_pass_22 : decode cX11_pass 22 = .ok (.if_icmp .ne 6, 3) := by decide +kernel
theorem dX11_pass_25 : decode cX11_pass 25 = .ok (.bipush (-103), 2) := by decide +kernel
theorem dX11_pass_27 : decode cX11_pass 27 = .ok (.ireturn, 1) := by decide +kernel
theorem dX11_pass_28 : decode cX11_pass 28 = .ok (.aload_n 0, 1) := by decide +kernel
theorem dX11_pass_29 : decode cX11_pass 29 = .ok (.aload_n 0, 1) := by decide +kernel
theorem dX11_pass_30 : decode cX11_pass 30 = .ok (.getfield 26, 3) := by decide +kernel
theorem dX11_pass_33 : decode cX11_pass 33 = .ok (.iload_n 1, 1) := by decide +kernel
theorem dX11_pass_34 : decode cX11_pass 34 = .ok (.invokevirtual 143, 3) := by decide +kernel
theorem dX11_pass_37 : decode cX11_pass 37 = .ok (.aload_n 0, 1) := by decide +kernel
theorem dX11_pass_38 : decode cX11_pass 38 = .ok (.getfield 26, 3) := by decide +kernel
theorem dX11_pass_41 : decode cX11_pass 41 = .ok (.getfield 147, 3) := by decide +kernel
theorem dX11_pass_44 : decode cX11_pass 44 = .ok (.ireturn, 1) := by decide +kernel
set_option maxRecDepth 20000 in
theorem ggX11_claim_X5_has : GoodIn wsX11_claim wsX5_has := goodIn_r _ [6, 7, 42, 43] (by decide +kernel) (by decide +kernel)
set_option maxRecDepth 20000 in
theorem gX11_claim_X5_has_n115 : GoodIn wsX11_claim (wsX5_has) := ggX11_claim_X5_has
set_option maxRecDepth 20000 in
theorem ggX11_claim_X8_payIfDue : GoodIn wsX11_claim wsX8_payIfDue := goodIn_r _ [11, 12, 13, 14, 15, 9, 16, 17, 18, 19, 20, 21, 22, 23, 24, 25, 26, 27, 44, 45, 46, 47, 48, 49] (by decide +kernel) (by decide +kernel)
set_option maxRecDepth 20000 in
theorem gX11_claim_X8_payIfDue_n150 : GoodIn wsX11_claim (wsX8_payIfDue) := ggX11_claim_X8_payIfDue
theorem dX11_claim_0 : decode cX11_claim 0 = .ok (.aload_n 0, 1) := by decide +kernel
theorem dX11_claim_1 : decode cX11_claim 1 = .ok (.getfield 19, 3) := by decide +kernel
theorem dX11_claim_4 : decode cX11_claim 4 = .ok (.iload_n 1, 1) := by decide +kernel
theorem dX11_claim_5 : decode cX11_claim 5 = .ok (.invokevirtual 115, 3) := by decide +kernel
theorem dX11_claim_8 : decode cX11_claim 8 = .ok (.ifCond .ne 6, 3) := by decide +kernel
theorem dX11_claim_11 : decode cX11_claim 11 = .ok (.bipush (-101), 2) := by decide +kernel
theorem dX11_claim_13 : decode cX11_claim 13 = .ok (.ireturn, 1) := by decide +kernel
theorem dX11_claim_14 : decode cX11_claim 14 = .ok (.aload_n 0, 1) := by decide +kernel
theorem dX11_claim_15 : decode cX11_claim 15 = .ok (.getfield 26, 3) := by decide +kernel
theorem dX11_claim_18 : decode cX11_claim 18 = .ok (.iload_n 1, 1) := by decide +kernel
theorem dX11_claim_19 : decode cX11_claim 19 = .ok (.invokevirtual 150, 3) := by decide +kernel
theorem dX11_claim_22 : decode cX11_claim 22 = .ok (.ifCond .eq 7, 3) := by decide +kernel
theorem dX11_claim_25 : decode cX11_claim 25 = .ok (.iconst 1, 1) := by decide +kernel
theorem dX11_claim_26 : decode cX11_claim 26 = .ok (.goto 4, 3) := by decide +kernel
theorem dX11_claim_29 : decode cX11_claim 29 = .ok (.iconst 0, 1) := by decide +kernel
theorem dX11_claim_30 : decode cX11_claim 30 = .ok (.ireturn, 1) := by decide +kernel
set_option maxRecDepth 20000 in
theorem ggX11_chain_X5_has : GoodIn wsX11_chain wsX5_has := goodIn_r _ [7, 8, 101, 102] (by decide +kernel) (by decide +kernel)
set_option maxRecDepth 20000 in
theorem gX11_chain_X5_has_n115 : GoodIn wsX11_chain (wsX5_has) := ggX11_chain_X5_has
set_option maxRecDepth 20000 in
theorem ggX11_chain_X11_placeOf : GoodIn wsX11_chain wsX11_placeOf := goodIn_r _ [12] (by decide +kernel) (by decide +kernel)
set_option maxRecDepth 20000 in
theorem gX11_chain_X11_placeOf : GoodIn wsX11_chain (va_wsS RX11 153 yX11_placeOf wsX11_placeOf) := goodIn_app (goodIn_of _ (by decide +kernel)) ggX11_chain_X11_placeOf
set_option maxRecDepth 20000 in
theorem ggX11_chain_X0_measure : GoodIn wsX11_chain wsX0_measure := goodIn_r _ [16, 17, 18, 19, 20, 21, 22, 23, 24, 25, 26, 27, 14, 28, 29, 30, 31, 32, 33, 34, 35, 36, 37, 11, 38, 39, 40, 41, 42, 43, 44, 45, 5, 46, 47, 48, 49, 50, 51, 8, 52, 53, 54, 55, 56, 57, 58, 59, 60, 61, 62, 63, 64, 65, 66, 67, 68, 69, 70, 71, 72, 73, 74, 75, 76, 77, 78, 79, 80, 10, 12, 103, 104, 105, 106, 101, 102, 107] (by decide +kernel) (by decide +kernel)
set_option maxRecDepth 20000 in
theorem gX11_chain_X0_measure_n157 : GoodIn wsX11_chain (wsX0_measure) := ggX11_chain_X0_measure
set_option maxRecDepth 20000 in
theorem ggX11_chain_X0_passesTo : GoodIn wsX11_chain wsX0_passesTo := goodIn_r _ [36, 17, 103, 104, 105, 106] (by decide +kernel) (by decide +kernel)
set_option maxRecDepth 20000 in
theorem gX11_chain_X0_passesTo_n161 : GoodIn wsX11_chain (wsX0_passesTo) := ggX11_chain_X0_passesTo
set_option maxRecDepth 20000 in
theorem ggX11_chain_X0_firstPassTo : GoodIn wsX11_chain wsX0_firstPassTo := goodIn_r _ [42, 18, 103, 104, 105, 106] (by decide +kernel) (by decide +kernel)
set_option maxRecDepth 20000 in
theorem gX11_chain_X0_firstPassTo_n164 : GoodIn wsX11_chain (wsX0_firstPassTo) := ggX11_chain_X0_firstPassTo
theorem dX11_chain_0 : decode cX11_chain 0 = .ok (.aload_n 0, 1) := by decide +kernel
theorem dX11_chain_1 : decode cX11_chain 1 = .ok (.getfield 19, 3) := by decide +kernel
theorem dX11_chain_4 : decode cX11_chain 4 = .ok (.iload_n 1, 1) := by decide +kernel
theorem dX11_chain_5 : decode cX11_chain 5 = .ok (.invokevirtual 115, 3) := by decide +kernel
theorem dX11_chain_8 : decode cX11_chain 8 = .ok (.ifCond .ne 6, 3) := by decide +kernel
theorem dX11_chain_11 : decode cX11_chain 11 = .ok (.bipush (-101), 2) := by decide +kernel
theorem dX11_chain_13 : decode cX11_chain 13 = .ok (.ireturn, 1) := by decide +kernel
theorem dX11_chain_14 : decode cX11_chain 14 = .ok (.iload_n 2, 1) := by decide +kernel
theorem dX11_chain_15 : decode cX11_chain 15 = .ok (.ifCond .lt 18, 3) := by decide +kernel
theorem dX11_chain_18 : decode cX11_chain 18 = .ok (.iload_n 2, 1) := by decide +kernel
theorem dX11_chain_19 : decode cX11_chain 19 = .ok (.bipush 32, 2) := by decide +kernel
theorem dX11_chain_21 : decode cX11_chain 21 = .ok (.if_icmp .ge 12, 3) := by decide +kernel
theorem dX11_chain_24 : decode cX11_chain 24 = .ok (.iload_n 3, 1) := by decide +kernel
theorem dX11_chain_25 : decode cX11_chain 25 = .ok (.ifCond .lt 8, 3) := by decide +kernel
theorem dX11_chain_28 : decode cX11_chain 28 = .ok (.iload_n 3, 1) := by decide +kernel
theorem dX11_chain_29 : decode cX11_chain 29 = .ok (.iconst 1, 1) := by decide +kernel
theorem dX11_chain_30 : decode cX11_chain 30 = .ok (.if_icmp .le 6, 3) := by decide +kernel
theorem dX11_chain_33 : decode cX11_chain 33 = .ok (.bipush (-102), 2) := by decide +kernel
theorem dX11_chain_35 : decode cX11_chain 35 = .ok (.ireturn, 1) := by decide +kernel
theorem dX11_chain_36 : decode cX11_chain 36 = .ok (.aload_n 0, 1) := by decide +kernel
theorem dX11_chain_37 : decode cX11_chain 37 = .ok (.getfield 49, 3) := by decide +kernel
theorem dX11_chain_40 : decode cX11_chain 40 = .ok (.aload_n 0, 1) := by decide +kernel
theorem dX11_chain_41 : decode cX11_chain 41 = .ok (.getfield 19, 3) := by decide +kernel
theorem dX11_chain_44 : decode cX11_chain 44 = .ok (.aload_n 0, 1) := by decide +kernel
theorem dX11_chain_45 : decode cX11_chain 45 = .ok (.getfield 26, 3) := by decide +kernel
theorem dX11_chain_48 : decode cX11_chain 48 = .ok (.getfield 121, 3) := by decide +kernel
theorem dX11_chain_51 : decode cX11_chain 51 = .ok (.aload_n 0, 1) := by decide +kernel
theorem dX11_chain_52 : decode cX11_chain 52 = .ok (.getfield 26, 3) := by decide +kernel
theorem dX11_chain_55 : decode cX11_chain 55 = .ok (.getfield 147, 3) := by decide +kernel
theorem dX11_chain_58 : decode cX11_chain 58 = .ok (.invokestatic 153, 3) := by decide +kernel
theorem dX11_chain_61 : decode cX11_chain 61 = .ok (.invokevirtual 157, 3) := by decide +kernel
theorem dX11_chain_64 : decode cX11_chain 64 = .ok (.iload_n 1, 1) := by decide +kernel
theorem dX11_chain_65 : decode cX11_chain 65 = .ok (.iload_n 2, 1) := by decide +kernel
theorem dX11_chain_66 : decode cX11_chain 66 = .ok (.invokestatic 153, 3) := by decide +kernel
theorem dX11_chain_69 : decode cX11_chain 69 = .ok (.istore 4, 2) := by decide +kernel
theorem dX11_chain_71 : decode cX11_chain 71 = .ok (.iload_n 3, 1) := by decide +kernel
theorem dX11_chain_72 : decode cX11_chain 72 = .ok (.ifCond .ne 15, 3) := by decide +kernel
theorem dX11_chain_75 : decode cX11_chain 75 = .ok (.aload_n 0, 1) := by decide +kernel
theorem dX11_chain_76 : decode cX11_chain 76 = .ok (.getfield 49, 3) := by decide +kernel
theorem dX11_chain_79 : decode cX11_chain 79 = .ok (.iload 4, 2) := by decide +kernel
theorem dX11_chain_81 : decode cX11_chain 81 = .ok (.invokevirtual 161, 3) := by decide +kernel
theorem dX11_chain_84 : decode cX11_chain 84 = .ok (.goto 12, 3) := by decide +kernel
theorem dX11_chain_87 : decode cX11_chain 87 = .ok (.aload_n 0, 1) := by decide +kernel
theorem dX11_chain_88 : decode cX11_chain 88 = .ok (.getfield 49, 3) := by decide +kernel
theorem dX11_chain_91 : decode cX11_chain 91 = .ok (.iload 4, 2) := by decide +kernel
theorem dX11_chain_93 : decode cX11_chain 93 = .ok (.invokevirtual 164, 3) := by decide +kernel
theorem dX11_chain_96 : decode cX11_chain 96 = .ok (.ireturn, 1) := by decide +kernel
set_option maxRecDepth 20000 in
theorem ggX11_calm_X11_findCalm : GoodIn wsX11_calm wsX11_findCalm := goodIn_r _ [8, 3, 9, 10, 11, 12, 13, 14, 15, 16, 7, 17, 18, 19, 1, 20, 21, 22, 23, 24, 25, 26, 27, 28, 29, 30, 31, 32, 33, 34, 35, 36, 37, 38, 39, 40, 41, 42, 43, 44, 45, 46, 47, 48, 49, 50, 51, 52, 53, 54, 55, 56, 57, 58, 59, 60, 61, 62, 63, 64, 65, 66, 67, 68, 69, 70, 71, 72, 73, 74, 75, 76, 77, 2, 78, 79, 80, 81, 82, 83, 84, 85, 86, 87, 88, 89, 90, 91, 92, 93, 94, 95, 96, 97, 98, 99, 100, 101, 102, 103, 104, 105, 106, 107, 108, 109, 110, 113, 114, 115, 116, 117, 118, 111, 112, 119] (by decide +kernel) (by decide +kernel)
set_option maxRecDepth 20000 in
theorem gX11_calm_X11_findCalm : GoodIn wsX11_calm (wsV RX11 167 RX11 yX11_findCalm wsX11_findCalm) := goodIn_app (goodIn_of _ (by decide +kernel)) ggX11_calm_X11_findCalm
theorem dX11_calm_0 : decode cX11_calm 0 = .ok (.iload_n 1, 1) := by decide +kernel
theorem dX11_calm_1 : decode cX11_calm 1 = .ok (.iconst 1, 1) := by decide +kernel
theorem dX11_calm_2 : decode cX11_calm 2 = .ok (.if_icmp .lt 8, 3) := by decide +kernel
theorem dX11_calm_5 : decode cX11_calm 5 = .ok (.iload_n 1, 1) := by decide +kernel
theorem dX11_calm_6 : decode cX11_calm 6 = .ok (.iconst 4, 1) := by decide +kernel
theorem dX11_calm_7 : decode cX11_calm 7 = .ok (.if_icmp .le 6, 3) := by decide +kernel
theorem dX11_calm_10 : decode cX11_calm 10 = .ok (.bipush (-102), 2) := by decide +kernel
theorem dX11_calm_12 : decode cX11_calm 12 = .ok (.ireturn, 1) := by decide +kernel
theorem dX11_calm_13 : decode cX11_calm 13 = .ok (.iload_n 2, 1) := by decide +kernel
theorem dX11_calm_14 : decode cX11_calm 14 = .ok (.bipush 10, 2) := by decide +kernel
theorem dX11_calm_16 : decode cX11_calm 16 = .ok (.isub, 1) := by decide +kernel
theorem dX11_calm_17 : decode cX11_calm 17 = .ok (.istore_n 3, 1) := by decide +kernel
theorem dX11_calm_18 : decode cX11_calm 18 = .ok (.iload_n 2, 1) := by decide +kernel
theorem dX11_calm_19 : decode cX11_calm 19 = .ok (.bipush 10, 2) := by decide +kernel
theorem dX11_calm_21 : decode cX11_calm 21 = .ok (.if_icmp .lt 12, 3) := by decide +kernel
theorem dX11_calm_24 : decode cX11_calm 24 = .ok (.iload_n 3, 1) := by decide +kernel
theorem dX11_calm_25 : decode cX11_calm 25 = .ok (.iconst 4, 1) := by decide +kernel
theorem dX11_calm_26 : decode cX11_calm 26 = .ok (.if_icmp .ge 7, 3) := by decide +kernel
theorem dX11_calm_29 : decode cX11_calm 29 = .ok (.iconst 1, 1) := by decide +kernel
theorem dX11_calm_30 : decode cX11_calm 30 = .ok (.goto 4, 3) := by decide +kernel
theorem dX11_calm_33 : decode cX11_calm 33 = .ok (.iconst 0, 1) := by decide +kernel
theorem dX11_calm_34 : decode cX11_calm 34 = .ok (.istore 4, 2) := by decide +kernel
theorem dX11_calm_36 : decode cX11_calm 36 = .ok (.iload_n 2, 1) := by decide +kernel
theorem dX11_calm_37 : decode cX11_calm 37 = .ok (.ifCond .eq 11, 3) := by decide +kernel
theorem dX11_calm_40 : decode cX11_calm 40 = .ok (.iload 4, 2) := by decide +kernel
theorem dX11_calm_42 : decode cX11_calm 42 = .ok (.ifCond .ne 6, 3) := by decide +kernel
theorem dX11_calm_45 : decode cX11_calm 45 = .ok (.bipush (-102), 2) := by decide +kernel
theorem dX11_calm_47 : decode cX11_calm 47 = .ok (.ireturn, 1) := by decide +kernel
theorem dX11_calm_48 : decode cX11_calm 48 = .ok (.aload_n 0, 1) := by decide +kernel
theorem dX11_calm_49 : decode cX11_calm 49 = .ok (.getfield 19, 3) := by decide +kernel
theorem dX11_calm_52 : decode cX11_calm 52 = .ok (.getfield 112, 3) := by decide +kernel
theorem dX11_calm_55 : decode cX11_calm 55 = .ok (.ifCond .ne 6, 3) := by decide +kernel
theorem dX11_calm_58 : decode cX11_calm 58 = .ok (.bipush (-103), 2) := by decide +kernel
theorem dX11_calm_60 : decode cX11_calm 60 = .ok (.ireturn, 1) := by decide +kernel
theorem dX11_calm_61 : decode cX11_calm 61 = .ok (.iload 4, 2) := by decide +kernel
theorem dX11_calm_63 : decode cX11_calm 63 = .ok (.ifCond .eq 10, 3) := by decide +kernel
theorem dX11_calm_66 : decode cX11_calm 66 = .ok (.iload_n 3, 1) := by decide +kernel
theorem dX11_calm_67 : decode cX11_calm 67 = .ok (.iload_n 1, 1) := by decide +kernel
theorem dX11_calm_68 : decode cX11_calm 68 = .ok (.if_icmp .lt 5, 3) := by decide +kernel
theorem dX11_calm_71 : decode cX11_calm 71 = .ok (.iconst (-1), 1) := by decide +kernel
theorem dX11_calm_72 : decode cX11_calm 72 = .ok (.ireturn, 1) := by decide +kernel
theorem dX11_calm_73 : decode cX11_calm 73 = .ok (.aload_n 0, 1) := by decide +kernel
theorem dX11_calm_74 : decode cX11_calm 74 = .ok (.iload_n 1, 1) := by decide +kernel
theorem dX11_calm_75 : decode cX11_calm 75 = .ok (.invokevirtual 167, 3) := by decide +kernel
theorem dX11_calm_78 : decode cX11_calm 78 = .ok (.iload 4, 2) := by decide +kernel
theorem dX11_calm_80 : decode cX11_calm 80 = .ok (.ifCond .eq 12, 3) := by decide +kernel
theorem dX11_calm_83 : decode cX11_calm 83 = .ok (.aload_n 0, 1) := by decide +kernel
theorem dX11_calm_84 : decode cX11_calm 84 = .ok (.getfield 64, 3) := by decide +kernel
theorem dX11_calm_87 : decode cX11_calm 87 = .ok (.iload_n 3, 1) := by decide +kernel
theorem dX11_calm_88 : decode cX11_calm 88 = .ok (.iaload, 1) := by decide +kernel
theorem dX11_calm_89 : decode cX11_calm 89 = .ok (.goto 7, 3) := by decide +kernel
theorem dX11_calm_92 : decode cX11_calm 92 = .ok (.aload_n 0, 1) := by decide +kernel
theorem dX11_calm_93 : decode cX11_calm 93 = .ok (.getfield 67, 3) := by decide +kernel
theorem dX11_calm_96 : decode cX11_calm 96 = .ok (.ireturn, 1) := by decide +kernel
set_option maxRecDepth 20000 in
theorem ggX11_look_X11_valuesOf : GoodIn wsX11_look wsX11_valuesOf := goodIn_r _ [7, 1, 16, 17, 18, 19, 20, 21, 22, 23, 24, 25, 26, 27, 28, 29, 30, 31] (by decide +kernel) (by decide +kernel)
set_option maxRecDepth 20000 in
theorem gX11_look_X11_valuesOf : GoodIn wsX11_look (wsV RX11 170 RX11 yX11_valuesOf wsX11_valuesOf) := goodIn_app (goodIn_of _ (by decide +kernel)) ggX11_look_X11_valuesOf
set_option maxRecDepth 20000 in
theorem ggX11_look_X3_add : GoodIn wsX11_look wsX3_add := goodIn_r _ [11, 12, 13, 14, 15, 32, 33, 34, 35] (by decide +kernel) (by decide +kernel)
set_option maxRecDepth 20000 in
theorem gX11_look_X3_add_n173 : GoodIn wsX11_look (wsX3_add) := ggX11_look_X3_add
theorem dX11_look_0 : decode cX11_look 0 = .ok (.iload_n 1, 1) := by decide +kernel
theorem dX11_look_1 : decode cX11_look 1 = .ok (.ifCond .lt 9, 3) := by decide +kernel
theorem dX11_look_4 : decode cX11_look 4 = .ok (.iload_n 1, 1) := by decide +kernel
theorem dX11_look_5 : decode cX11_look 5 = .ok (.bipush 8, 2) := by decide +kernel
theorem dX11_look_7 : decode cX11_look 7 = .ok (.if_icmp .le 6, 3) := by decide +kernel
theorem dX11_look_10 : decode cX11_look 10 = .ok (.bipush (-102), 2) := by decide +kernel
theorem dX11_look_12 : decode cX11_look 12 = .ok (.ireturn, 1) := by decide +kernel
theorem dX11_look_13 : decode cX11_look 13 = .ok (.iload_n 2, 1) := by decide +kernel
theorem dX11_look_14 : decode cX11_look 14 = .ok (.ifCond .lt 8, 3) := by decide +kernel
theorem dX11_look_17 : decode cX11_look 17 = .ok (.iload_n 2, 1) := by decide +kernel
theorem dX11_look_18 : decode cX11_look 18 = .ok (.iconst 3, 1) := by decide +kernel
theorem dX11_look_19 : decode cX11_look 19 = .ok (.if_icmp .lt 6, 3) := by decide +kernel
theorem dX11_look_22 : decode cX11_look 22 = .ok (.bipush (-102), 2) := by decide +kernel
theorem dX11_look_24 : decode cX11_look 24 = .ok (.ireturn, 1) := by decide +kernel
theorem dX11_look_25 : decode cX11_look 25 = .ok (.iload_n 3, 1) := by decide +kernel
theorem dX11_look_26 : decode cX11_look 26 = .ok (.ifCond .lt 12, 3) := by decide +kernel
theorem dX11_look_29 : decode cX11_look 29 = .ok (.iload_n 3, 1) := by decide +kernel
theorem dX11_look_30 : decode cX11_look 30 = .ok (.aload_n 0, 1) := by decide +kernel
theorem dX11_look_31 : decode cX11_look 31 = .ok (.iload_n 2, 1) := by decide +kernel
theorem dX11_look_32 : decode cX11_look 32 = .ok (.invokevirtual 170, 3) := by decide +kernel
theorem dX11_look_35 : decode cX11_look 35 = .ok (.if_icmp .lt 6, 3) := by decide +kernel
theorem dX11_look_38 : decode cX11_look 38 = .ok (.bipush (-102), 2) := by decide +kernel
theorem dX11_look_40 : decode cX11_look 40 = .ok (.ireturn, 1) := by decide +kernel
theorem dX11_look_41 : decode cX11_look 41 = .ok (.aload_n 0, 1) := by decide +kernel
theorem dX11_look_42 : decode cX11_look 42 = .ok (.getfield 19, 3) := by decide +kernel
theorem dX11_look_45 : decode cX11_look 45 = .ok (.getfield 112, 3) := by decide +kernel
theorem dX11_look_48 : decode cX11_look 48 = .ok (.ifCond .ne 6, 3) := by decide +kernel
theorem dX11_look_51 : decode cX11_look 51 = .ok (.bipush (-103), 2) := by decide +kernel
theorem dX11_look_53 : decode cX11_look 53 = .ok (.ireturn, 1) := by decide +kernel
theorem dX11_look_54 : decode cX11_look 54 = .ok (.aload_n 0, 1) := by decide +kernel
theorem dX11_look_55 : decode cX11_look 55 = .ok (.getfield 39, 3) := by decide +kernel
theorem dX11_look_58 : decode cX11_look 58 = .ok (.iload_n 1, 1) := by decide +kernel
theorem dX11_look_59 : decode cX11_look 59 = .ok (.iload_n 2, 1) := by decide +kernel
theorem dX11_look_60 : decode cX11_look 60 = .ok (.iload_n 3, 1) := by decide +kernel
theorem dX11_look_61 : decode cX11_look 61 = .ok (.invokevirtual 173, 3) := by decide +kernel
theorem dX11_look_64 : decode cX11_look 64 = .ok (.ifCond .eq 13, 3) := by decide +kernel
theorem dX11_look_67 : decode cX11_look 67 = .ok (.aload_n 0, 1) := by decide +kernel
theorem dX11_look_68 : decode cX11_look 68 = .ok (.getfield 39, 3) := by decide +kernel
theorem dX11_look_71 : decode cX11_look 71 = .ok (.getfield 176, 3) := by decide +kernel
theorem dX11_look_74 : decode cX11_look 74 = .ok (.goto 5, 3) := by decide +kernel
theorem dX11_look_77 : decode cX11_look 77 = .ok (.bipush (-104), 2) := by decide +kernel
theorem dX11_look_79 : decode cX11_look 79 = .ok (.ireturn, 1) := by decide +kernel
set_option maxRecDepth 20000 in
theorem ggX11_forget_X3_clear : GoodIn wsX11_forget wsX3_clear := goodIn_r _ [5, 6, 21, 22, 23, 24] (by decide +kernel) (by decide +kernel)
set_option maxRecDepth 20000 in
theorem gX11_forget_X3_clear_n111 : GoodIn wsX11_forget (wsX3_clear) := ggX11_forget_X3_clear
theorem dX11_forget_0 : decode cX11_forget 0 = .ok (.aload_n 0, 1) := by decide +kernel
theorem dX11_forget_1 : decode cX11_forget 1 = .ok (.getfield 39, 3) := by decide +kernel
theorem dX11_forget_4 : decode cX11_forget 4 = .ok (.getfield 176, 3) := by decide +kernel
theorem dX11_forget_7 : decode cX11_forget 7 = .ok (.istore_n 1, 1) := by decide +kernel
theorem dX11_forget_8 : decode cX11_forget 8 = .ok (.aload_n 0, 1) := by decide +kernel
theorem dX11_forget_9 : decode cX11_forget 9 = .ok (.getfield 39, 3) := by decide +kernel
theorem dX11_forget_12 : decode cX11_forget 12 = .ok (.invokevirtual 111, 3) := by decide +kernel
theorem dX11_forget_15 : decode cX11_forget 15 = .ok (.iload_n 1, 1) := by decide +kernel
theorem dX11_forget_16 : decode cX11_forget 16 = .ok (.ireturn, 1) := by decide +kernel
set_option maxRecDepth 20000 in
theorem ggX11_rows_X11_placeOf : GoodIn wsX11_rows wsX11_placeOf := goodIn_r _ [8] (by decide +kernel) (by decide +kernel)
set_option maxRecDepth 20000 in
theorem gX11_rows_X11_placeOf : GoodIn wsX11_rows (va_wsS RX11 153 yX11_placeOf wsX11_placeOf) := goodIn_app (goodIn_of _ (by decide +kernel)) ggX11_rows_X11_placeOf
set_option maxRecDepth 20000 in
theorem ggX11_rows_X10_spread : GoodIn wsX11_rows wsX10_spread := goodIn_r _ [12, 13, 14, 15, 16, 17, 18, 19, 20, 10, 21, 22, 23, 24, 25, 26, 27, 28, 29, 30, 7, 31, 32, 33, 34, 35, 36, 37, 38, 39, 40, 41, 42, 43, 44, 45, 46, 47, 48, 49, 50, 51, 52, 53, 54, 55, 56, 57, 58, 59, 60, 61, 62, 63, 64, 65, 66, 67, 68, 69, 70, 71, 72, 73, 74, 75, 76, 77, 78, 79, 80, 6, 8, 109, 110, 111, 112, 113, 114, 115, 101, 102, 116] (by decide +kernel) (by decide +kernel)
set_option maxRecDepth 20000 in
theorem gX11_rows_X10_spread_n177 : GoodIn wsX11_rows (wsX10_spread) := ggX11_rows_X10_spread
set_option maxRecDepth 20000 in
theorem ggX11_rows_X10_total : GoodIn wsX11_rows wsX10_total := goodIn_r _ [83, 13, 109, 110, 111] (by decide +kernel) (by decide +kernel)
set_option maxRecDepth 20000 in
theorem gX11_rows_X10_total_n181 : GoodIn wsX11_rows (wsX10_total) := ggX11_rows_X10_total
set_option maxRecDepth 20000 in
theorem ggX11_rows_X10_holders : GoodIn wsX11_rows wsX10_holders := goodIn_r _ [86, 13, 33, 7, 34, 109, 110, 111] (by decide +kernel) (by decide +kernel)
set_option maxRecDepth 20000 in
theorem gX11_rows_X10_holders_n184 : GoodIn wsX11_rows (wsX10_holders) := ggX11_rows_X10_holders
theorem dX11_rows_0 : decode cX11_rows 0 = .ok (.iload_n 1, 1) := by decide +kernel
theorem dX11_rows_1 : decode cX11_rows 1 = .ok (.ifCond .lt 18, 3) := by decide +kernel
theorem dX11_rows_4 : decode cX11_rows 4 = .ok (.iload_n 1, 1) := by decide +kernel
theorem dX11_rows_5 : decode cX11_rows 5 = .ok (.bipush 8, 2) := by decide +kernel
theorem dX11_rows_7 : decode cX11_rows 7 = .ok (.if_icmp .gt 12, 3) := by decide +kernel
theorem dX11_rows_10 : decode cX11_rows 10 = .ok (.iload_n 2, 1) := by decide +kernel
theorem dX11_rows_11 : decode cX11_rows 11 = .ok (.ifCond .lt 8, 3) := by decide +kernel
theorem dX11_rows_14 : decode cX11_rows 14 = .ok (.iload_n 2, 1) := by decide +kernel
theorem dX11_rows_15 : decode cX11_rows 15 = .ok (.iconst 1, 1) := by decide +kernel
theorem dX11_rows_16 : decode cX11_rows 16 = .ok (.if_icmp .le 6, 3) := by decide +kernel
theorem dX11_rows_19 : decode cX11_rows 19 = .ok (.bipush (-102), 2) := by decide +kernel
theorem dX11_rows_21 : decode cX11_rows 21 = .ok (.ireturn, 1) := by decide +kernel
theorem dX11_rows_22 : decode cX11_rows 22 = .ok (.aload_n 0, 1) := by decide +kernel
theorem dX11_rows_23 : decode cX11_rows 23 = .ok (.getfield 19, 3) := by decide +kernel
theorem dX11_rows_26 : decode cX11_rows 26 = .ok (.getfield 112, 3) := by decide +kernel
theorem dX11_rows_29 : decode cX11_rows 29 = .ok (.ifCond .ne 6, 3) := by decide +kernel
theorem dX11_rows_32 : decode cX11_rows 32 = .ok (.bipush (-103), 2) := by decide +kernel
theorem dX11_rows_34 : decode cX11_rows 34 = .ok (.ireturn, 1) := by decide +kernel
theorem dX11_rows_35 : decode cX11_rows 35 = .ok (.aload_n 0, 1) := by decide +kernel
theorem dX11_rows_36 : decode cX11_rows 36 = .ok (.getfield 56, 3) := by decide +kernel
theorem dX11_rows_39 : decode cX11_rows 39 = .ok (.aload_n 0, 1) := by decide +kernel
theorem dX11_rows_40 : decode cX11_rows 40 = .ok (.getfield 19, 3) := by decide +kernel
theorem dX11_rows_43 : decode cX11_rows 43 = .ok (.aload_n 0, 1) := by decide +kernel
theorem dX11_rows_44 : decode cX11_rows 44 = .ok (.getfield 39, 3) := by decide +kernel
theorem dX11_rows_47 : decode cX11_rows 47 = .ok (.aload_n 0, 1) := by decide +kernel
theorem dX11_rows_48 : decode cX11_rows 48 = .ok (.getfield 26, 3) := by decide +kernel
theorem dX11_rows_51 : decode cX11_rows 51 = .ok (.getfield 121, 3) := by decide +kernel
theorem dX11_rows_54 : decode cX11_rows 54 = .ok (.aload_n 0, 1) := by decide +kernel
theorem dX11_rows_55 : decode cX11_rows 55 = .ok (.getfield 26, 3) := by decide +kernel
theorem dX11_rows_58 : decode cX11_rows 58 = .ok (.getfield 147, 3) := by decide +kernel
theorem dX11_rows_61 : decode cX11_rows 61 = .ok (.invokestatic 153, 3) := by decide +kernel
theorem dX11_rows_64 : decode cX11_rows 64 = .ok (.iload_n 1, 1) := by decide +kernel
theorem dX11_rows_65 : decode cX11_rows 65 = .ok (.invokevirtual 177, 3) := by decide +kernel
theorem dX11_rows_68 : decode cX11_rows 68 = .ok (.iload_n 2, 1) := by decide +kernel
theorem dX11_rows_69 : decode cX11_rows 69 = .ok (.ifCond .ne 13, 3) := by decide +kernel
theorem dX11_rows_72 : decode cX11_rows 72 = .ok (.aload_n 0, 1) := by decide +kernel
theorem dX11_rows_73 : decode cX11_rows 73 = .ok (.getfield 56, 3) := by decide +kernel
theorem dX11_rows_76 : decode cX11_rows 76 = .ok (.invokevirtual 181, 3) := by decide +kernel
theorem dX11_rows_79 : decode cX11_rows 79 = .ok (.goto 10, 3) := by decide +kernel
theorem dX11_rows_82 : decode cX11_rows 82 = .ok (.aload_n 0, 1) := by decide +kernel
theorem dX11_rows_83 : decode cX11_rows 83 = .ok (.getfield 56, 3) := by decide +kernel
theorem dX11_rows_86 : decode cX11_rows 86 = .ok (.invokevirtual 184, 3) := by decide +kernel
theorem dX11_rows_89 : decode cX11_rows 89 = .ok (.ireturn, 1) := by decide +kernel
set_option maxRecDepth 20000 in
theorem ggX11_lookNext_X11_placeOf : GoodIn wsX11_lookNext wsX11_placeOf := goodIn_r _ [8] (by decide +kernel) (by decide +kernel)
set_option maxRecDepth 20000 in
theorem gX11_lookNext_X11_placeOf : GoodIn wsX11_lookNext (va_wsS RX11 153 yX11_placeOf wsX11_placeOf) := goodIn_app (goodIn_of _ (by decide +kernel)) ggX11_lookNext_X11_placeOf
set_option maxRecDepth 20000 in
theorem ggX11_lookNext_X10_spread : GoodIn wsX11_lookNext wsX10_spread := goodIn_r _ [12, 13, 14, 15, 16, 17, 18, 19, 20, 10, 21, 22, 23, 24, 25, 26, 27, 28, 29, 30, 7, 31, 32, 33, 34, 35, 36, 37, 38, 39, 40, 41, 42, 43, 44, 45, 46, 47, 48, 49, 50, 51, 52, 53, 54, 55, 56, 57, 58, 59, 60, 61, 62, 63, 64, 65, 66, 67, 68, 69, 70, 71, 72, 73, 74, 75, 76, 77, 78, 79, 80, 6, 8, 119, 120, 121, 122, 123, 124, 125, 111, 112, 126] (by decide +kernel) (by decide +kernel)
set_option maxRecDepth 20000 in
theorem gX11_lookNext_X10_spread_n177 : GoodIn wsX11_lookNext (wsX10_spread) := ggX11_lookNext_X10_spread
set_option maxRecDepth 20000 in
theorem ggX11_lookNext_X10_tellingSort : GoodIn wsX11_lookNext wsX10_tellingSort := goodIn_r _ [83, 84, 85, 86, 10, 87, 13, 88, 89, 90, 91, 92, 93, 94, 95, 96, 14, 15, 16, 17, 30, 7, 31, 32, 33, 34, 35, 36, 37, 119, 120, 121] (by decide +kernel) (by decide +kernel)
set_option maxRecDepth 20000 in
theorem gX11_lookNext_X10_tellingSort_n187 : GoodIn wsX11_lookNext (wsX10_tellingSort) := ggX11_lookNext_X10_tellingSort
theorem dX11_lookNext_0 : decode cX11_lookNext 0 = .ok (.iload_n 1, 1) := by decide +kernel
theorem dX11_lookNext_1 : decode cX11_lookNext 1 = .ok (.ifCond .lt 9, 3) := by decide +kernel
theorem dX11_lookNext_4 : decode cX11_lookNext 4 = .ok (.iload_n 1, 1) := by decide +kernel
theorem dX11_lookNext_5 : decode cX11_lookNext 5 = .ok (.bipush 8, 2) := by decide +kernel
theorem dX11_lookNext_7 : decode cX11_lookNext 7 = .ok (.if_icmp .le 6, 3) := by decide +kernel
theorem dX11_lookNext_10 : decode cX11_lookNext 10 = .ok (.bipush (-102), 2) := by decide +kernel
theorem dX11_lookNext_12 : decode cX11_lookNext 12 = .ok (.ireturn, 1) := by decide +kernel
theorem dX11_lookNext_13 : decode cX11_lookNext 13 = .ok (.aload_n 0, 1) := by decide +kernel
theorem dX11_lookNext_14 : decode cX11_lookNext 14 = .ok (.getfield 19, 3) := by decide +kernel
theorem dX11_lookNext_17 : decode cX11_lookNext 17 = .ok (.getfield 112, 3) := by decide +kernel
theorem dX11_lookNext_20 : decode cX11_lookNext 20 = .ok (.ifCond .ne 6, 3) := by decide +kernel
theorem dX11_lookNext_23 : decode cX11_lookNext 23 = .ok (.bipush (-103), 2) := by decide +kernel
theorem dX11_lookNext_25 : decode cX11_lookNext 25 = .ok (.ireturn, 1) := by decide +kernel
theorem dX11_lookNext_26 : decode cX11_lookNext 26 = .ok (.aload_n 0, 1) := by decide +kernel
theorem dX11_lookNext_27 : decode cX11_lookNext 27 = .ok (.getfield 56, 3) := by decide +kernel
theorem dX11_lookNext_30 : decode cX11_lookNext 30 = .ok (.aload_n 0, 1) := by decide +kernel
theorem dX11_lookNext_31 : decode cX11_lookNext 31 = .ok (.getfield 19, 3) := by decide +kernel
theorem dX11_lookNext_34 : decode cX11_lookNext 34 = .ok (.aload_n 0, 1) := by decide +kernel
theorem dX11_lookNext_35 : decode cX11_lookNext 35 = .ok (.getfield 39, 3) := by decide +kernel
theorem dX11_lookNext_38 : decode cX11_lookNext 38 = .ok (.aload_n 0, 1) := by decide +kernel
theorem dX11_lookNext_39 : decode cX11_lookNext 39 = .ok (.getfield 26, 3) := by decide +kernel
theorem dX11_lookNext_42 : decode cX11_lookNext 42 = .ok (.getfield 121, 3) := by decide +kernel
theorem dX11_lookNext_45 : decode cX11_lookNext 45 = .ok (.aload_n 0, 1) := by decide +kernel
theorem dX11_lookNext_46 : decode cX11_lookNext 46 = .ok (.getfield 26, 3) := by decide +kernel
theorem dX11_lookNext_49 : decode cX11_lookNext 49 = .ok (.getfield 147, 3) := by decide +kernel
theorem dX11_lookNext_52 : decode cX11_lookNext 52 = .ok (.invokestatic 153, 3) := by decide +kernel
theorem dX11_lookNext_55 : decode cX11_lookNext 55 = .ok (.iload_n 1, 1) := by decide +kernel
theorem dX11_lookNext_56 : decode cX11_lookNext 56 = .ok (.invokevirtual 177, 3) := by decide +kernel
theorem dX11_lookNext_59 : decode cX11_lookNext 59 = .ok (.aload_n 0, 1) := by decide +kernel
theorem dX11_lookNext_60 : decode cX11_lookNext 60 = .ok (.getfield 56, 3) := by decide +kernel
theorem dX11_lookNext_63 : decode cX11_lookNext 63 = .ok (.invokevirtual 187, 3) := by decide +kernel
theorem dX11_lookNext_66 : decode cX11_lookNext 66 = .ok (.ireturn, 1) := by decide +kernel
set_option maxRecDepth 20000 in
theorem ggX11_seasons_X11_playSeasons : GoodIn wsX11_seasons wsX11_playSeasons := goodIn_r _ [8, 2, 3, 9, 10, 11, 1, 12, 13, 14, 15, 16, 17, 18, 19, 20, 21, 22, 23, 24, 7, 25, 26, 27, 28, 29, 30, 31, 32, 33, 34, 35, 36, 37, 38, 39, 40, 41, 42, 43, 44, 45, 46, 47, 48, 49, 50, 51, 52, 53, 54, 55, 56, 57, 58, 59, 60, 61, 62, 63, 64, 65, 66, 67, 68, 69, 70, 71, 72, 73, 74, 75, 76, 77, 78, 79, 80, 81, 82, 83, 84, 85, 89, 90, 91, 92, 93, 94, 95, 96, 97, 98, 99, 100, 101, 102, 105, 106, 107, 108, 109, 110, 103, 104, 111] (by decide +kernel) (by decide +kernel)
set_option maxRecDepth 20000 in
theorem gX11_seasons_X11_playSeasons : GoodIn wsX11_seasons (wsV RX11 190 RX11 yX11_playSeasons wsX11_playSeasons) := goodIn_app (goodIn_of _ (by decide +kernel)) ggX11_seasons_X11_playSeasons
set_option maxRecDepth 20000 in
theorem ggX11_seasons_X8_paidInAll : GoodIn wsX11_seasons wsX8_paidInAll := goodIn_r _ [88, 20, 105, 106, 107, 108, 109, 110] (by decide +kernel) (by decide +kernel)
set_option maxRecDepth 20000 in
theorem gX11_seasons_X8_paidInAll_n193 : GoodIn wsX11_seasons (wsX8_paidInAll) := ggX11_seasons_X8_paidInAll
theorem dX11_seasons_0 : decode cX11_seasons 0 = .ok (.iload_n 1, 1) := by decide +kernel
theorem dX11_seasons_1 : decode cX11_seasons 1 = .ok (.iconst 1, 1) := by decide +kernel
theorem dX11_seasons_2 : decode cX11_seasons 2 = .ok (.if_icmp .lt 22, 3) := by decide +kernel
theorem dX11_seasons_5 : decode cX11_seasons 5 = .ok (.iload_n 1, 1) := by decide +kernel
theorem dX11_seasons_6 : decode cX11_seasons 6 = .ok (.bipush 60, 2) := by decide +kernel
theorem dX11_seasons_8 : decode cX11_seasons 8 = .ok (.if_icmp .gt 16, 3) := by decide +kernel
theorem dX11_seasons_11 : decode cX11_seasons 11 = .ok (.iload_n 2, 1) := by decide +kernel
theorem dX11_seasons_12 : decode cX11_seasons 12 = .ok (.ifCond .lt 12, 3) := by decide +kernel
theorem dX11_seasons_15 : decode cX11_seasons 15 = .ok (.iload_n 3, 1) := by decide +kernel
theorem dX11_seasons_16 : decode cX11_seasons 16 = .ok (.ifCond .lt 8, 3) := by decide +kernel
theorem dX11_seasons_19 : decode cX11_seasons 19 = .ok (.iload_n 3, 1) := by decide +kernel
theorem dX11_seasons_20 : decode cX11_seasons 20 = .ok (.iconst 2, 1) := by decide +kernel
theorem dX11_seasons_21 : decode cX11_seasons 21 = .ok (.if_icmp .le 6, 3) := by decide +kernel
theorem dX11_seasons_24 : decode cX11_seasons 24 = .ok (.bipush (-102), 2) := by decide +kernel
theorem dX11_seasons_26 : decode cX11_seasons 26 = .ok (.ireturn, 1) := by decide +kernel
theorem dX11_seasons_27 : decode cX11_seasons 27 = .ok (.aload_n 0, 1) := by decide +kernel
theorem dX11_seasons_28 : decode cX11_seasons 28 = .ok (.getfield 19, 3) := by decide +kernel
theorem dX11_seasons_31 : decode cX11_seasons 31 = .ok (.getfield 112, 3) := by decide +kernel
theorem dX11_seasons_34 : decode cX11_seasons 34 = .ok (.ifCond .ne 6, 3) := by decide +kernel
theorem dX11_seasons_37 : decode cX11_seasons 37 = .ok (.bipush (-103), 2) := by decide +kernel
theorem dX11_seasons_39 : decode cX11_seasons 39 = .ok (.ireturn, 1) := by decide +kernel
theorem dX11_seasons_40 : decode cX11_seasons 40 = .ok (.aload_n 0, 1) := by decide +kernel
theorem dX11_seasons_41 : decode cX11_seasons 41 = .ok (.iload_n 1, 1) := by decide +kernel
theorem dX11_seasons_42 : decode cX11_seasons 42 = .ok (.iload_n 2, 1) := by decide +kernel
theorem dX11_seasons_43 : decode cX11_seasons 43 = .ok (.invokevirtual 190, 3) := by decide +kernel
theorem dX11_seasons_46 : decode cX11_seasons 46 = .ok (.istore 4, 2) := by decide +kernel
theorem dX11_seasons_48 : decode cX11_seasons 48 = .ok (.iload_n 3, 1) := by decide +kernel
theorem dX11_seasons_49 : decode cX11_seasons 49 = .ok (.ifCond .ne 19, 3) := by decide +kernel
theorem dX11_seasons_52 : decode cX11_seasons 52 = .ok (.aload_n 0, 1) := by decide +kernel
theorem dX11_seasons_53 : decode cX11_seasons 53 = .ok (.getfield 33, 3) := by decide +kernel
theorem dX11_seasons_56 : decode cX11_seasons 56 = .ok (.invokevirtual 193, 3) := by decide +kernel
theorem dX11_seasons_59 : decode cX11_seasons 59 = .ok (.aload_n 0, 1) := by decide +kernel
theorem dX11_seasons_60 : decode cX11_seasons 60 = .ok (.getfield 26, 3) := by decide +kernel
theorem dX11_seasons_63 : decode cX11_seasons 63 = .ok (.invokevirtual 193, 3) := by decide +kernel
theorem dX11_seasons_66 : decode cX11_seasons 66 = .ok (.isub, 1) := by decide +kernel
theorem dX11_seasons_67 : decode cX11_seasons 67 = .ok (.ireturn, 1) := by decide +kernel
theorem dX11_seasons_68 : decode cX11_seasons 68 = .ok (.iload_n 3, 1) := by decide +kernel
theorem dX11_seasons_69 : decode cX11_seasons 69 = .ok (.iconst 1, 1) := by decide +kernel
theorem dX11_seasons_70 : decode cX11_seasons 70 = .ok (.if_icmp .ne 13, 3) := by decide +kernel
theorem dX11_seasons_73 : decode cX11_seasons 73 = .ok (.aload_n 0, 1) := by decide +kernel
theorem dX11_seasons_74 : decode cX11_seasons 74 = .ok (.getfield 33, 3) := by decide +kernel
theorem dX11_seasons_77 : decode cX11_seasons 77 = .ok (.getfield 147, 3) := by decide +kernel
theorem dX11_seasons_80 : decode cX11_seasons 80 = .ok (.goto 5, 3) := by decide +kernel
theorem dX11_seasons_83 : decode cX11_seasons 83 = .ok (.iload 4, 2) := by decide +kernel
theorem dX11_seasons_85 : decode cX11_seasons 85 = .ok (.ireturn, 1) := by decide +kernel
set_option maxRecDepth 20000 in
theorem ggX11_image_X8_copyFrom : GoodIn wsX11_image wsX8_copyFrom := goodIn_r _ [10, 11, 12, 13, 14, 15, 16, 41, 42, 43, 44, 45, 46] (by decide +kernel) (by decide +kernel)
set_option maxRecDepth 20000 in
theorem gX11_image_X8_copyFrom_n196 : GoodIn wsX11_image (wsX8_copyFrom) := ggX11_image_X8_copyFrom
set_option maxRecDepth 20000 in
theorem ggX11_image_X3_copyFrom : GoodIn wsX11_image wsX3_copyFrom := goodIn_r _ [20, 21, 22, 23, 24, 47, 48, 49, 50] (by decide +kernel) (by decide +kernel)
set_option maxRecDepth 20000 in
theorem gX11_image_X3_copyFrom_n200 : GoodIn wsX11_image (wsX3_copyFrom) := ggX11_image_X3_copyFrom
theorem dX11_image_0 : decode cX11_image 0 = .ok (.aload_n 0, 1) := by decide +kernel
theorem dX11_image_1 : decode cX11_image 1 = .ok (.getfield 19, 3) := by decide +kernel
theorem dX11_image_4 : decode cX11_image 4 = .ok (.getfield 112, 3) := by decide +kernel
theorem dX11_image_7 : decode cX11_image 7 = .ok (.ifCond .ne 6, 3) := by decide +kernel
theorem dX11_image_10 : decode cX11_image 10 = .ok (.bipush (-103), 2) := by decide +kernel
theorem dX11_image_12 : decode cX11_image 12 = .ok (.ireturn, 1) := by decide +kernel
theorem dX11_image_13 : decode cX11_image 13 = .ok (.aload_n 0, 1) := by decide +kernel
theorem dX11_image_14 : decode cX11_image 14 = .ok (.getfield 30, 3) := by decide +kernel
theorem dX11_image_17 : decode cX11_image 17 = .ok (.aload_n 0, 1) := by decide +kernel
theorem dX11_image_18 : decode cX11_image 18 = .ok (.getfield 26, 3) := by decide +kernel
theorem dX11_image_21 : decode cX11_image 21 = .ok (.invokevirtual 196, 3) := by decide +kernel
theorem dX11_image_24 : decode cX11_image 24 = .ok (.aload_n 0, 1) := by decide +kernel
theorem dX11_image_25 : decode cX11_image 25 = .ok (.getfield 43, 3) := by decide +kernel
theorem dX11_image_28 : decode cX11_image 28 = .ok (.aload_n 0, 1) := by decide +kernel
theorem dX11_image_29 : decode cX11_image 29 = .ok (.getfield 39, 3) := by decide +kernel
theorem dX11_image_32 : decode cX11_image 32 = .ok (.invokevirtual 200, 3) := by decide +kernel
theorem dX11_image_35 : decode cX11_image 35 = .ok (.aload_n 0, 1) := by decide +kernel
theorem dX11_image_36 : decode cX11_image 36 = .ok (.iconst 1, 1) := by decide +kernel
theorem dX11_image_37 : decode cX11_image 37 = .ok (.putfield 71, 3) := by decide +kernel
theorem dX11_image_40 : decode cX11_image 40 = .ok (.aload_n 0, 1) := by decide +kernel
theorem dX11_image_41 : decode cX11_image 41 = .ok (.getfield 26, 3) := by decide +kernel
theorem dX11_image_44 : decode cX11_image 44 = .ok (.getfield 203, 3) := by decide +kernel
theorem dX11_image_47 : decode cX11_image 47 = .ok (.ireturn, 1) := by decide +kernel
set_option maxRecDepth 20000 in
theorem ggX11_restore_X8_copyFrom : GoodIn wsX11_restore wsX8_copyFrom := goodIn_r _ [9, 10, 11, 12, 13, 14, 15, 38, 39, 40, 41, 42, 43] (by decide +kernel) (by decide +kernel)
set_option maxRecDepth 20000 in
theorem gX11_restore_X8_copyFrom_n196 : GoodIn wsX11_restore (wsX8_copyFrom) := ggX11_restore_X8_copyFrom
set_option maxRecDepth 20000 in
theorem ggX11_restore_X3_copyFrom : GoodIn wsX11_restore wsX3_copyFrom := goodIn_r _ [19, 20, 21, 22, 23, 44, 45, 46, 47] (by decide +kernel) (by decide +kernel)
set_option maxRecDepth 20000 in
theorem gX11_restore_X3_copyFrom_n200 : GoodIn wsX11_restore (wsX3_copyFrom) := ggX11_restore_X3_copyFrom
theorem dX11_restore_0 : decode cX11_restore 0 = .ok (.aload_n 0, 1) := by decide +kernel
theorem dX11_restore_1 : decode cX11_restore 1 = .ok (.getfield 71, 3) := by decide +kernel
theorem dX11_restore_4 : decode cX11_restore 4 = .ok (.ifCond .ne 6, 3) := by decide +kernel
theorem dX11_restore_7 : decode cX11_restore 7 = .ok (.bipush (-103), 2) := by decide +kernel
theorem dX11_restore_9 : decode cX11_restore 9 = .ok (.ireturn, 1) := by decide +kernel
theorem dX11_restore_10 : decode cX11_restore 10 = .ok (.aload_n 0, 1) := by decide +kernel
theorem dX11_restore_11 : decode cX11_restore 11 = .ok (.getfield 26, 3) := by decide +kernel
theorem dX11_restore_14 : decode cX11_restore 14 = .ok (.aload_n 0, 1) := by decide +kernel
theorem dX11_restore_15 : decode cX11_restore 15 = .ok (.getfield 30, 3) := by decide +kernel
theorem dX11_restore_18 : decode cX11_restore 18 = .ok (.invokevirtual 196, 3) := by decide +kernel
theorem dX11_restore_21 : decode cX11_restore 21 = .ok (.aload_n 0, 1) := by decide +kernel
theorem dX11_restore_22 : decode cX11_restore 22 = .ok (.getfield 39, 3) := by decide +kernel
theorem dX11_restore_25 : decode cX11_restore 25 = .ok (.aload_n 0, 1) := by decide +kernel
theorem dX11_restore_26 : decode cX11_restore 26 = .ok (.getfield 43, 3) := by decide +kernel
theorem dX11_restore_29 : decode cX11_restore 29 = .ok (.invokevirtual 200, 3) := by decide +kernel
theorem dX11_restore_32 : decode cX11_restore 32 = .ok (.aload_n 0, 1) := by decide +kernel
theorem dX11_restore_33 : decode cX11_restore 33 = .ok (.getfield 26, 3) := by decide +kernel
theorem dX11_restore_36 : decode cX11_restore 36 = .ok (.getfield 203, 3) := by decide +kernel
theorem dX11_restore_39 : decode cX11_restore 39 = .ok (.ireturn, 1) := by decide +kernel
set_option maxRecDepth 20000 in
theorem ggX11_count_X8_wrongPeople : GoodIn wsX11_count wsX8_wrongPeople := goodIn_r _ [9, 10, 11, 12, 7, 13, 14, 15, 16, 17, 18, 19, 20, 21, 22, 23, 44, 45, 46, 47, 48, 49] (by decide +kernel) (by decide +kernel)
set_option maxRecDepth 20000 in
theorem gX11_count_X8_wrongPeople_n206 : GoodIn wsX11_count (wsX8_wrongPeople) := ggX11_count_X8_wrongPeople
set_option maxRecDepth 20000 in
theorem ggX11_count_X8_paidInAll : GoodIn wsX11_count wsX8_paidInAll := goodIn_r _ [26, 27, 44, 45, 46, 47, 48, 49] (by decide +kernel) (by decide +kernel)
set_option maxRecDepth 20000 in
theorem gX11_count_X8_paidInAll_n193 : GoodIn wsX11_count (wsX8_paidInAll) := ggX11_count_X8_paidInAll
theorem dX11_count_0 : decode cX11_count 0 = .ok (.iload_n 1, 1) := by decide +kernel
theorem dX11_count_1 : decode cX11_count 1 = .ok (.tableswitch 138 0 9 #[55, 63, 71, 82, 93, 101, 109, 117, 125, 133], 55) := by decide +kernel
theorem dX11_count_56 : decode cX11_count 56 = .ok (.aload_n 0, 1) := by decide +kernel
theorem dX11_count_57 : decode cX11_count 57 = .ok (.getfield 19, 3) := by decide +kernel
theorem dX11_count_60 : decode cX11_count 60 = .ok (.getfield 112, 3) := by decide +kernel
theorem dX11_count_63 : decode cX11_count 63 = .ok (.ireturn, 1) := by decide +kernel
theorem dX11_count_64 : decode cX11_count 64 = .ok (.aload_n 0, 1) := by decide +kernel
theorem dX11_count_65 : decode cX11_count 65 = .ok (.getfield 26, 3) := by decide +kernel
theorem dX11_count_68 : decode cX11_count 68 = .ok (.getfield 121, 3) := by decide +kernel
theorem dX11_count_71 : decode cX11_count 71 = .ok (.ireturn, 1) := by decide +kernel
theorem dX11_count_72 : decode cX11_count 72 = .ok (.aload_n 0, 1) := by decide +kernel
theorem dX11_count_73 : decode cX11_count 73 = .ok (.getfield 26, 3) := by decide +kernel
theorem dX11_count_76 : decode cX11_count 76 = .ok (.getfield 147, 3) := by decide +kernel
theorem dX11_count_79 : decode cX11_count 79 = .ok (.bipush 8, 2) := by decide +kernel
theorem dX11_count_81 : decode cX11_count 81 = .ok (.idiv, 1) := by decide +kernel
theorem dX11_count_82 : decode cX11_count 82 = .ok (.ireturn, 1) := by decide +kernel
theorem dX11_count_83 : decode cX11_count 83 = .ok (.aload_n 0, 1) := by decide +kernel
theorem dX11_count_84 : decode cX11_count 84 = .ok (.getfield 26, 3) := by decide +kernel
theorem dX11_count_87 : decode cX11_count 87 = .ok (.getfield 147, 3) := by decide +kernel
theorem dX11_count_90 : decode cX11_count 90 = .ok (.bipush 8, 2) := by decide +kernel
theorem dX11_count_92 : decode cX11_count 92 = .ok (.irem, 1) := by decide +kernel
theorem dX11_count_93 : decode cX11_count 93 = .ok (.ireturn, 1) := by decide +kernel
theorem dX11_count_94 : decode cX11_count 94 = .ok (.aload_n 0, 1) := by decide +kernel
theorem dX11_count_95 : decode cX11_count 95 = .ok (.getfield 26, 3) := by decide +kernel
theorem dX11_count_98 : decode cX11_count 98 = .ok (.getfield 203, 3) := by decide +kernel
theorem dX11_count_101 : decode cX11_count 101 = .ok (.ireturn, 1) := by decide +kernel
theorem dX11_count_102 : decode cX11_count 102 = .ok (.aload_n 0, 1) := by decide +kernel
theorem dX11_count_103 : decode cX11_count 103 = .ok (.getfield 26, 3) := by decide +kernel
theorem dX11_count_106 : decode cX11_count 106 = .ok (.invokevirtual 206, 3) := by decide +kernel
theorem dX11_count_109 : decode cX11_count 109 = .ok (.ireturn, 1) := by decide +kernel
theorem dX11_count_110 : decode cX11_count 110 = .ok (.aload_n 0, 1) := by decide +kernel
theorem dX11_count_111 : decode cX11_count 111 = .ok (.getfield 26, 3) := by decide +kernel
theorem dX11_count_114 : decode cX11_count 114 = .ok (.invokevirtual 193, 3) := by decide +kernel
theorem dX11_count_117 : decode cX11_count 117 = .ok (.ireturn, 1) := by decide +kernel
theorem dX11_count_118 : decode cX11_count 118 = .ok (.aload_n 0, 1) := by decide +kernel
theorem dX11_count_119 : decode cX11_count 119 = .ok (.getfield 39, 3) := by decide +kernel
theorem dX11_count_122 : decode cX11_count 122 = .ok (.getfield 176, 3) := by decide +kernel
theorem dX11_count_125 : decode cX11_count 125 = .ok (.ireturn, 1) := by decide +kernel
theorem dX11_count_126 : decode cX11_count 126 = .ok (.aload_n 0, 1) := by decide +kernel
theorem dX11_count_127 : decode cX11_count 127 = .ok (.getfield 12, 3) := by decide +kernel
theorem dX11_count_130 : decode cX11_count 130 = .ok (.getfield 82, 3) := by decide +kernel
theorem dX11_count_133 : decode cX11_count 133 = .ok (.ireturn, 1) := by decide +kernel
theorem dX11_count_134 : decode cX11_count 134 = .ok (.aload_n 0, 1) := by decide +kernel
theorem dX11_count_135 : decode cX11_count 135 = .ok (.getfield 75, 3) := by decide +kernel
theorem dX11_count_138 : decode cX11_count 138 = .ok (.ireturn, 1) := by decide +kernel
theorem dX11_count_139 : decode cX11_count 139 = .ok (.bipush (-102), 2) := by decide +kernel
theorem dX11_count_141 : decode cX11_count 141 = .ok (.ireturn, 1) := by decide +kernel
set_option maxRecDepth 20000 in
theorem ggX11_digest_X11_about : GoodIn wsX11_digest wsX11_about := goodIn_r _ [9, 2, 3, 10, 11, 12, 13, 14, 15, 16, 17, 18, 19, 20, 21, 22, 23, 24, 25, 26, 27, 28, 29, 30, 31, 32, 33, 34, 35, 36, 37, 38, 39, 40, 41, 42, 43, 44, 45, 46, 47, 48, 49, 50, 51, 52, 53, 54, 55, 56, 57, 58, 59, 60, 61, 62, 63, 64, 65, 66, 67, 8, 68, 69, 70, 71, 72, 73, 74, 75, 76, 77, 78, 79, 80, 81, 82, 83, 84, 85, 86, 87, 88, 89, 90, 91, 92, 93, 94, 95, 96, 97, 98, 99, 100, 101, 102, 103, 104, 105, 106, 107, 108, 109, 110, 111, 112, 113, 114, 115, 257, 258, 259, 260, 261, 262, 263, 264, 265, 266, 267, 268, 269, 270, 273, 274, 275, 276, 277, 278, 271, 272, 281] (by decide +kernel) (by decide +kernel)
set_option maxRecDepth 20000 in
theorem gX11_digest_X11_about : GoodIn wsX11_digest (wsV RX11 211 RX11 yX11_about wsX11_about) := goodIn_app (goodIn_of _ (by decide +kernel)) ggX11_digest_X11_about
set_option maxRecDepth 20000 in
theorem ggX11_digest_X11_mixed : GoodIn wsX11_digest wsX11_mixed := goodIn_r _ [118, 119] (by decide +kernel) (by decide +kernel)
set_option maxRecDepth 20000 in
theorem gX11_digest_X11_mixed : GoodIn wsX11_digest (va_wsS RX11 214 yX11_mixed wsX11_mixed) := goodIn_app (goodIn_of _ (by decide +kernel)) ggX11_digest_X11_mixed
set_option maxRecDepth 20000 in
theorem ggX11_digest_X11_chain : GoodIn wsX11_digest wsX11_chain := goodIn_r _ [123, 2, 124, 3, 10, 11, 12, 13, 14, 125, 126, 8, 127, 128, 129, 130, 131, 132, 133, 134, 135, 136, 137, 138, 139, 140, 141, 142, 143, 144, 145, 146, 147, 148, 149, 150, 151, 152, 153, 154, 155, 156, 157, 158, 159, 69, 70, 71, 18, 19, 20, 21, 22, 72, 73, 74, 75, 76, 28, 77, 78, 79, 80, 33, 81, 82, 83, 84, 85, 86, 87, 38, 88, 89, 41, 90, 91, 92, 93, 45, 94, 257, 258, 259, 260, 261, 262, 263, 264, 265, 266, 267, 268, 269, 270, 273, 274, 275, 276, 277, 278, 271, 272, 282, 283, 284, 285, 281] (by decide +kernel) (by decide +kernel)
set_option maxRecDepth 20000 in
theorem gX11_digest_X11_chain : GoodIn wsX11_digest (wsV RX11 218 RX11 yX11_chain wsX11_chain) := goodIn_app (goodIn_of _ (by decide +kernel)) ggX11_digest_X11_chain
set_option maxRecDepth 20000 in
theorem ggX11_digest_X11_calm : GoodIn wsX11_digest wsX11_calm := goodIn_r _ [163, 2, 164, 165, 166, 167, 168, 8, 169, 170, 171, 137, 138, 139, 172, 173, 174, 175, 99, 3, 100, 48, 101, 102, 58, 59, 103, 51, 64, 104, 69, 11, 70, 71, 18, 19, 20, 21, 14, 22, 72, 73, 74, 75, 76, 28, 77, 78, 79, 80, 33, 81, 82, 83, 84, 85, 86, 87, 38, 88, 89, 41, 90, 91, 92, 93, 45, 94, 109, 110, 111, 52, 53, 54, 176, 177, 178, 179, 112, 113, 114, 115, 55, 56, 57, 60, 47, 49, 50, 180, 181, 182, 183, 184, 185, 186, 187, 257, 258, 259, 260, 261, 262, 263, 264, 265, 266, 267, 268, 269, 270, 271, 272, 273, 274, 275, 276, 277, 278, 281] (by decide +kernel) (by decide +kernel)
set_option maxRecDepth 20000 in
theorem gX11_digest_X11_calm : GoodIn wsX11_digest (wsV RX11 222 RX11 yX11_calm wsX11_calm) := goodIn_app (goodIn_of _ (by decide +kernel)) ggX11_digest_X11_calm
set_option maxRecDepth 20000 in
theorem ggX11_digest_X11_rows : GoodIn wsX11_digest wsX11_rows := goodIn_r _ [191, 2, 192, 193, 3, 125, 126, 8, 127, 194, 195, 196, 197, 198, 199, 137, 138, 139, 200, 201, 202, 203, 204, 205, 206, 207, 208, 209, 210, 211, 212, 213, 214, 152, 153, 215, 158, 159, 216, 217, 218, 219, 220, 69, 11, 70, 71, 18, 19, 20, 21, 14, 22, 72, 73, 74, 75, 76, 28, 77, 78, 79, 80, 33, 81, 82, 83, 84, 85, 86, 87, 38, 88, 89, 41, 90, 91, 92, 93, 45, 94, 221, 222, 223, 224, 225, 226, 257, 258, 259, 260, 261, 262, 263, 264, 265, 266, 267, 268, 269, 270, 271, 272, 273, 274, 275, 276, 277, 278, 286, 287, 288, 289, 290, 291, 292, 281] (by decide +kernel) (by decide +kernel)
set_option maxRecDepth 20000 in
theorem gX11_digest_X11_rows : GoodIn wsX11_digest (wsV RX11 225 RX11 yX11_rows wsX11_rows) := goodIn_app (goodIn_of _ (by decide +kernel)) ggX11_digest_X11_rows
set_option maxRecDepth 20000 in
theorem ggX11_digest_X11_lookNext : GoodIn wsX11_digest wsX11_lookNext := goodIn_r _ [230, 2, 192, 193, 3, 125, 126, 8, 127, 194, 195, 196, 197, 198, 199, 137, 138, 139, 200, 201, 202, 203, 204, 205, 206, 207, 208, 209, 210, 211, 212, 213, 214, 152, 153, 215, 158, 159, 216, 217, 218, 219, 220, 69, 11, 70, 71, 18, 19, 20, 21, 14, 22, 72, 73, 74, 75, 76, 28, 77, 78, 79, 80, 33, 81, 82, 83, 84, 85, 86, 87, 38, 88, 89, 41, 90, 91, 92, 93, 45, 94, 231, 232, 233, 234, 221, 222, 223, 235, 236, 237, 238, 239, 240, 241, 186, 242, 257, 258, 259, 260, 261, 262, 263, 264, 265, 266, 267, 268, 269, 270, 271, 272, 273, 274, 275, 276, 277, 278, 286, 287, 288, 289, 290, 291, 292, 281] (by decide +kernel) (by decide +kernel)
set_option maxRecDepth 20000 in
theorem gX11_digest_X11_lookNext : GoodIn wsX11_digest (wsV RX11 228 RX11 yX11_lookNext wsX11_lookNext) := goodIn_app (goodIn_of _ (by decide +kernel)) ggX11_digest_X11_lookNext
set_option maxRecDepth 20000 in
theorem ggX11_digest_X4_at : GoodIn wsX11_digest wsX4_at := goodIn_r _ [246, 247, 248, 279, 280] (by decide +kernel) (by decide +kernel)
set_option maxRecDepth 20000 in
theorem gX11_digest_X4_at_n100 : GoodIn wsX11_digest (wsX4_at) := ggX11_digest_X4_at
set_option maxRecDepth 20000 in
theorem ggX11_digest_X11_count : GoodIn wsX11_digest wsX11_count := goodIn_r _ [252, 2, 3, 193, 4, 253, 112, 48, 113, 114, 115, 55, 56, 57, 58, 59, 60, 47, 49, 50, 51, 52, 53, 54, 254, 255, 256, 64, 257, 258, 259, 260, 261, 262, 263, 264, 265, 266, 267, 268, 269, 270, 271, 272, 273, 274, 275, 276, 277, 278, 289, 290, 291, 292, 279, 280] (by decide +kernel) (by decide +kernel)
set_option maxRecDepth 20000 in
theorem gX11_digest_X11_count : GoodIn wsX11_digest (wsV RX11 231 RX11 yX11_count wsX11_count) := goodIn_app (goodIn_of _ (by decide +kernel)) ggX11_digest_X11_count
theorem dX11_digest_0 : decode cX11_digest 0 = .ok (.ldc2_w 209, 3) := by decide +kernel
theorem dX11_digest_3 : decode cX11_digest 3 = .ok (.lstore_n 1, 1) := by decide +kernel
theorem dX11_digest_4 : decode cX11_digest 4 = .ok (.iconst 0, 1) := by decide +kernel
theorem dX11_digest_5 : decode cX11_digest 5 = .ok (.istore_n 3, 1) := by decide +kernel
theorem dX11_digest_6 : decode cX11_digest 6 = .ok (.iload_n 3, 1) := by decide +kernel
theorem dX11_digest_7 : decode cX11_digest 7 = .ok (.aload_n 0, 1) := by decide +kernel
theorem dX11_digest_8 : decode cX11_digest 8 = .ok (.getfield 19, 3) := by decide +kernel
theorem dX11_digest_11 : decode cX11_digest 11 = .ok (.getfield 112, 3) := by decide +kernel
theorem dX11_digest_14 : decode cX11_digest 14 = .ok (.if_icmp .ge 38, 3) := by decide +kernel
theorem dX11_digest_17 : decode cX11_digest 17 = .ok (.iconst 0, 1) := by decide +kernel
theorem dX11_digest_18 : decode cX11_digest 18 = .ok (.istore 4, 2) := by decide +kernel
theorem dX11_digest_20 : decode cX11_digest 20 = .ok (.iload 4, 2) := by decide +kernel
theorem dX11_digest_22 : decode cX11_digest 22 = .ok (.bipush 7, 2) := by decide +kernel
theorem dX11_digest_24 : decode cX11_digest 24 = .ok (.if_icmp .ge 22, 3) := by decide +kernel
theorem dX11_digest_27 : decode cX11_digest 27 = .ok (.lload_n 1, 1) := by decide +kernel
theorem dX11_digest_28 : decode cX11_digest 28 = .ok (.aload_n 0, 1) := by decide +kernel
theorem dX11_digest_29 : decode cX11_digest 29 = .ok (.iload_n 3, 1) := by decide +kernel
theorem dX11_digest_30 : decode cX11_digest 30 = .ok (.iload 4, 2) := by decide +kernel
theorem dX11_digest_32 : decode cX11_digest 32 = .ok (.invokevirtual 211, 3) := by decide +kernel
theorem dX11_digest_35 : decode cX11_digest 35 = .ok (.i2l, 1) := by decide +kernel
theorem dX11_digest_36 : decode cX11_digest 36 = .ok (.invokestatic 214, 3) := by decide +kernel
theorem dX11_digest_39 : decode cX11_digest 39 = .ok (.lstore_n 1, 1) := by decide +kernel
theorem dX11_digest_40 : decode cX11_digest 40 = .ok (.iinc 4 1, 3) := by decide +kernel
theorem dX11_digest_43 : decode cX11_digest 43 = .ok (.goto (-23), 3) := by decide +kernel
theorem dX11_digest_46 : decode cX11_digest 46 = .ok (.iinc 3 1, 3) := by decide +kernel
theorem dX11_digest_49 : decode cX11_digest 49 = .ok (.goto (-43), 3) := by decide +kernel
theorem dX11_digest_52 : decode cX11_digest 52 = .ok (.aload_n 0, 1) := by decide +kernel
theorem dX11_digest_53 : decode cX11_digest 53 = .ok (.getfield 19, 3) := by decide +kernel
theorem dX11_digest_56 : decode cX11_digest 56 = .ok (.getfield 112, 3) := by decide +kernel
theorem dX11_digest_59 : decode cX11_digest 59 = .ok (.ifCond .le 127, 3) := by decide +kernel
theorem dX11_digest_62 : decode cX11_digest 62 = .ok (.iconst 0, 1) := by decide +kernel
theorem dX11_digest_63 : decode cX11_digest 63 = .ok (.istore_n 3, 1) := by decide +kernel
theorem dX11_digest_64 : decode cX11_digest 64 = .ok (.iload_n 3, 1) := by decide +kernel
theorem dX11_digest_65 : decode cX11_digest 65 = .ok (.aload_n 0, 1) := by decide +kernel
theorem dX11_digest_66 : decode cX11_digest 66 = .ok (.getfield 19, 3) := by decide +kernel
theorem dX11_digest_69 : decode cX11_digest 69 = .ok (.getfield 112, 3) := by decide +kernel
theorem dX11_digest_72 : decode cX11_digest 72 = .ok (.if_icmp .ge 28, 3) := by decide +kernel
theorem dX11_digest_75 : decode cX11_digest 75 = .ok (.lload_n 1, 1) := by decide +kernel
theorem dX11_digest_76 : decode cX11_digest 76 = .ok (.aload_n 0, 1) := by decide +kernel
theorem dX11_digest_77 : decode cX11_digest 77 = .ok (.iload_n 3, 1) := by decide +kernel
theorem dX11_digest_78 : decode cX11_digest 78 = .ok (.aload_n 0, 1) := by decide +kernel
theorem dX11_digest_79 : decode cX11_digest 79 = .ok (.getfield 26, 3) := by decide +kernel
theorem dX11_digest_82 : decode cX11_digest 82 = .ok (.getfield 147, 3) := by decide +kernel
theorem dX11_digest_85 : decode cX11_digest 85 = .ok (.iconst 0, 1) := by decide +kernel
theorem dX11_digest_86 : decode cX11_digest 86 = .ok (.invokevirtual 218, 3) := by decide +kernel
theorem dX11_digest_89 : decode cX11_digest 89 = .ok (.i2l, 1) := by decide +kernel
theorem dX11_digest_90 : decode cX11_digest 90 = .ok (.invokestatic 214, 3) := by decide +kernel
theorem dX11_digest_93 : decode cX11_digest 93 = .ok (.lstore_n 1, 1) := by decide +kernel
theorem dX11_digest_94 : decode cX11_digest 94 = .ok (.iinc 3 1, 3) := by decide +kernel
theorem dX11_digest_97 : decode cX11_digest 97 = .ok (.goto (-33), 3) := by decide +kernel
theorem dX11_digest_100 : decode cX11_digest 100 = .ok (.lload_n 1, 1) := by decide +kernel
theorem dX11_digest_101 : decode cX11_digest 101 = .ok (.aload_n 0, 1) := by decide +kernel
theorem dX11_digest_102 : decode cX11_digest 102 = .ok (.iconst 2, 1) := by decide +kernel
theorem dX11_digest_103 : decode cX11_digest 103 = .ok (.iconst 0, 1) := by decide +kernel
theorem dX11_digest_104 : decode cX11_digest 104 = .ok (.invokevirtual 222, 3) := by decide +kernel
theorem dX11_digest_107 : decode cX11_digest 107 = .ok (.i2l, 1) := by decide +kernel
theorem dX11_digest_108 : decode cX11_digest 108 = .ok (.invokestatic 214, 3) := by decide +kernel
theorem dX11_digest_111 : decode cX11_digest 111 = .ok (.lstore_n 1, 1) := by decide +kernel
theorem dX11_digest_112 : decode cX11_digest 112 = .ok (.lload_n 1, 1) := by decide +kernel
theorem dX11_digest_113 : decode cX11_digest 113 = .ok (.aload_n 0, 1) := by decide +kernel
theorem dX11_digest_114 : decode cX11_digest 114 = .ok (.iconst 2, 1) := by decide +kernel
theorem dX11_digest_115 : decode cX11_digest 115 = .ok (.bipush 10, 2) := by decide +kernel
theorem dX11_digest_117 : decode cX11_digest 117 = .ok (.invokevirtual 222, 3) := by decide +kernel
theorem dX11_digest_120 : decode cX11_digest 120 = .ok (.i2l, 1) := by decide +kernel
theorem dX11_digest_121 : decode cX11_digest 121 = .ok (.invokestatic 214, 3) := by decide +kernel
theorem dX11_digest_124 : decode cX11_digest 124 = .ok (.lstore_n 1, 1) := by decide +kernel
theorem dX11_digest_125 : decode cX11_digest 125 = .ok (.lload_n 1, 1) := by decide +kernel
theorem dX11_digest_126 : decode cX11_digest 126 = .ok (.aload_n 0, 1) := by decide +kernel
theorem dX11_digest_127 : decode cX11_digest 127 = .ok (.iconst 2, 1) := by decide +kernel
theorem dX11_digest_128 : decode cX11_digest 128 = .ok (.bipush 11, 2) := by decide +kernel
theorem dX11_digest_130 : decode cX11_digest 130 = .ok (.invokevirtual 222, 3) := by decide +kernel
theorem dX11_digest_133 : decode cX11_digest 133 = .ok (.i2l, 1) := by decide +kernel
theorem dX11_digest_134 : decode cX11_digest 134 = .ok (.invokestatic 214, 3) := by decide +kernel
theorem dX11_digest_137 : decode cX11_digest 137 = .ok (.lstore_n 1, 1) := by decide +kernel
theorem dX11_digest_138 : decode cX11_digest 138 = .ok (.iconst 0, 1) := by decide +kernel
theorem dX11_digest_139 : decode cX11_digest 139 = .ok (.istore_n 3, 1) := by decide +kernel
theorem dX11_digest_140 : decode cX11_digest 140 = .ok (.iload_n 3, 1) := by decide +kernel
theorem dX11_digest_141 : decode cX11_digest 141 = .ok (.iconst 4, 1) := by decide +kernel
theorem dX11_digest_142 : decode cX11_digest 142 = .ok (.if_icmp .gt 33, 3) := by decide +kernel
theorem dX11_digest_145 : decode cX11_digest 145 = .ok (.lload_n 1, 1) := by decide +kernel
theorem dX11_digest_146 : decode cX11_digest 146 = .ok (.aload_n 0, 1) := by decide +kernel
theorem dX11_digest_147 : decode cX11_digest 147 = .ok (.iload_n 3, 1) := by decide +kernel
theorem dX11_digest_148 : decode cX11_digest 148 = .ok (.iconst 0, 1) := by decide +kernel
theorem dX11_digest_149 : decode cX11_digest 149 = .ok (.invokevirtual 225, 3) := by decide +kernel
theorem dX11_digest_152 : decode cX11_digest 152 = .ok (.i2l, 1) := by decide +kernel
theorem dX11_digest_153 : decode cX11_digest 153 = .ok (.invokestatic 214, 3) := by decide +kernel
theorem dX11_digest_156 : decode cX11_digest 156 = .ok (.lstore_n 1, 1) := by decide +kernel
theorem dX11_digest_157 : decode cX11_digest 157 = .ok (.lload_n 1, 1) := by decide +kernel
theorem dX11_digest_158 : decode cX11_digest 158 = .ok (.aload_n 0, 1) := by decide +kernel
theorem dX11_digest_159 : decode cX11_digest 159 = .ok (.iload_n 3, 1) := by decide +kernel
theorem dX11_digest_160 : decode cX11_digest 160 = .ok (.iconst 1, 1) := by decide +kernel
theorem dX11_digest_161 : decode cX11_digest 161 = .ok (.invokevirtual 225, 3) := by decide +kernel
theorem dX11_digest_164 : decode cX11_digest 164 = .ok (.i2l, 1) := by decide +kernel
theorem dX11_digest_165 : decode cX11_digest 165 = .ok (.invokestatic 214, 3) := by decide +kernel
theorem dX11_digest_168 : decode cX11_digest 168 = .ok (.lstore_n 1, 1) := by decide +kernel
theorem dX11_digest_169 : decode cX11_digest 169 = .ok (.iinc 3 1, 3) := by decide +kernel
theorem dX11_digest_172 : decode cX11_digest 172 = .ok (.goto (-32), 3) := by decide +kernel
theorem dX11_digest_175 : decode cX11_digest 175 = .ok (.lload_n 1, 1) := by decide +kernel
theorem dX11_digest_176 : decode cX11_digest 176 = .ok (.aload_n 0, 1) := by decide +kernel
theorem dX11_digest_177 : decode cX11_digest 177 = .ok (.iconst 3, 1) := by decide +kernel
theorem dX11_digest_178 : decode cX11_digest 178 = .ok (.invokevirtual 228, 3) := by decide +kernel
theorem dX11_digest_181 : decode cX11_digest 181 = .ok (.i2l, 1) := by decide +kernel
theorem dX11_digest_182 : decode cX11_digest 182 = .ok (.invokestatic 214, 3) := by decide +kernel
theorem dX11_digest_185 : decode cX11_digest 185 = .ok (.lstore_n 1, 1) := by decide +kernel
theorem dX11_digest_186 : decode cX11_digest 186 = .ok (.iconst 0, 1) := by decide +kernel
theorem dX11_digest_187 : decode cX11_digest 187 = .ok (.istore_n 3, 1) := by decide +kernel
theorem dX11_digest_188 : decode cX11_digest 188 = .ok (.iload_n 3, 1) := by decide +kernel
theorem dX11_digest_189 : decode cX11_digest 189 = .ok (.aload_n 0, 1) := by decide +kernel
theorem dX11_digest_190 : decode cX11_digest 190 = .ok (.getfield 12, 3) := by decide +kernel
theorem dX11_digest_193 : decode cX11_digest 193 = .ok (.getfield 82, 3) := by decide +kernel
theorem dX11_digest_196 : decode cX11_digest 196 = .ok (.if_icmp .ge 23, 3) := by decide +kernel
theorem dX11_digest_199 : decode cX11_digest 199 = .ok (.lload_n 1, 1) := by decide +kernel
theorem dX11_digest_200 : decode cX11_digest 200 = .ok (.aload_n 0, 1) := by decide +kernel
theorem dX11_digest_201 : decode cX11_digest 201 = .ok (.getfield 12, 3) := by decide +kernel
theorem dX11_digest_204 : decode cX11_digest 204 = .ok (.iload_n 3, 1) := by decide +kernel
theorem dX11_digest_205 : decode cX11_digest 205 = .ok (.invokevirtual 100, 3) := by decide +kernel
theorem dX11_digest_208 : decode cX11_digest 208 = .ok (.i2l, 1) := by decide +kernel
theorem dX11_digest_209 : decode cX11_digest 209 = .ok (.invokestatic 214, 3) := by decide +kernel
theorem dX11_digest_212 : decode cX11_digest 212 = .ok (.lstore_n 1, 1) := by decide +kernel
theorem dX11_digest_213 : decode cX11_digest 213 = .ok (.iinc 3 1, 3) := by decide +kernel
theorem dX11_digest_216 : decode cX11_digest 216 = .ok (.goto (-28), 3) := by decide +kernel
theorem dX11_digest_219 : decode cX11_digest 219 = .ok (.iconst 0, 1) := by decide +kernel
theorem dX11_digest_220 : decode cX11_digest 220 = .ok (.istore_n 3, 1) := by decide +kernel
theorem dX11_digest_221 : decode cX11_digest 221 = .ok (.iload_n 3, 1) := by decide +kernel
theorem dX11_digest_222 : decode cX11_digest 222 = .ok (.bipush 10, 2) := by decide +kernel
theorem dX11_digest_224 : decode cX11_digest 224 = .ok (.if_icmp .ge 20, 3) := by decide +kernel
theorem dX11_digest_227 : decode cX11_digest 227 = .ok (.lload_n 1, 1) := by decide +kernel
theorem dX11_digest_228 : decode cX11_digest 228 = .ok (.aload_n 0, 1) := by decide +kernel
theorem dX11_digest_229 : decode cX11_digest 229 = .ok (.iload_n 3, 1) := by decide +kernel
theorem dX11_digest_230 : decode cX11_digest 230 = .ok (.invokevirtual 231, 3) := by decide +kernel
theorem dX11_digest_233 : decode cX11_digest 233 = .ok (.i2l, 1) := by decide +kernel
theorem dX11_digest_234 : decode cX11_digest 234 = .ok (.invokestatic 214, 3) := by decide +kernel
theorem dX11_digest_237 : decode cX11_digest 237 = .ok (.lstore_n 1, 1) := by decide +kernel
theorem dX11_digest_238 : decode cX11_digest 238 = .ok (.iinc 3 1, 3) := by decide +kernel
theorem dX11_digest_241 : decode cX11_digest 241 = .ok (.goto (-20), 3) := by decide +kernel
theorem dX11_digest_244 : decode cX11_digest 244 = .ok (.lload_n 1, 1) := by decide +kernel
theorem dX11_digest_245 : decode cX11_digest 245 = .ok (.lreturn, 1) := by decide +kernel
theorem dX11_mixed_0 : decode cX11_mixed 0 = .ok (.ldc2_w 234, 3) := by decide +kernel
theorem dX11_mixed_3 : decode cX11_mixed 3 = .ok (.lload_n 0, 1) := by decide +kernel
theorem dX11_mixed_4 : decode cX11_mixed 4 = .ok (.lmul, 1) := by decide +kernel
theorem dX11_mixed_5 : decode cX11_mixed 5 = .ok (.lload_n 2, 1) := by decide +kernel
theorem dX11_mixed_6 : decode cX11_mixed 6 = .ok (.ladd, 1) := by decide +kernel
theorem dX11_mixed_7 : decode cX11_mixed 7 = .ok (.lreturn, 1) := by decide +kernel
set_option maxRecDepth 20000 in
theorem ggX11_handOver_X5_touched : GoodIn wsX11_handOver wsX5_touched := goodIn_r _ [5, 6, 7, 8, 3, 9, 10, 11, 12, 13, 14, 15, 16, 17, 18, 19, 20, 21, 22, 23, 24, 25, 26, 27, 28, 29, 30, 31, 32, 33, 34, 35, 36, 37, 38, 39, 72, 73, 74] (by decide +kernel) (by decide +kernel)
set_option maxRecDepth 20000 in
theorem gX11_handOver_X5_touched_n236 : GoodIn wsX11_handOver (wsX5_touched) := ggX11_handOver_X5_touched
set_option maxRecDepth 20000 in
theorem ggX11_handOver_X8_moveTo : GoodIn wsX11_handOver wsX8_moveTo := goodIn_r _ [43, 44, 45, 46, 47, 48, 49, 50, 41, 51, 66, 67, 68, 69, 70, 71] (by decide +kernel) (by decide +kernel)
set_option maxRecDepth 20000 in
theorem gX11_handOver_X8_moveTo_n239 : GoodIn wsX11_handOver (wsX8_moveTo) := ggX11_handOver_X8_moveTo
theorem dX11_handOver_0 : decode cX11_handOver 0 = .ok (.aload_n 1, 1) := by decide +kernel
theorem dX11_handOver_1 : decode cX11_handOver 1 = .ok (.iload_n 2, 1) := by decide +kernel
theorem dX11_handOver_2 : decode cX11_handOver 2 = .ok (.aload_n 0, 1) := by decide +kernel
theorem dX11_handOver_3 : decode cX11_handOver 3 = .ok (.getfield 19, 3) := by decide +kernel
theorem dX11_handOver_6 : decode cX11_handOver 6 = .ok (.iload_n 2, 1) := by decide +kernel
theorem dX11_handOver_7 : decode cX11_handOver 7 = .ok (.aload_n 1, 1) := by decide +kernel
theorem dX11_handOver_8 : decode cX11_handOver 8 = .ok (.getfield 147, 3) := by decide +kernel
theorem dX11_handOver_11 : decode cX11_handOver 11 = .ok (.invokevirtual 236, 3) := by decide +kernel
theorem dX11_handOver_14 : decode cX11_handOver 14 = .ok (.invokevirtual 239, 3) := by decide +kernel
theorem dX11_handOver_17 : decode cX11_handOver 17 = .ok (.return_, 1) := by decide +kernel
set_option maxRecDepth 20000 in
theorem ggX11_marksIfPassed_X5_touched : GoodIn wsX11_marksIfPassed wsX5_touched := goodIn_r _ [6, 7, 8, 9, 4, 10, 11, 12, 13, 14, 15, 16, 17, 18, 19, 20, 21, 22, 23, 24, 25, 26, 27, 28, 29, 30, 31, 32, 33, 34, 35, 36, 37, 38, 39, 40, 61, 62, 63] (by decide +kernel) (by decide +kernel)
set_option maxRecDepth 20000 in
theorem gX11_marksIfPassed_X5_touched_n236 : GoodIn wsX11_marksIfPassed (wsX5_touched) := ggX11_marksIfPassed_X5_touched
theorem dX11_marksIfPassed_0 : decode cX11_marksIfPassed 0 = .ok (.aload_n 0, 1) := by decide +kernel
theorem dX11_marksIfPassed_1 : decode cX11_marksIfPassed 1 = .ok (.getfield 26, 3) := by decide +kernel
theorem dX11_marksIfPassed_4 : decode cX11_marksIfPassed 4 = .ok (.getfield 121, 3) := by decide +kernel
theorem dX11_marksIfPassed_7 : decode cX11_marksIfPassed 7 = .ok (.iload_n 1, 1) := by decide +kernel
theorem dX11_marksIfPassed_8 : decode cX11_marksIfPassed 8 = .ok (.if_icmp .ne 7, 3) := by decide +kernel
theorem dX11_marksIfPassed_11 : decode cX11_marksIfPassed 11 = .ok (.iconst (-1), 1) := by decide +kernel
theorem dX11_marksIfPassed_12 : decode cX11_marksIfPassed 12 = .ok (.goto 18, 3) := by decide +kernel
theorem dX11_marksIfPassed_15 : decode cX11_marksIfPassed 15 = .ok (.aload_n 0, 1) := by decide +kernel
theorem dX11_marksIfPassed_16 : decode cX11_marksIfPassed 16 = .ok (.getfield 19, 3) := by decide +kernel
theorem dX11_marksIfPassed_19 : decode cX11_marksIfPassed 19 = .ok (.iload_n 1, 1) := by decide +kernel
theorem dX11_marksIfPassed_20 : decode cX11_marksIfPassed 20 = .ok (.aload_n 0, 1) := by decide +kernel
theorem dX11_marksIfPassed_21 : decode cX11_marksIfPassed 21 = .ok (.getfield 26, 3) := by decide +kernel
theorem dX11_marksIfPassed_24 : decode cX11_marksIfPassed 24 = .ok (.getfield 147, 3) := by decide +kernel
theorem dX11_marksIfPassed_27 : decode cX11_marksIfPassed 27 = .ok (.invokevirtual 236, 3) := by decide +kernel
theorem dX11_marksIfPassed_30 : decode cX11_marksIfPassed 30 = .ok (.ireturn, 1) := by decide +kernel
set_option maxRecDepth 20000 in
theorem ggX11_wrongIfPassed_X8_copyFrom : GoodIn wsX11_wrongIfPassed wsX8_copyFrom := goodIn_r _ [6, 7, 8, 9, 10, 11, 12, 88, 89, 90, 91, 92, 93] (by decide +kernel) (by decide +kernel)
set_option maxRecDepth 20000 in
theorem gX11_wrongIfPassed_X8_copyFrom_n196 : GoodIn wsX11_wrongIfPassed (wsX8_copyFrom) := ggX11_wrongIfPassed_X8_copyFrom
set_option maxRecDepth 20000 in
theorem ggX11_wrongIfPassed_X11_handOver : GoodIn wsX11_wrongIfPassed wsX11_handOver := goodIn_r _ [17, 18, 19, 20, 21, 22, 23, 24, 25, 26, 27, 28, 29, 30, 31, 32, 33, 34, 35, 36, 37, 38, 39, 40, 41, 42, 43, 44, 45, 46, 47, 48, 49, 50, 51, 52, 53, 54, 55, 56, 57, 4, 58, 59, 7, 10, 8, 12, 9, 60, 61, 62, 74, 75, 76, 77, 78, 79, 80, 81, 82, 83, 84, 85, 86, 87, 88, 89, 90, 91, 92, 93, 94, 95, 96] (by decide +kernel) (by decide +kernel)
set_option maxRecDepth 20000 in
theorem gX11_wrongIfPassed_X11_handOver : GoodIn wsX11_wrongIfPassed (wsV RX11 143 RX11 yX11_handOver wsX11_handOver) := goodIn_app (goodIn_of _ (by decide +kernel)) ggX11_wrongIfPassed_X11_handOver
set_option maxRecDepth 20000 in
theorem ggX11_wrongIfPassed_X8_wrongPeople : GoodIn wsX11_wrongIfPassed wsX8_wrongPeople := goodIn_r _ [65, 66, 67, 68, 4, 69, 7, 8, 70, 71, 72, 73, 10, 60, 61, 62, 88, 89, 90, 91, 92, 93] (by decide +kernel) (by decide +kernel)
set_option maxRecDepth 20000 in
theorem gX11_wrongIfPassed_X8_wrongPeople_n206 : GoodIn wsX11_wrongIfPassed (wsX8_wrongPeople) := ggX11_wrongIfPassed_X8_wrongPeople
theorem dX11_wrongIfPassed_0 : decode cX11_wrongIfPassed 0 = .ok (.aload_n 0, 1) := by decide +kernel
theorem dX11_wrongIfPassed_1 : decode cX11_wrongIfPassed 1 = .ok (.getfield 26, 3) := by decide +kernel
theorem dX11_wrongIfPassed_4 : decode cX11_wrongIfPassed 4 = .ok (.getfield 121, 3) := by decide +kernel
theorem dX11_wrongIfPassed_7 : decode cX11_wrongIfPassed 7 = .ok (.iload_n 1, 1) := by decide +kernel
theorem dX11_wrongIfPassed_8 : decode cX11_wrongIfPassed 8 = .ok (.if_icmp .ne 5, 3) := by decide +kernel
theorem dX11_wrongIfPassed_11 : decode cX11_wrongIfPassed 11 = .ok (.iconst (-1), 1) := by decide +kernel
theorem dX11_wrongIfPassed_12 : decode cX11_wrongIfPassed 12 = .ok (.ireturn, 1) := by decide +kernel
theorem dX11_wrongIfPassed_13 : decode cX11_wrongIfPassed 13 = .ok (.aload_n 0, 1) := by decide +kernel
theorem dX11_wrongIfPassed_14 : decode cX11_wrongIfPassed 14 = .ok (.getfield 33, 3) := by decide +kernel
theorem dX11_wrongIfPassed_17 : decode cX11_wrongIfPassed 17 = .ok (.aload_n 0, 1) := by decide +kernel
theorem dX11_wrongIfPassed_18 : decode cX11_wrongIfPassed 18 = .ok (.getfield 26, 3) := by decide +kernel
theorem dX11_wrongIfPassed_21 : decode cX11_wrongIfPassed 21 = .ok (.invokevirtual 196, 3) := by decide +kernel
theorem dX11_wrongIfPassed_24 : decode cX11_wrongIfPassed 24 = .ok (.aload_n 0, 1) := by decide +kernel
theorem dX11_wrongIfPassed_25 : decode cX11_wrongIfPassed 25 = .ok (.aload_n 0, 1) := by decide +kernel
theorem dX11_wrongIfPassed_26 : decode cX11_wrongIfPassed 26 = .ok (.getfield 33, 3) := by decide +kernel
theorem dX11_wrongIfPassed_29 : decode cX11_wrongIfPassed 29 = .ok (.iload_n 1, 1) := by decide +kernel
theorem dX11_wrongIfPassed_30 : decode cX11_wrongIfPassed 30 = .ok (.invokevirtual 143, 3) := by decide +kernel
theorem dX11_wrongIfPassed_33 : decode cX11_wrongIfPassed 33 = .ok (.aload_n 0, 1) := by decide +kernel
theorem dX11_wrongIfPassed_34 : decode cX11_wrongIfPassed 34 = .ok (.getfield 33, 3) := by decide +kernel
theorem dX11_wrongIfPassed_37 : decode cX11_wrongIfPassed 37 = .ok (.invokevirtual 206, 3) := by decide +kernel
theorem dX11_wrongIfPassed_40 : decode cX11_wrongIfPassed 40 = .ok (.ireturn, 1) := by decide +kernel
set_option maxRecDepth 20000 in
theorem ggX11_findCalm_J7_fill_53178 : GoodIn wsX11_findCalm wsJ7_fill_53178 := goodIn_r _ [6] (by decide +kernel) (by decide +kernel)
set_option maxRecDepth 20000 in
theorem gX11_findCalm_J7_fill_53178 : GoodIn wsX11_findCalm (va_wsS RX11 243 yJ7_fill_53178 wsJ7_fill_53178) := goodIn_app (goodIn_of _ (by decide +kernel)) ggX11_findCalm_J7_fill_53178
set_option maxRecDepth 20000 in
theorem ggX11_findCalm_X11_playTriedRow : GoodIn wsX11_findCalm wsX11_playTriedRow := goodIn_r _ [11, 12, 13, 2, 14, 15, 16, 17, 18, 19, 20, 21, 22, 23, 24, 25, 26, 27, 28, 29, 30, 31, 32, 33, 34, 35, 36, 37, 38, 39, 40, 41, 42, 43, 44, 45, 46, 47, 48, 49, 50, 51, 52, 53, 54, 55, 56, 57, 58, 59, 60, 61, 62, 63, 64, 65, 66, 67, 68, 93, 94, 95, 96, 97, 98, 99, 100, 101, 102, 103, 104, 105, 106, 107, 108, 109, 110, 111, 112, 113, 114, 115] (by decide +kernel) (by decide +kernel)
set_option maxRecDepth 20000 in
theorem gX11_findCalm_X11_playTriedRow : GoodIn wsX11_findCalm (wsV RX11 249 RX11 yX11_playTriedRow wsX11_playTriedRow) := goodIn_app (goodIn_of _ (by decide +kernel)) ggX11_findCalm_X11_playTriedRow
set_option maxRecDepth 20000 in
theorem ggX11_findCalm_X11_keepIfCalmer : GoodIn wsX11_findCalm wsX11_keepIfCalmer := goodIn_r _ [72, 12, 1, 73, 2, 74, 16, 75, 76, 77, 78, 79, 80, 19, 20, 81, 82, 83, 84, 22, 66, 67, 68, 93, 94, 95, 96, 97, 98, 99, 100, 101, 102, 103, 104, 105, 106, 107, 108, 109, 110, 111, 112] (by decide +kernel) (by decide +kernel)
set_option maxRecDepth 20000 in
theorem gX11_findCalm_X11_keepIfCalmer : GoodIn wsX11_findCalm (wsV RX11 252 RX11 yX11_keepIfCalmer wsX11_keepIfCalmer) := goodIn_app (goodIn_of _ (by decide +kernel)) ggX11_findCalm_X11_keepIfCalmer
set_option maxRecDepth 20000 in
theorem ggX11_findCalm_X11_turnToNextRow : GoodIn wsX11_findCalm wsX11_turnToNextRow := goodIn_r _ [88, 89, 90, 91, 92, 2, 14, 93, 94, 95, 96, 97, 98, 99, 100, 101, 102, 103, 104, 105, 106, 113, 114] (by decide +kernel) (by decide +kernel)
set_option maxRecDepth 20000 in
theorem gX11_findCalm_X11_turnToNextRow : GoodIn wsX11_findCalm (wsV RX11 255 RX11 yX11_turnToNextRow wsX11_turnToNextRow) := goodIn_app (goodIn_of _ (by decide +kernel)) ggX11_findCalm_X11_turnToNextRow
theorem dX11_findCalm_0 : decode cX11_findCalm 0 = .ok (.aload_n 0, 1) := by decide +kernel
theorem dX11_findCalm_1 : decode cX11_findCalm 1 = .ok (.iconst (-1), 1) := by decide +kernel
theorem dX11_findCalm_2 : decode cX11_findCalm 2 = .ok (.putfield 67, 3) := by decide +kernel
theorem dX11_findCalm_5 : decode cX11_findCalm 5 = .ok (.aload_n 0, 1) := by decide +kernel
theorem dX11_findCalm_6 : decode cX11_findCalm 6 = .ok (.getfield 60, 3) := by decide +kernel
theorem dX11_findCalm_9 : decode cX11_findCalm 9 = .ok (.iconst 0, 1) := by decide +kernel
theorem dX11_findCalm_10 : decode cX11_findCalm 10 = .ok (.invokestatic 243, 3) := by decide +kernel
theorem dX11_findCalm_13 : decode cX11_findCalm 13 = .ok (.iconst 0, 1) := by decide +kernel
theorem dX11_findCalm_14 : decode cX11_findCalm 14 = .ok (.istore_n 2, 1) := by decide +kernel
theorem dX11_findCalm_15 : decode cX11_findCalm 15 = .ok (.iload_n 2, 1) := by decide +kernel
theorem dX11_findCalm_16 : decode cX11_findCalm 16 = .ok (.sipush 256, 3) := by decide +kernel
theorem dX11_findCalm_19 : decode cX11_findCalm 19 = .ok (.if_icmp .ge 30, 3) := by decide +kernel
theorem dX11_findCalm_22 : decode cX11_findCalm 22 = .ok (.aload_n 0, 1) := by decide +kernel
theorem dX11_findCalm_23 : decode cX11_findCalm 23 = .ok (.iload_n 1, 1) := by decide +kernel
theorem dX11_findCalm_24 : decode cX11_findCalm 24 = .ok (.invokevirtual 249, 3) := by decide +kernel
theorem dX11_findCalm_27 : decode cX11_findCalm 27 = .ok (.ifCond .eq 7, 3) := by decide +kernel
theorem dX11_findCalm_30 : decode cX11_findCalm 30 = .ok (.aload_n 0, 1) := by decide +kernel
theorem dX11_findCalm_31 : decode cX11_findCalm 31 = .ok (.invokevirtual 252, 3) := by decide +kernel
theorem dX11_findCalm_34 : decode cX11_findCalm 34 = .ok (.aload_n 0, 1) := by decide +kernel
theorem dX11_findCalm_35 : decode cX11_findCalm 35 = .ok (.iload_n 1, 1) := by decide +kernel
theorem dX11_findCalm_36 : decode cX11_findCalm 36 = .ok (.invokevirtual 255, 3) := by decide +kernel
theorem dX11_findCalm_39 : decode cX11_findCalm 39 = .ok (.ifCond .ne 4, 3) := by decide +kernel
theorem dX11_findCalm_42 : decode cX11_findCalm 42 = .ok (.return_, 1) := by decide +kernel
theorem dX11_findCalm_43 : decode cX11_findCalm 43 = .ok (.iinc 2 1, 3) := by decide +kernel
theorem dX11_findCalm_46 : decode cX11_findCalm 46 = .ok (.goto (-31), 3) := by decide +kernel
theorem dX11_findCalm_49 : decode cX11_findCalm 49 = .ok (.return_, 1) := by decide +kernel
set_option maxRecDepth 20000 in
theorem ggX11_playTriedRow_X8_copyFrom : GoodIn wsX11_playTriedRow wsX8_copyFrom := goodIn_r _ [8, 9, 10, 11, 12, 13, 14, 73, 74, 75, 76, 77, 78] (by decide +kernel) (by decide +kernel)
set_option maxRecDepth 20000 in
theorem gX11_playTriedRow_X8_copyFrom_n196 : GoodIn wsX11_playTriedRow (wsX8_copyFrom) := ggX11_playTriedRow_X8_copyFrom
set_option maxRecDepth 20000 in
theorem ggX11_playTriedRow_X5_touched : GoodIn wsX11_playTriedRow wsX5_touched := goodIn_r _ [18, 19, 20, 21, 16, 22, 23, 24, 25, 26, 27, 28, 29, 30, 31, 32, 33, 34, 35, 36, 37, 38, 39, 40, 41, 42, 43, 44, 45, 46, 47, 48, 49, 50, 51, 52, 79, 80, 81] (by decide +kernel) (by decide +kernel)
set_option maxRecDepth 20000 in
theorem gX11_playTriedRow_X5_touched_n236 : GoodIn wsX11_playTriedRow (wsX5_touched) := ggX11_playTriedRow_X5_touched
set_option maxRecDepth 20000 in
theorem ggX11_playTriedRow_X8_moveTo : GoodIn wsX11_playTriedRow wsX8_moveTo := goodIn_r _ [55, 9, 12, 10, 14, 11, 56, 57, 6, 58, 73, 74, 75, 76, 77, 78] (by decide +kernel) (by decide +kernel)
set_option maxRecDepth 20000 in
theorem gX11_playTriedRow_X8_moveTo_n239 : GoodIn wsX11_playTriedRow (wsX8_moveTo) := ggX11_playTriedRow_X8_moveTo
theorem dX11_playTriedRow_0 : decode cX11_playTriedRow 0 = .ok (.aload_n 0, 1) := by decide +kernel
theorem dX11_playTriedRow_1 : decode cX11_playTriedRow 1 = .ok (.getfield 33, 3) := by decide +kernel
theorem dX11_playTriedRow_4 : decode cX11_playTriedRow 4 = .ok (.aload_n 0, 1) := by decide +kernel
theorem dX11_playTriedRow_5 : decode cX11_playTriedRow 5 = .ok (.getfield 26, 3) := by decide +kernel
theorem dX11_playTriedRow_8 : decode cX11_playTriedRow 8 = .ok (.invokevirtual 196, 3) := by decide +kernel
theorem dX11_playTriedRow_11 : decode cX11_playTriedRow 11 = .ok (.iconst 0, 1) := by decide +kernel
theorem dX11_playTriedRow_12 : decode cX11_playTriedRow 12 = .ok (.istore_n 2, 1) := by decide +kernel
theorem dX11_playTriedRow_13 : decode cX11_playTriedRow 13 = .ok (.iload_n 2, 1) := by decide +kernel
theorem dX11_playTriedRow_14 : decode cX11_playTriedRow 14 = .ok (.iload_n 1, 1) := by decide +kernel
theorem dX11_playTriedRow_15 : decode cX11_playTriedRow 15 = .ok (.if_icmp .ge 57, 3) := by decide +kernel
theorem dX11_playTriedRow_18 : decode cX11_playTriedRow 18 = .ok (.iload_n 2, 1) := by decide +kernel
theorem dX11_playTriedRow_19 : decode cX11_playTriedRow 19 = .ok (.iconst 4, 1) := by decide +kernel
theorem dX11_playTriedRow_20 : decode cX11_playTriedRow 20 = .ok (.if_icmp .ge 52, 3) := by decide +kernel
theorem dX11_playTriedRow_23 : decode cX11_playTriedRow 23 = .ok (.aload_n 0, 1) := by decide +kernel
theorem dX11_playTriedRow_24 : decode cX11_playTriedRow 24 = .ok (.getfield 60, 3) := by decide +kernel
theorem dX11_playTriedRow_27 : decode cX11_playTriedRow 27 = .ok (.iload_n 2, 1) := by decide +kernel
theorem dX11_playTriedRow_28 : decode cX11_playTriedRow 28 = .ok (.iaload, 1) := by decide +kernel
theorem dX11_playTriedRow_29 : decode cX11_playTriedRow 29 = .ok (.istore_n 3, 1) := by decide +kernel
theorem dX11_playTriedRow_30 : decode cX11_playTriedRow 30 = .ok (.aload_n 0, 1) := by decide +kernel
theorem dX11_playTriedRow_31 : decode cX11_playTriedRow 31 = .ok (.getfield 33, 3) := by decide +kernel
theorem dX11_playTriedRow_34 : decode cX11_playTriedRow 34 = .ok (.getfield 121, 3) := by decide +kernel
theorem dX11_playTriedRow_37 : decode cX11_playTriedRow 37 = .ok (.iload_n 3, 1) := by decide +kernel
theorem dX11_playTriedRow_38 : decode cX11_playTriedRow 38 = .ok (.if_icmp .ne 5, 3) := by decide +kernel
theorem dX11_playTriedRow_41 : decode cX11_playTriedRow 41 = .ok (.iconst 0, 1) := by decide +kernel
theorem dX11_playTriedRow_42 : decode cX11_playTriedRow 42 = .ok (.ireturn, 1) := by decide +kernel
theorem dX11_playTriedRow_43 : decode cX11_playTriedRow 43 = .ok (.aload_n 0, 1) := by decide +kernel
theorem dX11_playTriedRow_44 : decode cX11_playTriedRow 44 = .ok (.getfield 33, 3) := by decide +kernel
theorem dX11_playTriedRow_47 : decode cX11_playTriedRow 47 = .ok (.iload_n 3, 1) := by decide +kernel
theorem dX11_playTriedRow_48 : decode cX11_playTriedRow 48 = .ok (.aload_n 0, 1) := by decide +kernel
theorem dX11_playTriedRow_49 : decode cX11_playTriedRow 49 = .ok (.getfield 19, 3) := by decide +kernel
theorem dX11_playTriedRow_52 : decode cX11_playTriedRow 52 = .ok (.iload_n 3, 1) := by decide +kernel
theorem dX11_playTriedRow_53 : decode cX11_playTriedRow 53 = .ok (.aload_n 0, 1) := by decide +kernel
theorem dX11_playTriedRow_54 : decode cX11_playTriedRow 54 = .ok (.getfield 33, 3) := by decide +kernel
theorem dX11_playTriedRow_57 : decode cX11_playTriedRow 57 = .ok (.getfield 147, 3) := by decide +kernel
theorem dX11_playTriedRow_60 : decode cX11_playTriedRow 60 = .ok (.invokevirtual 236, 3) := by decide +kernel
theorem dX11_playTriedRow_63 : decode cX11_playTriedRow 63 = .ok (.invokevirtual 239, 3) := by decide +kernel
theorem dX11_playTriedRow_66 : decode cX11_playTriedRow 66 = .ok (.iinc 2 1, 3) := by decide +kernel
theorem dX11_playTriedRow_69 : decode cX11_playTriedRow 69 = .ok (.goto (-56), 3) := by decide +kernel
theorem dX11_playTriedRow_72 : decode cX11_playTriedRow 72 = .ok (.iconst 1, 1) := by decide +kernel
theorem dX11_playTriedRow_73 : decode cX11_playTriedRow 73 = .ok (.ireturn, 1) := by decide +kernel
set_option maxRecDepth 20000 in
theorem ggX11_keepIfCalmer_X8_wrongPeople : GoodIn wsX11_keepIfCalmer wsX8_wrongPeople := goodIn_r _ [8, 9, 10, 11, 6, 12, 13, 14, 15, 16, 17, 18, 19, 20, 21, 22, 37, 38, 39, 40, 41, 42] (by decide +kernel) (by decide +kernel)
set_option maxRecDepth 20000 in
theorem gX11_keepIfCalmer_X8_wrongPeople_n206 : GoodIn wsX11_keepIfCalmer (wsX8_wrongPeople) := ggX11_keepIfCalmer_X8_wrongPeople
theorem dX11_keepIfCalmer_0 : decode cX11_keepIfCalmer 0 = .ok (.aload_n 0, 1) := by decide +kernel
theorem dX11_keepIfCalmer_1 : decode cX11_keepIfCalmer 1 = .ok (.getfield 33, 3) := by decide +kernel
theorem dX11_keepIfCalmer_4 : decode cX11_keepIfCalmer 4 = .ok (.invokevirtual 206, 3) := by decide +kernel
theorem dX11_keepIfCalmer_7 : decode cX11_keepIfCalmer 7 = .ok (.istore_n 1, 1) := by decide +kernel
theorem dX11_keepIfCalmer_8 : decode cX11_keepIfCalmer 8 = .ok (.aload_n 0, 1) := by decide +kernel
theorem dX11_keepIfCalmer_9 : decode cX11_keepIfCalmer 9 = .ok (.getfield 67, 3) := by decide +kernel
theorem dX11_keepIfCalmer_12 : decode cX11_keepIfCalmer 12 = .ok (.iconst (-1), 1) := by decide +kernel
theorem dX11_keepIfCalmer_13 : decode cX11_keepIfCalmer 13 = .ok (.if_icmp .eq 12, 3) := by decide +kernel
theorem dX11_keepIfCalmer_16 : decode cX11_keepIfCalmer 16 = .ok (.iload_n 1, 1) := by decide +kernel
theorem dX11_keepIfCalmer_17 : decode cX11_keepIfCalmer 17 = .ok (.aload_n 0, 1) := by decide +kernel
theorem dX11_keepIfCalmer_18 : decode cX11_keepIfCalmer 18 = .ok (.getfield 67, 3) := by decide +kernel
theorem dX11_keepIfCalmer_21 : decode cX11_keepIfCalmer 21 = .ok (.if_icmp .lt 4, 3) := by decide +kernel
theorem dX11_keepIfCalmer_24 : decode cX11_keepIfCalmer 24 = .ok (.return_, 1) := by decide +kernel
theorem dX11_keepIfCalmer_25 : decode cX11_keepIfCalmer 25 = .ok (.aload_n 0, 1) := by decide +kernel
theorem dX11_keepIfCalmer_26 : decode cX11_keepIfCalmer 26 = .ok (.iload_n 1, 1) := by decide +kernel
theorem dX11_keepIfCalmer_27 : decode cX11_keepIfCalmer 27 = .ok (.putfield 67, 3) := by decide +kernel
theorem dX11_keepIfCalmer_30 : decode cX11_keepIfCalmer 30 = .ok (.iconst 0, 1) := by decide +kernel
theorem dX11_keepIfCalmer_31 : decode cX11_keepIfCalmer 31 = .ok (.istore_n 2, 1) := by decide +kernel
theorem dX11_keepIfCalmer_32 : decode cX11_keepIfCalmer 32 = .ok (.iload_n 2, 1) := by decide +kernel
theorem dX11_keepIfCalmer_33 : decode cX11_keepIfCalmer 33 = .ok (.iconst 4, 1) := by decide +kernel
theorem dX11_keepIfCalmer_34 : decode cX11_keepIfCalmer 34 = .ok (.if_icmp .ge 21, 3) := by decide +kernel
theorem dX11_keepIfCalmer_37 : decode cX11_keepIfCalmer 37 = .ok (.aload_n 0, 1) := by decide +kernel
theorem dX11_keepIfCalmer_38 : decode cX11_keepIfCalmer 38 = .ok (.getfield 64, 3) := by decide +kernel
theorem dX11_keepIfCalmer_41 : decode cX11_keepIfCalmer 41 = .ok (.iload_n 2, 1) := by decide +kernel
theorem dX11_keepIfCalmer_42 : decode cX11_keepIfCalmer 42 = .ok (.aload_n 0, 1) := by decide +kernel
theorem dX11_keepIfCalmer_43 : decode cX11_keepIfCalmer 43 = .ok (.getfield 60, 3) := by decide +kernel
theorem dX11_keepIfCalmer_46 : decode cX11_keepIfCalmer 46 = .ok (.iload_n 2, 1) := by decide +kernel
theorem dX11_keepIfCalmer_47 : decode cX11_keepIfCalmer 47 = .ok (.iaload, 1) := by decide +kernel
theorem dX11_keepIfCalmer_48 : decode cX11_keepIfCalmer 48 = .ok (.iastore, 1) := by decide +kernel
theorem dX11_keepIfCalmer_49 : decode cX11_keepIfCalmer 49 = .ok (.iinc 2 1, 3) := by decide +kernel
theorem dX11_keepIfCalmer_52 : decode cX11_keepIfCalmer 52 = .ok (.goto (-20), 3) := by decide +kernel
theorem dX11_keepIfCalmer_55 : decode cX11_keepIfCalmer 55 = .ok (.return_, 1) := by decide +kernel
theorem dX11_turnToNextRow_0 : decode cX11_turnToNextRow 0 = .ok (.iload_n 1, 1) := by decide +kernel
theorem dX11_turnToNextRow_1 : decode cX11_turnToNextRow 1 = .ok (.iconst 4, 1) := by decide +kernel
theorem dX11_turnToNextRow_2 : decode cX11_turnToNextRow 2 = .ok (.invokestatic 258, 3) := by decide +kernel
theorem dX11_turnToNextRow_5 : decode cX11_turnToNextRow 5 = .ok (.iconst 1, 1) := by decide +kernel
theorem dX11_turnToNextRow_6 : decode cX11_turnToNextRow 6 = .ok (.isub, 1) := by decide +kernel
theorem dX11_turnToNextRow_7 : decode cX11_turnToNextRow 7 = .ok (.istore_n 2, 1) := by decide +kernel
theorem dX11_turnToNextRow_8 : decode cX11_turnToNextRow 8 = .ok (.iload_n 2, 1) := by decide +kernel
theorem dX11_turnToNextRow_9 : decode cX11_turnToNextRow 9 = .ok (.ifCond .lt 44, 3) := by decide +kernel
theorem dX11_turnToNextRow_12 : decode cX11_turnToNextRow 12 = .ok (.aload_n 0, 1) := by decide +kernel
theorem dX11_turnToNextRow_13 : decode cX11_turnToNextRow 13 = .ok (.getfield 60, 3) := by decide +kernel
theorem dX11_turnToNextRow_16 : decode cX11_turnToNextRow 16 = .ok (.iload_n 2, 1) := by decide +kernel
theorem dX11_turnToNextRow_17 : decode cX11_turnToNextRow 17 = .ok (.dup2, 1) := by decide +kernel
theorem dX11_turnToNextRow_18 : decode cX11_turnToNextRow 18 = .ok (.iaload, 1) := by decide +kernel
theorem dX11_turnToNextRow_19 : decode cX11_turnToNextRow 19 = .ok (.iconst 1, 1) := by decide +kernel
theorem dX11_turnToNextRow_20 : decode cX11_turnToNextRow 20 = .ok (.iadd, 1) := by decide +kernel
theorem dX11_turnToNextRow_21 : decode cX11_turnToNextRow 21 = .ok (.iastore, 1) := by decide +kernel
theorem dX11_turnToNextRow_22 : decode cX11_turnToNextRow 22 = .ok (.aload_n 0, 1) := by decide +kernel
theorem dX11_turnToNextRow_23 : decode cX11_turnToNextRow 23 = .ok (.getfield 60, 3) := by decide +kernel
theorem dX11_turnToNextRow_26 : decode cX11_turnToNextRow 26 = .ok (.iload_n 2, 1) := by decide +kernel
theorem dX11_turnToNextRow_27 : decode cX11_turnToNextRow 27 = .ok (.iaload, 1) := by decide +kernel
theorem dX11_turnToNextRow_28 : decode cX11_turnToNextRow 28 = .ok (.aload_n 0, 1) := by decide +kernel
theorem dX11_turnToNextRow_29 : decode cX11_turnToNextRow 29 = .ok (.getfield 19, 3) := by decide +kernel
theorem dX11_turnToNextRow_32 : decode cX11_turnToNextRow 32 = .ok (.getfield 112, 3) := by decide +kernel
theorem dX11_turnToNextRow_35 : decode cX11_turnToNextRow 35 = .ok (.if_icmp .ge 5, 3) := by decide +kernel
theorem dX11_turnToNextRow_38 : decode cX11_turnToNextRow 38 = .ok (.iconst 1, 1) := by decide +kernel
theorem dX11_turnToNextRow_39 : decode cX11_turnToNextRow 39 = .ok (.ireturn, 1) := by decide +kernel
theorem dX11_turnToNextRow_40 : decode cX11_turnToNextRow 40 = .ok (.aload_n 0, 1) := by decide +kernel
theorem dX11_turnToNextRow_41 : decode cX11_turnToNextRow 41 = .ok (.getfield 60, 3) := by decide +kernel
theorem dX11_turnToNextRow_44 : decode cX11_turnToNextRow 44 = .ok (.iload_n 2, 1) := by decide +kernel
theorem dX11_turnToNextRow_45 : decode cX11_turnToNextRow 45 = .ok (.iconst 0, 1) := by decide +kernel
theorem dX11_turnToNextRow_46 : decode cX11_turnToNextRow 46 = .ok (.iastore, 1) := by decide +kernel
theorem dX11_turnToNextRow_47 : decode cX11_turnToNextRow 47 = .ok (.iinc 2 (-1), 3) := by decide +kernel
theorem dX11_turnToNextRow_50 : decode cX11_turnToNextRow 50 = .ok (.goto (-42), 3) := by decide +kernel
theorem dX11_turnToNextRow_53 : decode cX11_turnToNextRow 53 = .ok (.iconst 0, 1) := by decide +kernel
theorem dX11_turnToNextRow_54 : decode cX11_turnToNextRow 54 = .ok (.ireturn, 1) := by decide +kernel
theorem dX11_valuesOf_0 : decode cX11_valuesOf 0 = .ok (.iload_n 1, 1) := by decide +kernel
theorem dX11_valuesOf_1 : decode cX11_valuesOf 1 = .ok (.ifCond .ne 5, 3) := by decide +kernel
theorem dX11_valuesOf_4 : decode cX11_valuesOf 4 = .ok (.iconst 4, 1) := by decide +kernel
theorem dX11_valuesOf_5 : decode cX11_valuesOf 5 = .ok (.ireturn, 1) := by decide +kernel
theorem dX11_valuesOf_6 : decode cX11_valuesOf 6 = .ok (.iload_n 1, 1) := by decide +kernel
theorem dX11_valuesOf_7 : decode cX11_valuesOf 7 = .ok (.iconst 1, 1) := by decide +kernel
theorem dX11_valuesOf_8 : decode cX11_valuesOf 8 = .ok (.if_icmp .ne 8, 3) := by decide +kernel
theorem dX11_valuesOf_11 : decode cX11_valuesOf 11 = .ok (.bipush 8, 2) := by decide +kernel
theorem dX11_valuesOf_13 : decode cX11_valuesOf 13 = .ok (.goto 10, 3) := by decide +kernel
theorem dX11_valuesOf_16 : decode cX11_valuesOf 16 = .ok (.aload_n 0, 1) := by decide +kernel
theorem dX11_valuesOf_17 : decode cX11_valuesOf 17 = .ok (.getfield 19, 3) := by decide +kernel
theorem dX11_valuesOf_20 : decode cX11_valuesOf 20 = .ok (.getfield 112, 3) := by decide +kernel
theorem dX11_valuesOf_23 : decode cX11_valuesOf 23 = .ok (.ireturn, 1) := by decide +kernel
set_option maxRecDepth 20000 in
theorem ggX11_playSeasons_X8_copyFrom : GoodIn wsX11_playSeasons wsX8_copyFrom := goodIn_r _ [10, 11, 12, 13, 14, 15, 16, 96, 97, 98, 99, 100, 101] (by decide +kernel) (by decide +kernel)
set_option maxRecDepth 20000 in
theorem gX11_playSeasons_X8_copyFrom_n196 : GoodIn wsX11_playSeasons (wsX8_copyFrom) := ggX11_playSeasons_X8_copyFrom
set_option maxRecDepth 20000 in
theorem ggX11_playSeasons_X11_drawnPerson : GoodIn wsX11_playSeasons wsX11_drawnPerson := goodIn_r _ [21, 6, 22, 82, 83, 84, 85, 86, 87, 88, 89, 90, 91, 92, 93, 94, 95, 102, 103] (by decide +kernel) (by decide +kernel)
set_option maxRecDepth 20000 in
theorem gX11_playSeasons_X11_drawnPerson : GoodIn wsX11_playSeasons (wsV RX11 269 RX11 yX11_drawnPerson wsX11_drawnPerson) := goodIn_app (goodIn_of _ (by decide +kernel)) ggX11_playSeasons_X11_drawnPerson
set_option maxRecDepth 20000 in
theorem ggX11_playSeasons_X11_handOver : GoodIn wsX11_playSeasons wsX11_handOver := goodIn_r _ [26, 6, 27, 28, 29, 30, 31, 32, 33, 34, 35, 36, 37, 38, 39, 40, 41, 42, 43, 44, 45, 46, 47, 48, 49, 50, 51, 52, 53, 54, 55, 56, 57, 58, 59, 60, 61, 62, 63, 64, 65, 8, 66, 67, 11, 14, 12, 16, 13, 68, 69, 70, 82, 83, 84, 85, 86, 87, 88, 89, 90, 91, 92, 93, 94, 95, 96, 97, 98, 99, 100, 101, 102, 103, 104] (by decide +kernel) (by decide +kernel)
set_option maxRecDepth 20000 in
theorem gX11_playSeasons_X11_handOver : GoodIn wsX11_playSeasons (wsV RX11 143 RX11 yX11_handOver wsX11_handOver) := goodIn_app (goodIn_of _ (by decide +kernel)) ggX11_playSeasons_X11_handOver
set_option maxRecDepth 20000 in
theorem ggX11_playSeasons_X8_payIfDue : GoodIn wsX11_playSeasons wsX8_payIfDue := goodIn_r _ [73, 16, 15, 68, 69, 8, 70, 74, 75, 76, 77, 11, 12, 78, 79, 80, 81, 14, 96, 97, 98, 99, 100, 101] (by decide +kernel) (by decide +kernel)
set_option maxRecDepth 20000 in
theorem gX11_playSeasons_X8_payIfDue_n150 : GoodIn wsX11_playSeasons (wsX8_payIfDue) := ggX11_playSeasons_X8_payIfDue
theorem dX11_playSeasons_0 : decode cX11_playSeasons 0 = .ok (.aload_n 0, 1) := by decide +kernel
theorem dX11_playSeasons_1 : decode cX11_playSeasons 1 = .ok (.getfield 33, 3) := by decide +kernel
theorem dX11_playSeasons_4 : decode cX11_playSeasons 4 = .ok (.aload_n 0, 1) := by decide +kernel
theorem dX11_playSeasons_5 : decode cX11_playSeasons 5 = .ok (.getfield 26, 3) := by decide +kernel
theorem dX11_playSeasons_8 : decode cX11_playSeasons 8 = .ok (.invokevirtual 196, 3) := by decide +kernel
theorem dX11_playSeasons_11 : decode cX11_playSeasons 11 = .ok (.iload_n 2, 1) := by decide +kernel
theorem dX11_playSeasons_12 : decode cX11_playSeasons 12 = .ok (.i2l, 1) := by decide +kernel
theorem dX11_playSeasons_13 : decode cX11_playSeasons 13 = .ok (.lstore_n 3, 1) := by decide +kernel
theorem dX11_playSeasons_14 : decode cX11_playSeasons 14 = .ok (.iconst 0, 1) := by decide +kernel
theorem dX11_playSeasons_15 : decode cX11_playSeasons 15 = .ok (.istore 5, 2) := by decide +kernel
theorem dX11_playSeasons_17 : decode cX11_playSeasons 17 = .ok (.iload 5, 2) := by decide +kernel
theorem dX11_playSeasons_19 : decode cX11_playSeasons 19 = .ok (.iload_n 1, 1) := by decide +kernel
theorem dX11_playSeasons_20 : decode cX11_playSeasons 20 = .ok (.if_icmp .ge 83, 3) := by decide +kernel
theorem dX11_playSeasons_23 : decode cX11_playSeasons 23 = .ok (.ldc2_w 263, 3) := by decide +kernel
theorem dX11_playSeasons_26 : decode cX11_playSeasons 26 = .ok (.lload_n 3, 1) := by decide +kernel
theorem dX11_playSeasons_27 : decode cX11_playSeasons 27 = .ok (.lmul, 1) := by decide +kernel
theorem dX11_playSeasons_28 : decode cX11_playSeasons 28 = .ok (.ldc2_w 265, 3) := by decide +kernel
theorem dX11_playSeasons_31 : decode cX11_playSeasons 31 = .ok (.ladd, 1) := by decide +kernel
theorem dX11_playSeasons_32 : decode cX11_playSeasons 32 = .ok (.ldc2_w 267, 3) := by decide +kernel
theorem dX11_playSeasons_35 : decode cX11_playSeasons 35 = .ok (.lrem, 1) := by decide +kernel
theorem dX11_playSeasons_36 : decode cX11_playSeasons 36 = .ok (.lstore_n 3, 1) := by decide +kernel
theorem dX11_playSeasons_37 : decode cX11_playSeasons 37 = .ok (.aload_n 0, 1) := by decide +kernel
theorem dX11_playSeasons_38 : decode cX11_playSeasons 38 = .ok (.lload_n 3, 1) := by decide +kernel
theorem dX11_playSeasons_39 : decode cX11_playSeasons 39 = .ok (.invokevirtual 269, 3) := by decide +kernel
theorem dX11_playSeasons_42 : decode cX11_playSeasons 42 = .ok (.istore 6, 2) := by decide +kernel
theorem dX11_playSeasons_44 : decode cX11_playSeasons 44 = .ok (.iload 6, 2) := by decide +kernel
theorem dX11_playSeasons_46 : decode cX11_playSeasons 46 = .ok (.aload_n 0, 1) := by decide +kernel
theorem dX11_playSeasons_47 : decode cX11_playSeasons 47 = .ok (.getfield 33, 3) := by decide +kernel
theorem dX11_playSeasons_50 : decode cX11_playSeasons 50 = .ok (.getfield 121, 3) := by decide +kernel
theorem dX11_playSeasons_53 : decode cX11_playSeasons 53 = .ok (.if_icmp .eq 13, 3) := by decide +kernel
theorem dX11_playSeasons_56 : decode cX11_playSeasons 56 = .ok (.aload_n 0, 1) := by decide +kernel
theorem dX11_playSeasons_57 : decode cX11_playSeasons 57 = .ok (.aload_n 0, 1) := by decide +kernel
theorem dX11_playSeasons_58 : decode cX11_playSeasons 58 = .ok (.getfield 33, 3) := by decide +kernel
theorem dX11_playSeasons_61 : decode cX11_playSeasons 61 = .ok (.iload 6, 2) := by decide +kernel
theorem dX11_playSeasons_63 : decode cX11_playSeasons 63 = .ok (.invokevirtual 143, 3) := by decide +kernel
theorem dX11_playSeasons_66 : decode cX11_playSeasons 66 = .ok (.iconst 0, 1) := by decide +kernel
theorem dX11_playSeasons_67 : decode cX11_playSeasons 67 = .ok (.istore 7, 2) := by decide +kernel
theorem dX11_playSeasons_69 : decode cX11_playSeasons 69 = .ok (.iload 7, 2) := by decide +kernel
theorem dX11_playSeasons_71 : decode cX11_playSeasons 71 = .ok (.aload_n 0, 1) := by decide +kernel
theorem dX11_playSeasons_72 : decode cX11_playSeasons 72 = .ok (.getfield 19, 3) := by decide +kernel
theorem dX11_playSeasons_75 : decode cX11_playSeasons 75 = .ok (.getfield 112, 3) := by decide +kernel
theorem dX11_playSeasons_78 : decode cX11_playSeasons 78 = .ok (.if_icmp .ge 19, 3) := by decide +kernel
theorem dX11_playSeasons_81 : decode cX11_playSeasons 81 = .ok (.aload_n 0, 1) := by decide +kernel
theorem dX11_playSeasons_82 : decode cX11_playSeasons 82 = .ok (.getfield 33, 3) := by decide +kernel
theorem dX11_playSeasons_85 : decode cX11_playSeasons 85 = .ok (.iload 7, 2) := by decide +kernel
theorem dX11_playSeasons_87 : decode cX11_playSeasons 87 = .ok (.invokevirtual 150, 3) := by decide +kernel
theorem dX11_playSeasons_90 : decode cX11_playSeasons 90 = .ok (.pop, 1) := by decide +kernel
theorem dX11_playSeasons_91 : decode cX11_playSeasons 91 = .ok (.iinc 7 1, 3) := by decide +kernel
theorem dX11_playSeasons_94 : decode cX11_playSeasons 94 = .ok (.goto (-25), 3) := by decide +kernel
theorem dX11_playSeasons_97 : decode cX11_playSeasons 97 = .ok (.iinc 5 1, 3) := by decide +kernel
theorem dX11_playSeasons_100 : decode cX11_playSeasons 100 = .ok (.goto (-83), 3) := by decide +kernel
theorem dX11_playSeasons_103 : decode cX11_playSeasons 103 = .ok (.lload_n 3, 1) := by decide +kernel
theorem dX11_playSeasons_104 : decode cX11_playSeasons 104 = .ok (.l2i, 1) := by decide +kernel
theorem dX11_playSeasons_105 : decode cX11_playSeasons 105 = .ok (.ireturn, 1) := by decide +kernel
theorem dX11_drawnPerson_0 : decode cX11_drawnPerson 0 = .ok (.aload_n 0, 1) := by decide +kernel
theorem dX11_drawnPerson_1 : decode cX11_drawnPerson 1 = .ok (.getfield 19, 3) := by decide +kernel
theorem dX11_drawnPerson_4 : decode cX11_drawnPerson 4 = .ok (.getfield 112, 3) := by decide +kernel
theorem dX11_drawnPerson_7 : decode cX11_drawnPerson 7 = .ok (.ifCond .le 21, 3) := by decide +kernel
theorem dX11_drawnPerson_10 : decode cX11_drawnPerson 10 = .ok (.lload_n 1, 1) := by decide +kernel
theorem dX11_drawnPerson_11 : decode cX11_drawnPerson 11 = .ok (.ldc2_w 273, 3) := by decide +kernel
theorem dX11_drawnPerson_14 : decode cX11_drawnPerson 14 = .ok (.ldiv, 1) := by decide +kernel
theorem dX11_drawnPerson_15 : decode cX11_drawnPerson 15 = .ok (.aload_n 0, 1) := by decide +kernel
theorem dX11_drawnPerson_16 : decode cX11_drawnPerson 16 = .ok (.getfield 19, 3) := by decide +kernel
theorem dX11_drawnPerson_19 : decode cX11_drawnPerson 19 = .ok (.getfield 112, 3) := by decide +kernel
theorem dX11_drawnPerson_22 : decode cX11_drawnPerson 22 = .ok (.i2l, 1) := by decide +kernel
theorem dX11_drawnPerson_23 : decode cX11_drawnPerson 23 = .ok (.lrem, 1) := by decide +kernel
theorem dX11_drawnPerson_24 : decode cX11_drawnPerson 24 = .ok (.l2i, 1) := by decide +kernel
theorem dX11_drawnPerson_25 : decode cX11_drawnPerson 25 = .ok (.goto 4, 3) := by decide +kernel
theorem dX11_drawnPerson_28 : decode cX11_drawnPerson 28 = .ok (.iconst 0, 1) := by decide +kernel
theorem dX11_drawnPerson_29 : decode cX11_drawnPerson 29 = .ok (.ireturn, 1) := by decide +kernel
theorem dX11_placeOf_0 : decode cX11_placeOf 0 = .ok (.iload_n 0, 1) := by decide +kernel
theorem dX11_placeOf_1 : decode cX11_placeOf 1 = .ok (.ifCond .lt 22, 3) := by decide +kernel
theorem dX11_placeOf_4 : decode cX11_placeOf 4 = .ok (.iload_n 0, 1) := by decide +kernel
theorem dX11_placeOf_5 : decode cX11_placeOf 5 = .ok (.iconst 4, 1) := by decide +kernel
theorem dX11_placeOf_6 : decode cX11_placeOf 6 = .ok (.if_icmp .ge 17, 3) := by decide +kernel
theorem dX11_placeOf_9 : decode cX11_placeOf 9 = .ok (.iload_n 1, 1) := by decide +kernel
theorem dX11_placeOf_10 : decode cX11_placeOf 10 = .ok (.ifCond .lt 13, 3) := by decide +kernel
theorem dX11_placeOf_13 : decode cX11_placeOf 13 = .ok (.iload_n 1, 1) := by decide +kernel
theorem dX11_placeOf_14 : decode cX11_placeOf 14 = .ok (.bipush 32, 2) := by decide +kernel
theorem dX11_placeOf_16 : decode cX11_placeOf 16 = .ok (.if_icmp .ge 7, 3) := by decide +kernel
theorem dX11_placeOf_19 : decode cX11_placeOf 19 = .ok (.iconst 1, 1) := by decide +kernel
theorem dX11_placeOf_20 : decode cX11_placeOf 20 = .ok (.goto 4, 3) := by decide +kernel
theorem dX11_placeOf_23 : decode cX11_placeOf 23 = .ok (.iconst 0, 1) := by decide +kernel
theorem dX11_placeOf_24 : decode cX11_placeOf 24 = .ok (.istore_n 2, 1) := by decide +kernel
theorem dX11_placeOf_25 : decode cX11_placeOf 25 = .ok (.iload_n 2, 1) := by decide +kernel
theorem dX11_placeOf_26 : decode cX11_placeOf 26 = .ok (.ifCond .eq 12, 3) := by decide +kernel
theorem dX11_placeOf_29 : decode cX11_placeOf 29 = .ok (.bipush 32, 2) := by decide +kernel
theorem dX11_placeOf_31 : decode cX11_placeOf 31 = .ok (.iload_n 0, 1) := by decide +kernel
theorem dX11_placeOf_32 : decode cX11_placeOf 32 = .ok (.imul, 1) := by decide +kernel
theorem dX11_placeOf_33 : decode cX11_placeOf 33 = .ok (.iload_n 1, 1) := by decide +kernel
theorem dX11_placeOf_34 : decode cX11_placeOf 34 = .ok (.iadd, 1) := by decide +kernel
theorem dX11_placeOf_35 : decode cX11_placeOf 35 = .ok (.goto 4, 3) := by decide +kernel
theorem dX11_placeOf_38 : decode cX11_placeOf 38 = .ok (.iconst (-1), 1) := by decide +kernel
theorem dX11_placeOf_39 : decode cX11_placeOf 39 = .ok (.ireturn, 1) := by decide +kernel
theorem dX11_holderAt_0 : decode cX11_holderAt 0 = .ok (.iload_n 0, 1) := by decide +kernel
theorem dX11_holderAt_1 : decode cX11_holderAt 1 = .ok (.bipush 32, 2) := by decide +kernel
theorem dX11_holderAt_3 : decode cX11_holderAt 3 = .ok (.idiv, 1) := by decide +kernel
theorem dX11_holderAt_4 : decode cX11_holderAt 4 = .ok (.ireturn, 1) := by decide +kernel
theorem dX11_marksAt_0 : decode cX11_marksAt 0 = .ok (.iload_n 0, 1) := by decide +kernel
theorem dX11_marksAt_1 : decode cX11_marksAt 1 = .ok (.bipush 32, 2) := by decide +kernel
theorem dX11_marksAt_3 : decode cX11_marksAt 3 = .ok (.irem, 1) := by decide +kernel
theorem dX11_marksAt_4 : decode cX11_marksAt 4 = .ok (.ireturn, 1) := by decide +kernel
set_option maxRecDepth 20000 in
theorem ggX11_seenAt_X11_holderAt : GoodIn wsX11_seenAt wsX11_holderAt := goodIn_r _ [4] (by decide +kernel) (by decide +kernel)
set_option maxRecDepth 20000 in
theorem gX11_seenAt_X11_holderAt : GoodIn wsX11_seenAt (va_wsS RX11 275 yX11_holderAt wsX11_holderAt) := goodIn_app (goodIn_of _ (by decide +kernel)) ggX11_seenAt_X11_holderAt
set_option maxRecDepth 20000 in
theorem ggX11_seenAt_X11_marksAt : GoodIn wsX11_seenAt wsX11_marksAt := goodIn_r _ [7] (by decide +kernel) (by decide +kernel)
set_option maxRecDepth 20000 in
theorem gX11_seenAt_X11_marksAt : GoodIn wsX11_seenAt (va_wsS RX11 278 yX11_marksAt wsX11_marksAt) := goodIn_app (goodIn_of _ (by decide +kernel)) ggX11_seenAt_X11_marksAt
theorem dX11_seenAt_0 : decode cX11_seenAt 0 = .ok (.iload_n 1, 1) := by decide +kernel
theorem dX11_seenAt_1 : decode cX11_seenAt 1 = .ok (.iconst 2, 1) := by decide +kernel
theorem dX11_seenAt_2 : decode cX11_seenAt 2 = .ok (.if_icmp .ne 8, 3) := by decide +kernel
theorem dX11_seenAt_5 : decode cX11_seenAt 5 = .ok (.iload_n 0, 1) := by decide +kernel
theorem dX11_seenAt_6 : decode cX11_seenAt 6 = .ok (.invokestatic 275, 3) := by decide +kernel
theorem dX11_seenAt_9 : decode cX11_seenAt 9 = .ok (.ireturn, 1) := by decide +kernel
theorem dX11_seenAt_10 : decode cX11_seenAt 10 = .ok (.iload_n 1, 1) := by decide +kernel
theorem dX11_seenAt_11 : decode cX11_seenAt 11 = .ok (.ifCond .ne 13, 3) := by decide +kernel
theorem dX11_seenAt_14 : decode cX11_seenAt 14 = .ok (.iload_n 0, 1) := by decide +kernel
theorem dX11_seenAt_15 : decode cX11_seenAt 15 = .ok (.invokestatic 278, 3) := by decide +kernel
theorem dX11_seenAt_18 : decode cX11_seenAt 18 = .ok (.bipush 8, 2) := by decide +kernel
theorem dX11_seenAt_20 : decode cX11_seenAt 20 = .ok (.idiv, 1) := by decide +kernel
theorem dX11_seenAt_21 : decode cX11_seenAt 21 = .ok (.goto 10, 3) := by decide +kernel
theorem dX11_seenAt_24 : decode cX11_seenAt 24 = .ok (.iload_n 0, 1) := by decide +kernel
theorem dX11_seenAt_25 : decode cX11_seenAt 25 = .ok (.invokestatic 278, 3) := by decide +kernel
theorem dX11_seenAt_28 : decode cX11_seenAt 28 = .ok (.bipush 8, 2) := by decide +kernel
theorem dX11_seenAt_30 : decode cX11_seenAt 30 = .ok (.irem, 1) := by decide +kernel
theorem dX11_seenAt_31 : decode cX11_seenAt 31 = .ok (.ireturn, 1) := by decide +kernel
