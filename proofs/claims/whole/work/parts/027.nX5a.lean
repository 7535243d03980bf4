theorem dX5_init_0 : decode cX5_init 0 = .ok (.aload_n 0, 1) := by decide +kernel
theorem dX5_init_1 : decode cX5_init 1 = .ok (.invokespecial 1, 3) := by decide +kernel
theorem dX5_init_4 : decode cX5_init 4 = .ok (.aload_n 0, 1) := by decide +kernel
theorem dX5_init_5 : decode cX5_init 5 = .ok (.iconst 2, 1) := by decide +kernel
theorem dX5_init_6 : decode cX5_init 6 = .ok (.putfield 7, 3) := by decide +kernel
theorem dX5_init_9 : decode cX5_init 9 = .ok (.aload_n 0, 1) := by decide +kernel
theorem dX5_init_10 : decode cX5_init 10 = .ok (.iconst 5, 1) := by decide +kernel
theorem dX5_init_11 : decode cX5_init 11 = .ok (.putfield 13, 3) := by decide +kernel
theorem dX5_init_14 : decode cX5_init 14 = .ok (.aload_n 0, 1) := by decide +kernel
theorem dX5_init_15 : decode cX5_init 15 = .ok (.iconst 1, 1) := by decide +kernel
theorem dX5_init_16 : decode cX5_init 16 = .ok (.putfield 16, 3) := by decide +kernel
theorem dX5_init_19 : decode cX5_init 19 = .ok (.aload_n 0, 1) := by decide +kernel
theorem dX5_init_20 : decode cX5_init 20 = .ok (.iconst 3, 1) := by decide +kernel
theorem dX5_init_21 : decode cX5_init 21 = .ok (.putfield 19, 3) := by decide +kernel
theorem dX5_init_24 : decode cX5_init 24 = .ok (.aload_n 0, 1) := by decide +kernel
theorem dX5_init_25 : decode cX5_init 25 = .ok (.bipush 8, 2) := by decide +kernel
theorem dX5_init_27 : decode cX5_init 27 = .ok (.newarray .int, 2) := by decide +kernel
theorem dX5_init_29 : decode cX5_init 29 = .ok (.putfield 22, 3) := by decide +kernel
theorem dX5_init_32 : decode cX5_init 32 = .ok (.aload_n 0, 1) := by decide +kernel
theorem dX5_init_33 : decode cX5_init 33 = .ok (.bipush 8, 2) := by decide +kernel
theorem dX5_init_35 : decode cX5_init 35 = .ok (.newarray .int, 2) := by decide +kernel
theorem dX5_init_37 : decode cX5_init 37 = .ok (.putfield 26, 3) := by decide +kernel
theorem dX5_init_40 : decode cX5_init 40 = .ok (.aload_n 0, 1) := by decide +kernel
theorem dX5_init_41 : decode cX5_init 41 = .ok (.bipush 14, 2) := by decide +kernel
theorem dX5_init_43 : decode cX5_init 43 = .ok (.newarray .int, 2) := by decide +kernel
theorem dX5_init_45 : decode cX5_init 45 = .ok (.putfield 29, 3) := by decide +kernel
theorem dX5_init_48 : decode cX5_init 48 = .ok (.aload_n 0, 1) := by decide +kernel
theorem dX5_init_49 : decode cX5_init 49 = .ok (.bipush 28, 2) := by decide +kernel
theorem dX5_init_51 : decode cX5_init 51 = .ok (.newarray .int, 2) := by decide +kernel
theorem dX5_init_53 : decode cX5_init 53 = .ok (.putfield 32, 3) := by decide +kernel
theorem dX5_init_56 : decode cX5_init 56 = .ok (.aload_n 0, 1) := by decide +kernel
theorem dX5_init_57 : decode cX5_init 57 = .ok (.iconst 2, 1) := by decide +kernel
theorem dX5_init_58 : decode cX5_init 58 = .ok (.newarray .boolean, 2) := by decide +kernel
theorem dX5_init_60 : decode cX5_init 60 = .ok (.putfield 35, 3) := by decide +kernel
theorem dX5_init_63 : decode cX5_init 63 = .ok (.aload_n 0, 1) := by decide +kernel
theorem dX5_init_64 : decode cX5_init 64 = .ok (.sipush 200, 3) := by decide +kernel
theorem dX5_init_67 : decode cX5_init 67 = .ok (.newarray .int, 2) := by decide +kernel
theorem dX5_init_69 : decode cX5_init 69 = .ok (.putfield 39, 3) := by decide +kernel
theorem dX5_init_72 : decode cX5_init 72 = .ok (.aload_n 0, 1) := by decide +kernel
theorem dX5_init_73 : decode cX5_init 73 = .ok (.bipush 8, 2) := by decide +kernel
theorem dX5_init_75 : decode cX5_init 75 = .ok (.newarray .int, 2) := by decide +kernel
theorem dX5_init_77 : decode cX5_init 77 = .ok (.putfield 42, 3) := by decide +kernel
theorem dX5_init_80 : decode cX5_init 80 = .ok (.aload_n 0, 1) := by decide +kernel
theorem dX5_init_81 : decode cX5_init 81 = .ok (.bipush 8, 2) := by decide +kernel
theorem dX5_init_83 : decode cX5_init 83 = .ok (.newarray .int, 2) := by decide +kernel
theorem dX5_init_85 : decode cX5_init 85 = .ok (.putfield 45, 3) := by decide +kernel
theorem dX5_init_88 : decode cX5_init 88 = .ok (.aload_n 0, 1) := by decide +kernel
theorem dX5_init_89 : decode cX5_init 89 = .ok (.bipush 8, 2) := by decide +kernel
theorem dX5_init_91 : decode cX5_init 91 = .ok (.newarray .int, 2) := by decide +kernel
theorem dX5_init_93 : decode cX5_init 93 = .ok (.putfield 48, 3) := by decide +kernel
theorem dX5_init_96 : decode cX5_init 96 = .ok (.aload_n 0, 1) := by decide +kernel
theorem dX5_init_97 : decode cX5_init 97 = .ok (.bipush 8, 2) := by decide +kernel
theorem dX5_init_99 : decode cX5_init 99 = .ok (.newarray .int, 2) := by decide +kernel
theorem dX5_init_101 : decode cX5_init 101 = .ok (.putfield 51, 3) := by decide +kernel
theorem dX5_init_104 : decode cX5_init 104 = .ok (.aload_n 0, 1) := by decide +kernel
theorem dX5_init_105 : decode cX5_init 105 = .ok (.bipush 8, 2) := by decide +kernel
theorem dX5_init_107 : decode cX5_init 107 = .ok (.newarray .int, 2) := by decide +kernel
theorem dX5_init_109 : decode cX5_init 109 = .ok (.putfield 54, 3) := by decide +kernel
theorem dX5_init_112 : decode cX5_init 112 = .ok (.aload_n 0, 1) := by decide +kernel
theorem dX5_init_113 : decode cX5_init 113 = .ok (.bipush 41, 2) := by decide +kernel
theorem dX5_init_115 : decode cX5_init 115 = .ok (.newarray .int, 2) := by decide +kernel
theorem dX5_init_117 : decode cX5_init 117 = .ok (.putfield 57, 3) := by decide +kernel
theorem dX5_init_120 : decode cX5_init 120 = .ok (.aload_n 0, 1) := by decide +kernel
theorem dX5_init_121 : decode cX5_init 121 = .ok (.sipush 1025, 3) := by decide +kernel
theorem dX5_init_124 : decode cX5_init 124 = .ok (.newarray .int, 2) := by decide +kernel
theorem dX5_init_126 : decode cX5_init 126 = .ok (.putfield 60, 3) := by decide +kernel
theorem dX5_init_129 : decode cX5_init 129 = .ok (.aload_n 0, 1) := by decide +kernel
theorem dX5_init_130 : decode cX5_init 130 = .ok (.sipush 400, 3) := by decide +kernel
theorem dX5_init_133 : decode cX5_init 133 = .ok (.newarray .long, 2) := by decide +kernel
theorem dX5_init_135 : decode cX5_init 135 = .ok (.putfield 63, 3) := by decide +kernel
theorem dX5_init_138 : decode cX5_init 138 = .ok (.aload_n 0, 1) := by decide +kernel
theorem dX5_init_139 : decode cX5_init 139 = .ok (.sipush 400, 3) := by decide +kernel
theorem dX5_init_142 : decode cX5_init 142 = .ok (.newarray .long, 2) := by decide +kernel
theorem dX5_init_144 : decode cX5_init 144 = .ok (.putfield 67, 3) := by decide +kernel
theorem dX5_init_147 : decode cX5_init 147 = .ok (.aload_n 0, 1) := by decide +kernel
theorem dX5_init_148 : decode cX5_init 148 = .ok (.getfield 29, 3) := by decide +kernel
theorem dX5_init_151 : decode cX5_init 151 = .ok (.iconst 1, 1) := by decide +kernel
theorem dX5_init_152 : decode cX5_init 152 = .ok (.bipush (-9), 2) := by decide +kernel
theorem dX5_init_154 : decode cX5_init 154 = .ok (.iastore, 1) := by decide +kernel
theorem dX5_init_155 : decode cX5_init 155 = .ok (.return_, 1) := by decide +kernel
theorem dX5_in_0 : decode cX5_in 0 = .ok (.iload_n 0, 1) := by decide +kernel
theorem dX5_in_1 : decode cX5_in 1 = .ok (.iload_n 1, 1) := by decide +kernel
theorem dX5_in_2 : decode cX5_in 2 = .ok (.if_icmp .lt 12, 3) := by decide +kernel
theorem dX5_in_5 : decode cX5_in 5 = .ok (.iload_n 0, 1) := by decide +kernel
theorem dX5_in_6 : decode cX5_in 6 = .ok (.iload_n 2, 1) := by decide +kernel
theorem dX5_in_7 : decode cX5_in 7 = .ok (.if_icmp .gt 7, 3) := by decide +kernel
theorem dX5_in_10 : decode cX5_in 10 = .ok (.iconst 1, 1) := by decide +kernel
theorem dX5_in_11 : decode cX5_in 11 = .ok (.goto 4, 3) := by decide +kernel
theorem dX5_in_14 : decode cX5_in 14 = .ok (.iconst 0, 1) := by decide +kernel
theorem dX5_in_15 : decode cX5_in 15 = .ok (.ireturn, 1) := by decide +kernel
theorem dX5_has_0 : decode cX5_has 0 = .ok (.iload_n 0, 1) := by decide +kernel
theorem dX5_has_1 : decode cX5_has 1 = .ok (.iload_n 1, 1) := by decide +kernel
theorem dX5_has_2 : decode cX5_has 2 = .ok (.ishr, 1) := by decide +kernel
theorem dX5_has_3 : decode cX5_has 3 = .ok (.iconst 1, 1) := by decide +kernel
theorem dX5_has_4 : decode cX5_has 4 = .ok (.iand, 1) := by decide +kernel
theorem dX5_has_5 : decode cX5_has 5 = .ok (.iconst 1, 1) := by decide +kernel
theorem dX5_has_6 : decode cX5_has 6 = .ok (.if_icmp .ne 7, 3) := by decide +kernel
theorem dX5_has_9 : decode cX5_has 9 = .ok (.iconst 1, 1) := by decide +kernel
theorem dX5_has_10 : decode cX5_has 10 = .ok (.goto 4, 3) := by decide +kernel
theorem dX5_has_13 : decode cX5_has 13 = .ok (.iconst 0, 1) := by decide +kernel
theorem dX5_has_14 : decode cX5_has 14 = .ok (.ireturn, 1) := by decide +kernel
theorem dX5_size_0 : decode cX5_size 0 = .ok (.iload_n 0, 1) := by decide +kernel
theorem dX5_size_1 : decode cX5_size 1 = .ok (.ifCond .ge 8, 3) := by decide +kernel
theorem dX5_size_4 : decode cX5_size 4 = .ok (.iload_n 0, 1) := by decide +kernel
theorem dX5_size_5 : decode cX5_size 5 = .ok (.ineg, 1) := by decide +kernel
theorem dX5_size_6 : decode cX5_size 6 = .ok (.goto 4, 3) := by decide +kernel
theorem dX5_size_9 : decode cX5_size 9 = .ok (.iload_n 0, 1) := by decide +kernel
theorem dX5_size_10 : decode cX5_size 10 = .ok (.ireturn, 1) := by decide +kernel
theorem dX5_cells_0 : decode cX5_cells 0 = .ok (.aload_n 0, 1) := by decide +kernel
theorem dX5_cells_1 : decode cX5_cells 1 = .ok (.getfield 13, 3) := by decide +kernel
theorem dX5_cells_4 : decode cX5_cells 4 = .ok (.aload_n 0, 1) := by decide +kernel
theorem dX5_cells_5 : decode cX5_cells 5 = .ok (.getfield 7, 3) := by decide +kernel
theorem dX5_cells_8 : decode cX5_cells 8 = .ok (.imul, 1) := by decide +kernel
theorem dX5_cells_9 : decode cX5_cells 9 = .ok (.ireturn, 1) := by decide +kernel
set_option maxRecDepth 20000 in
theorem ggX5_isCell_X5_cells : GoodIn wsX5_isCell wsX5_cells := goodIn_r _ [5, 6, 7, 11, 12, 13, 14, 15, 16, 17, 18, 19, 20, 21, 22, 23, 24, 25, 26, 27, 28, 29, 30, 31, 32, 33, 34, 35, 36, 37, 38, 39, 40, 41, 42, 43, 44, 45, 46, 47, 48, 49, 50, 51] (by decide +kernel) (by decide +kernel)
set_option maxRecDepth 20000 in
theorem gX5_isCell_X5_cells : GoodIn wsX5_isCell (wsV RX5 70 RX5 yX5_cells wsX5_cells) := goodIn_app (goodIn_of _ (by decide +kernel)) ggX5_isCell_X5_cells
set_option maxRecDepth 20000 in
theorem ggX5_isCell_X5_in : GoodIn wsX5_isCell wsX5_in := goodIn_r _ [10] (by decide +kernel) (by decide +kernel)
set_option maxRecDepth 20000 in
theorem gX5_isCell_X5_in : GoodIn wsX5_isCell (va_wsS RX5 74 yX5_in wsX5_in) := goodIn_app (goodIn_of _ (by decide +kernel)) ggX5_isCell_X5_in
theorem dX5_isCell_0 : decode cX5_isCell 0 = .ok (.iload_n 1, 1) := by decide +kernel
theorem dX5_isCell_1 : decode cX5_isCell 1 = .ok (.iconst 0, 1) := by decide +kernel
theorem dX5_isCell_2 : decode cX5_isCell 2 = .ok (.aload_n 0, 1) := by decide +kernel
theorem dX5_isCell_3 : decode cX5_isCell 3 = .ok (.invokevirtual 70, 3) := by decide +kernel
theorem dX5_isCell_6 : decode cX5_isCell 6 = .ok (.iconst 1, 1) := by decide +kernel
theorem dX5_isCell_7 : decode cX5_isCell 7 = .ok (.isub, 1) := by decide +kernel
theorem dX5_isCell_8 : decode cX5_isCell 8 = .ok (.invokestatic 74, 3) := by decide +kernel
theorem dX5_isCell_11 : decode cX5_isCell 11 = .ok (.ireturn, 1) := by decide +kernel
set_option maxRecDepth 20000 in
theorem ggX5_isCat_X5_in : GoodIn wsX5_isCat wsX5_in := goodIn_r _ [5] (by decide +kernel) (by decide +kernel)
set_option maxRecDepth 20000 in
theorem gX5_isCat_X5_in : GoodIn wsX5_isCat (va_wsS RX5 74 yX5_in wsX5_in) := goodIn_app (goodIn_of _ (by decide +kernel)) ggX5_isCat_X5_in
theorem dX5_isCat_0 : decode cX5_isCat 0 = .ok (.iload_n 1, 1) := by decide +kernel
theorem dX5_isCat_1 : decode cX5_isCat 1 = .ok (.iconst 0, 1) := by decide +kernel
theorem dX5_isCat_2 : decode cX5_isCat 2 = .ok (.aload_n 0, 1) := by decide +kernel
theorem dX5_isCat_3 : decode cX5_isCat 3 = .ok (.getfield 78, 3) := by decide +kernel
theorem dX5_isCat_6 : decode cX5_isCat 6 = .ok (.iconst 1, 1) := by decide +kernel
theorem dX5_isCat_7 : decode cX5_isCat 7 = .ok (.isub, 1) := by decide +kernel
theorem dX5_isCat_8 : decode cX5_isCat 8 = .ok (.invokestatic 74, 3) := by decide +kernel
theorem dX5_isCat_11 : decode cX5_isCat 11 = .ok (.ireturn, 1) := by decide +kernel
set_option maxRecDepth 20000 in
theorem ggX5_type_X5_in : GoodIn wsX5_type wsX5_in := goodIn_r _ [7] (by decide +kernel) (by decide +kernel)
set_option maxRecDepth 20000 in
theorem gX5_type_X5_in : GoodIn wsX5_type (va_wsS RX5 74 yX5_in wsX5_in) := goodIn_app (goodIn_of _ (by decide +kernel)) ggX5_type_X5_in
theorem dX5_type_0 : decode cX5_type 0 = .ok (.iload_n 3, 1) := by decide +kernel
theorem dX5_type_1 : decode cX5_type 1 = .ok (.iconst 1, 1) := by decide +kernel
theorem dX5_type_2 : decode cX5_type 2 = .ok (.bipush 8, 2) := by decide +kernel
theorem dX5_type_4 : decode cX5_type 4 = .ok (.invokestatic 74, 3) := by decide +kernel
theorem dX5_type_7 : decode cX5_type 7 = .ok (.ifCond .ne 5, 3) := by decide +kernel
theorem dX5_type_10 : decode cX5_type 10 = .ok (.iconst (-1), 1) := by decide +kernel
theorem dX5_type_11 : decode cX5_type 11 = .ok (.ireturn, 1) := by decide +kernel
theorem dX5_type_12 : decode cX5_type 12 = .ok (.aload_n 0, 1) := by decide +kernel
theorem dX5_type_13 : decode cX5_type 13 = .ok (.getfield 81, 3) := by decide +kernel
theorem dX5_type_16 : decode cX5_type 16 = .ok (.iload_n 3, 1) := by decide +kernel
theorem dX5_type_17 : decode cX5_type 17 = .ok (.iadd, 1) := by decide +kernel
theorem dX5_type_18 : decode cX5_type 18 = .ok (.sipush 200, 3) := by decide +kernel
theorem dX5_type_21 : decode cX5_type 21 = .ok (.if_icmp .le 6, 3) := by decide +kernel
theorem dX5_type_24 : decode cX5_type 24 = .ok (.bipush (-3), 2) := by decide +kernel
theorem dX5_type_26 : decode cX5_type 26 = .ok (.ireturn, 1) := by decide +kernel
theorem dX5_type_27 : decode cX5_type 27 = .ok (.iload_n 3, 1) := by decide +kernel
theorem dX5_type_28 : decode cX5_type 28 = .ok (.iconst 1, 1) := by decide +kernel
theorem dX5_type_29 : decode cX5_type 29 = .ok (.isub, 1) := by decide +kernel
theorem dX5_type_30 : decode cX5_type 30 = .ok (.istore 4, 2) := by decide +kernel
theorem dX5_type_32 : decode cX5_type 32 = .ok (.iload 4, 2) := by decide +kernel
theorem dX5_type_34 : decode cX5_type 34 = .ok (.ifCond .lt 40, 3) := by decide +kernel
theorem dX5_type_37 : decode cX5_type 37 = .ok (.aload_n 0, 1) := by decide +kernel
theorem dX5_type_38 : decode cX5_type 38 = .ok (.getfield 39, 3) := by decide +kernel
theorem dX5_type_41 : decode cX5_type 41 = .ok (.aload_n 0, 1) := by decide +kernel
theorem dX5_type_42 : decode cX5_type 42 = .ok (.getfield 81, 3) := by decide +kernel
theorem dX5_type_45 : decode cX5_type 45 = .ok (.lload_n 1, 1) := by decide +kernel
theorem dX5_type_46 : decode cX5_type 46 = .ok (.bipush 8, 2) := by decide +kernel
theorem dX5_type_48 : decode cX5_type 48 = .ok (.iload 4, 2) := by decide +kernel
theorem dX5_type_50 : decode cX5_type 50 = .ok (.imul, 1) := by decide +kernel
theorem dX5_type_51 : decode cX5_type 51 = .ok (.lshr, 1) := by decide +kernel
theorem dX5_type_52 : decode cX5_type 52 = .ok (.ldc2_w 84, 3) := by decide +kernel
theorem dX5_type_55 : decode cX5_type 55 = .ok (.land, 1) := by decide +kernel
theorem dX5_type_56 : decode cX5_type 56 = .ok (.l2i, 1) := by decide +kernel
theorem dX5_type_57 : decode cX5_type 57 = .ok (.iastore, 1) := by decide +kernel
theorem dX5_type_58 : decode cX5_type 58 = .ok (.aload_n 0, 1) := by decide +kernel
theorem dX5_type_59 : decode cX5_type 59 = .ok (.dup, 1) := by decide +kernel
theorem dX5_type_60 : decode cX5_type 60 = .ok (.getfield 81, 3) := by decide +kernel
theorem dX5_type_63 : decode cX5_type 63 = .ok (.iconst 1, 1) := by decide +kernel
theorem dX5_type_64 : decode cX5_type 64 = .ok (.iadd, 1) := by decide +kernel
theorem dX5_type_65 : decode cX5_type 65 = .ok (.putfield 81, 3) := by decide +kernel
theorem dX5_type_68 : decode cX5_type 68 = .ok (.iinc 4 (-1), 3) := by decide +kernel
theorem dX5_type_71 : decode cX5_type 71 = .ok (.goto (-39), 3) := by decide +kernel
theorem dX5_type_74 : decode cX5_type 74 = .ok (.aload_n 0, 1) := by decide +kernel
theorem dX5_type_75 : decode cX5_type 75 = .ok (.getfield 81, 3) := by decide +kernel
theorem dX5_type_78 : decode cX5_type 78 = .ok (.ireturn, 1) := by decide +kernel
theorem dX5_clear_0 : decode cX5_clear 0 = .ok (.aload_n 0, 1) := by decide +kernel
theorem dX5_clear_1 : decode cX5_clear 1 = .ok (.getfield 81, 3) := by decide +kernel
theorem dX5_clear_4 : decode cX5_clear 4 = .ok (.istore_n 1, 1) := by decide +kernel
theorem dX5_clear_5 : decode cX5_clear 5 = .ok (.aload_n 0, 1) := by decide +kernel
theorem dX5_clear_6 : decode cX5_clear 6 = .ok (.iconst 0, 1) := by decide +kernel
theorem dX5_clear_7 : decode cX5_clear 7 = .ok (.putfield 81, 3) := by decide +kernel
theorem dX5_clear_10 : decode cX5_clear 10 = .ok (.iload_n 1, 1) := by decide +kernel
theorem dX5_clear_11 : decode cX5_clear 11 = .ok (.ireturn, 1) := by decide +kernel
theorem dX5_byteAt_0 : decode cX5_byteAt 0 = .ok (.iload_n 1, 1) := by decide +kernel
theorem dX5_byteAt_1 : decode cX5_byteAt 1 = .ok (.aload_n 0, 1) := by decide +kernel
theorem dX5_byteAt_2 : decode cX5_byteAt 2 = .ok (.getfield 81, 3) := by decide +kernel
theorem dX5_byteAt_5 : decode cX5_byteAt 5 = .ok (.if_icmp .ge 12, 3) := by decide +kernel
theorem dX5_byteAt_8 : decode cX5_byteAt 8 = .ok (.aload_n 0, 1) := by decide +kernel
theorem dX5_byteAt_9 : decode cX5_byteAt 9 = .ok (.getfield 39, 3) := by decide +kernel
theorem dX5_byteAt_12 : decode cX5_byteAt 12 = .ok (.iload_n 1, 1) := by decide +kernel
theorem dX5_byteAt_13 : decode cX5_byteAt 13 = .ok (.iaload, 1) := by decide +kernel
theorem dX5_byteAt_14 : decode cX5_byteAt 14 = .ok (.goto 4, 3) := by decide +kernel
theorem dX5_byteAt_17 : decode cX5_byteAt 17 = .ok (.iconst (-1), 1) := by decide +kernel
theorem dX5_byteAt_18 : decode cX5_byteAt 18 = .ok (.ireturn, 1) := by decide +kernel
set_option maxRecDepth 20000 in
theorem ggX5_next_X5_byteAt : GoodIn wsX5_next wsX5_byteAt := goodIn_r _ [10, 11, 12, 16, 17, 18, 19, 20, 21, 22, 23, 24, 25, 26, 27, 28, 29, 30, 31, 32, 33, 34, 35, 36, 37, 38, 39, 40, 41, 42, 43, 44, 45, 46, 47, 48, 49, 50, 51, 52, 53, 54, 55, 56] (by decide +kernel) (by decide +kernel)
set_option maxRecDepth 20000 in
theorem gX5_next_X5_byteAt : GoodIn wsX5_next (wsV RX5 89 RX5 yX5_byteAt wsX5_byteAt) := goodIn_app (goodIn_of _ (by decide +kernel)) ggX5_next_X5_byteAt
set_option maxRecDepth 20000 in
theorem ggX5_next_X5_in : GoodIn wsX5_next wsX5_in := goodIn_r _ [15] (by decide +kernel) (by decide +kernel)
set_option maxRecDepth 20000 in
theorem gX5_next_X5_in : GoodIn wsX5_next (va_wsS RX5 74 yX5_in wsX5_in) := goodIn_app (goodIn_of _ (by decide +kernel)) ggX5_next_X5_in
theorem dX5_next_0 : decode cX5_next 0 = .ok (.aload_n 0, 1) := by decide +kernel
theorem dX5_next_1 : decode cX5_next 1 = .ok (.aload_n 0, 1) := by decide +kernel
theorem dX5_next_2 : decode cX5_next 2 = .ok (.getfield 86, 3) := by decide +kernel
theorem dX5_next_5 : decode cX5_next 5 = .ok (.invokevirtual 89, 3) := by decide +kernel
theorem dX5_next_8 : decode cX5_next 8 = .ok (.bipush 32, 2) := by decide +kernel
theorem dX5_next_10 : decode cX5_next 10 = .ok (.if_icmp .ne 16, 3) := by decide +kernel
theorem dX5_next_13 : decode cX5_next 13 = .ok (.aload_n 0, 1) := by decide +kernel
theorem dX5_next_14 : decode cX5_next 14 = .ok (.dup, 1) := by decide +kernel
theorem dX5_next_15 : decode cX5_next 15 = .ok (.getfield 86, 3) := by decide +kernel
theorem dX5_next_18 : decode cX5_next 18 = .ok (.iconst 1, 1) := by decide +kernel
theorem dX5_next_19 : decode cX5_next 19 = .ok (.iadd, 1) := by decide +kernel
theorem dX5_next_20 : decode cX5_next 20 = .ok (.putfield 86, 3) := by decide +kernel
theorem dX5_next_23 : decode cX5_next 23 = .ok (.goto (-23), 3) := by decide +kernel
theorem dX5_next_26 : decode cX5_next 26 = .ok (.aload_n 0, 1) := by decide +kernel
theorem dX5_next_27 : decode cX5_next 27 = .ok (.aload_n 0, 1) := by decide +kernel
theorem dX5_next_28 : decode cX5_next 28 = .ok (.getfield 86, 3) := by decide +kernel
theorem dX5_next_31 : decode cX5_next 31 = .ok (.putfield 93, 3) := by decide +kernel
theorem dX5_next_34 : decode cX5_next 34 = .ok (.aload_n 0, 1) := by decide +kernel
theorem dX5_next_35 : decode cX5_next 35 = .ok (.aload_n 0, 1) := by decide +kernel
theorem dX5_next_36 : decode cX5_next 36 = .ok (.getfield 86, 3) := by decide +kernel
theorem dX5_next_39 : decode cX5_next 39 = .ok (.invokevirtual 89, 3) := by decide +kernel
theorem dX5_next_42 : decode cX5_next 42 = .ok (.istore_n 1, 1) := by decide +kernel
theorem dX5_next_43 : decode cX5_next 43 = .ok (.iload_n 1, 1) := by decide +kernel
theorem dX5_next_44 : decode cX5_next 44 = .ok (.ifCond .ge 11, 3) := by decide +kernel
theorem dX5_next_47 : decode cX5_next 47 = .ok (.aload_n 0, 1) := by decide +kernel
theorem dX5_next_48 : decode cX5_next 48 = .ok (.iconst 0, 1) := by decide +kernel
theorem dX5_next_49 : decode cX5_next 49 = .ok (.putfield 96, 3) := by decide +kernel
theorem dX5_next_52 : decode cX5_next 52 = .ok (.goto 253, 3) := by decide +kernel
theorem dX5_next_55 : decode cX5_next 55 = .ok (.iload_n 1, 1) := by decide +kernel
theorem dX5_next_56 : decode cX5_next 56 = .ok (.bipush 97, 2) := by decide +kernel
theorem dX5_next_58 : decode cX5_next 58 = .ok (.bipush 122, 2) := by decide +kernel
theorem dX5_next_60 : decode cX5_next 60 = .ok (.invokestatic 74, 3) := by decide +kernel
theorem dX5_next_63 : decode cX5_next 63 = .ok (.ifCond .eq 83, 3) := by decide +kernel
theorem dX5_next_66 : decode cX5_next 66 = .ok (.aload_n 0, 1) := by decide +kernel
theorem dX5_next_67 : decode cX5_next 67 = .ok (.iconst 1, 1) := by decide +kernel
theorem dX5_next_68 : decode cX5_next 68 = .ok (.putfield 96, 3) := by decide +kernel
theorem dX5_next_71 : decode cX5_next 71 = .ok (.aload_n 0, 1) := by decide +kernel
theorem dX5_next_72 : decode cX5_next 72 = .ok (.lconst 0, 1) := by decide +kernel
theorem dX5_next_73 : decode cX5_next 73 = .ok (.putfield 99, 3) := by decide +kernel
theorem dX5_next_76 : decode cX5_next 76 = .ok (.aload_n 0, 1) := by decide +kernel
theorem dX5_next_77 : decode cX5_next 77 = .ok (.aload_n 0, 1) := by decide +kernel
theorem dX5_next_78 : decode cX5_next 78 = .ok (.getfield 86, 3) := by decide +kernel
theorem dX5_next_81 : decode cX5_next 81 = .ok (.invokevirtual 89, 3) := by decide +kernel
theorem dX5_next_84 : decode cX5_next 84 = .ok (.bipush 97, 2) := by decide +kernel
theorem dX5_next_86 : decode cX5_next 86 = .ok (.bipush 122, 2) := by decide +kernel
theorem dX5_next_88 : decode cX5_next 88 = .ok (.invokestatic 74, 3) := by decide +kernel
theorem dX5_next_91 : decode cX5_next 91 = .ok (.ifCond .eq 214, 3) := by decide +kernel
theorem dX5_next_94 : decode cX5_next 94 = .ok (.aload_n 0, 1) := by decide +kernel
theorem dX5_next_95 : decode cX5_next 95 = .ok (.aload_n 0, 1) := by decide +kernel
theorem dX5_next_96 : decode cX5_next 96 = .ok (.getfield 86, 3) := by decide +kernel
theorem dX5_next_99 : decode cX5_next 99 = .ok (.aload_n 0, 1) := by decide +kernel
theorem dX5_next_100 : decode cX5_next 100 = .ok (.getfield 93, 3) := by decide +kernel
theorem dX5_next_103 : decode cX5_next 103 = .ok (.isub, 1) := by decide +kernel
theorem dX5_next_104 : decode cX5_next 104 = .ok (.bipush 8, 2) := by decide +kernel
theorem dX5_next_106 : decode cX5_next 106 = .ok (.if_icmp .ge 23, 3) := by decide +kernel
theorem dX5_next_109 : decode cX5_next 109 = .ok (.aload_n 0, 1) := by decide +kernel
theorem dX5_next_110 : decode cX5_next 110 = .ok (.getfield 99, 3) := by decide +kernel
theorem dX5_next_113 : decode cX5_next 113 = .ok (.bipush 8, 2) := by decide +kernel
theorem dX5_next_115 : decode cX5_next 115 = .ok (.lshl, 1) := by decide +kernel
theorem dX5_next_116 : decode cX5_next 116 = .ok (.aload_n 0, 1) := by decide +kernel
theorem dX5_next_117 : decode cX5_next 117 = .ok (.aload_n 0, 1) := by decide +kernel
theorem dX5_next_118 : decode cX5_next 118 = .ok (.getfield 86, 3) := by decide +kernel
theorem dX5_next_121 : decode cX5_next 121 = .ok (.invokevirtual 89, 3) := by decide +kernel
theorem dX5_next_124 : decode cX5_next 124 = .ok (.i2l, 1) := by decide +kernel
theorem dX5_next_125 : decode cX5_next 125 = .ok (.lor, 1) := by decide +kernel
theorem dX5_next_126 : decode cX5_next 126 = .ok (.goto 4, 3) := by decide +kernel
theorem dX5_next_129 : decode cX5_next 129 = .ok (.lconst 0, 1) := by decide +kernel
theorem dX5_next_130 : decode cX5_next 130 = .ok (.putfield 99, 3) := by decide +kernel
theorem dX5_next_133 : decode cX5_next 133 = .ok (.aload_n 0, 1) := by decide +kernel
theorem dX5_next_134 : decode cX5_next 134 = .ok (.dup, 1) := by decide +kernel
theorem dX5_next_135 : decode cX5_next 135 = .ok (.getfield 86, 3) := by decide +kernel
theorem dX5_next_138 : decode cX5_next 138 = .ok (.iconst 1, 1) := by decide +kernel
theorem dX5_next_139 : decode cX5_next 139 = .ok (.iadd, 1) := by decide +kernel
theorem dX5_next_140 : decode cX5_next 140 = .ok (.putfield 86, 3) := by decide +kernel
theorem dX5_next_143 : decode cX5_next 143 = .ok (.goto (-67), 3) := by decide +kernel
theorem dX5_next_146 : decode cX5_next 146 = .ok (.iload_n 1, 1) := by decide +kernel
theorem dX5_next_147 : decode cX5_next 147 = .ok (.bipush 48, 2) := by decide +kernel
theorem dX5_next_149 : decode cX5_next 149 = .ok (.bipush 57, 2) := by decide +kernel
theorem dX5_next_151 : decode cX5_next 151 = .ok (.invokestatic 74, 3) := by decide +kernel
theorem dX5_next_154 : decode cX5_next 154 = .ok (.ifCond .eq 126, 3) := by decide +kernel
theorem dX5_next_157 : decode cX5_next 157 = .ok (.aload_n 0, 1) := by decide +kernel
theorem dX5_next_158 : decode cX5_next 158 = .ok (.iconst 0, 1) := by decide +kernel
theorem dX5_next_159 : decode cX5_next 159 = .ok (.putfield 103, 3) := by decide +kernel
theorem dX5_next_162 : decode cX5_next 162 = .ok (.aload_n 0, 1) := by decide +kernel
theorem dX5_next_163 : decode cX5_next 163 = .ok (.aload_n 0, 1) := by decide +kernel
theorem dX5_next_164 : decode cX5_next 164 = .ok (.getfield 86, 3) := by decide +kernel
theorem dX5_next_167 : decode cX5_next 167 = .ok (.invokevirtual 89, 3) := by decide +kernel
theorem dX5_next_170 : decode cX5_next 170 = .ok (.bipush 48, 2) := by decide +kernel
theorem dX5_next_172 : decode cX5_next 172 = .ok (.bipush 57, 2) := by decide +kernel
theorem dX5_next_174 : decode cX5_next 174 = .ok (.invokestatic 74, 3) := by decide +kernel
theorem dX5_next_177 : decode cX5_next 177 = .ok (.ifCond .eq 59, 3) := by decide +kernel
theorem dX5_next_180 : decode cX5_next 180 = .ok (.aload_n 0, 1) := by decide +kernel
theorem dX5_next_181 : decode cX5_next 181 = .ok (.aload_n 0, 1) := by decide +kernel
theorem dX5_next_182 : decode cX5_next 182 = .ok (.getfield 86, 3) := by decide +kernel
theorem dX5_next_185 : decode cX5_next 185 = .ok (.aload_n 0, 1) := by decide +kernel
theorem dX5_next_186 : decode cX5_next 186 = .ok (.getfield 93, 3) := by decide +kernel
theorem dX5_next_189 : decode cX5_next 189 = .ok (.isub, 1) := by decide +kernel
theorem dX5_next_190 : decode cX5_next 190 = .ok (.iconst 3, 1) := by decide +kernel
theorem dX5_next_191 : decode cX5_next 191 = .ok (.if_icmp .ge 25, 3) := by decide +kernel
theorem dX5_next_194 : decode cX5_next 194 = .ok (.bipush 10, 2) := by decide +kernel
theorem dX5_next_196 : decode cX5_next 196 = .ok (.aload_n 0, 1) := by decide +kernel
theorem dX5_next_197 : decode cX5_next 197 = .ok (.getfield 103, 3) := by decide +kernel
theorem dX5_next_200 : decode cX5_next 200 = .ok (.imul, 1) := by decide +kernel
theorem dX5_next_201 : decode cX5_next 201 = .ok (.aload_n 0, 1) := by decide +kernel
theorem dX5_next_202 : decode cX5_next 202 = .ok (.aload_n 0, 1) := by decide +kernel
theorem dX5_next_203 : decode cX5_next 203 = .ok (.getfield 86, 3) := by decide +kernel
theorem dX5_next_206 : decode cX5_next 206 = .ok (.invokevirtual 89, 3) := by decide +kernel
theorem dX5_next_209 : decode cX5_next 209 = .ok (.iadd, 1) := by decide +kernel
theorem dX5_next_210 : decode cX5_next 210 = .ok (.bipush 48, 2) := by decide +kernel
theorem dX5_next_212 : decode cX5_next 212 = .ok (.isub, 1) := by decide +kernel
theorem dX5_next_213 : decode cX5_next 213 = .ok (.goto 7, 3) := by decide +kernel
theorem dX5_next_216 : decode cX5_next 216 = .ok (.aload_n 0, 1) := by decide +kernel
theorem dX5_next_217 : decode cX5_next 217 = .ok (.getfield 103, 3) := by decide +kernel
theorem dX5_next_220 : decode cX5_next 220 = .ok (.putfield 103, 3) := by decide +kernel
theorem dX5_next_223 : decode cX5_next 223 = .ok (.aload_n 0, 1) := by decide +kernel
theorem dX5_next_224 : decode cX5_next 224 = .ok (.dup, 1) := by decide +kernel
theorem dX5_next_225 : decode cX5_next 225 = .ok (.getfield 86, 3) := by decide +kernel
theorem dX5_next_228 : decode cX5_next 228 = .ok (.iconst 1, 1) := by decide +kernel
theorem dX5_next_229 : decode cX5_next 229 = .ok (.iadd, 1) := by decide +kernel
theorem dX5_next_230 : decode cX5_next 230 = .ok (.putfield 86, 3) := by decide +kernel
theorem dX5_next_233 : decode cX5_next 233 = .ok (.goto (-71), 3) := by decide +kernel
theorem dX5_next_236 : decode cX5_next 236 = .ok (.aload_n 0, 1) := by decide +kernel
theorem dX5_next_237 : decode cX5_next 237 = .ok (.aload_n 0, 1) := by decide +kernel
theorem dX5_next_238 : decode cX5_next 238 = .ok (.getfield 86, 3) := by decide +kernel
theorem dX5_next_241 : decode cX5_next 241 = .ok (.aload_n 0, 1) := by decide +kernel
theorem dX5_next_242 : decode cX5_next 242 = .ok (.getfield 93, 3) := by decide +kernel
theorem dX5_next_245 : decode cX5_next 245 = .ok (.isub, 1) := by decide +kernel
theorem dX5_next_246 : decode cX5_next 246 = .ok (.iconst 3, 1) := by decide +kernel
theorem dX5_next_247 : decode cX5_next 247 = .ok (.if_icmp .ge 26, 3) := by decide +kernel
theorem dX5_next_250 : decode cX5_next 250 = .ok (.iload_n 1, 1) := by decide +kernel
theorem dX5_next_251 : decode cX5_next 251 = .ok (.bipush 48, 2) := by decide +kernel
theorem dX5_next_253 : decode cX5_next 253 = .ok (.if_icmp .ne 16, 3) := by decide +kernel
theorem dX5_next_256 : decode cX5_next 256 = .ok (.aload_n 0, 1) := by decide +kernel
theorem dX5_next_257 : decode cX5_next 257 = .ok (.getfield 86, 3) := by decide +kernel
theorem dX5_next_260 : decode cX5_next 260 = .ok (.aload_n 0, 1) := by decide +kernel
theorem dX5_next_261 : decode cX5_next 261 = .ok (.getfield 93, 3) := by decide +kernel
theorem dX5_next_264 : decode cX5_next 264 = .ok (.isub, 1) := by decide +kernel
theorem dX5_next_265 : decode cX5_next 265 = .ok (.iconst 1, 1) := by decide +kernel
theorem dX5_next_266 : decode cX5_next 266 = .ok (.if_icmp .ne 7, 3) := by decide +kernel
theorem dX5_next_269 : decode cX5_next 269 = .ok (.iconst 2, 1) := by decide +kernel
theorem dX5_next_270 : decode cX5_next 270 = .ok (.goto 4, 3) := by decide +kernel
theorem dX5_next_273 : decode cX5_next 273 = .ok (.iconst 4, 1) := by decide +kernel
theorem dX5_next_274 : decode cX5_next 274 = .ok (.putfield 96, 3) := by decide +kernel
theorem dX5_next_277 : decode cX5_next 277 = .ok (.goto 28, 3) := by decide +kernel
theorem dX5_next_280 : decode cX5_next 280 = .ok (.aload_n 0, 1) := by decide +kernel
theorem dX5_next_281 : decode cX5_next 281 = .ok (.iload_n 1, 1) := by decide +kernel
theorem dX5_next_282 : decode cX5_next 282 = .ok (.bipush 59, 2) := by decide +kernel
theorem dX5_next_284 : decode cX5_next 284 = .ok (.if_icmp .ne 7, 3) := by decide +kernel
theorem dX5_next_287 : decode cX5_next 287 = .ok (.iconst 3, 1) := by decide +kernel
theorem dX5_next_288 : decode cX5_next 288 = .ok (.goto 4, 3) := by decide +kernel
theorem dX5_next_291 : decode cX5_next 291 = .ok (.iconst 4, 1) := by decide +kernel
theorem dX5_next_292 : decode cX5_next 292 = .ok (.putfield 96, 3) := by decide +kernel
theorem dX5_next_295 : decode cX5_next 295 = .ok (.aload_n 0, 1) := by decide +kernel
theorem dX5_next_296 : decode cX5_next 296 = .ok (.dup, 1) := by decide +kernel
theorem dX5_next_297 : decode cX5_next 297 = .ok (.getfield 86, 3) := by decide +kernel
theorem dX5_next_300 : decode cX5_next 300 = .ok (.iconst 1, 1) := by decide +kernel
theorem dX5_next_301 : decode cX5_next 301 = .ok (.iadd, 1) := by decide +kernel
theorem dX5_next_302 : decode cX5_next 302 = .ok (.putfield 86, 3) := by decide +kernel
theorem dX5_next_305 : decode cX5_next 305 = .ok (.return_, 1) := by decide +kernel
set_option maxRecDepth 20000 in
theorem ggX5_must_X5_next : GoodIn wsX5_must wsX5_next := goodIn_r _ [6, 7, 8, 9, 10, 11, 12, 13, 14, 5, 15, 16, 17, 18, 19, 20, 21, 22, 23, 24, 25, 26, 27, 28, 29, 30, 31, 32, 33, 34, 35, 36, 37, 38, 39, 40, 41, 42, 43, 44, 45, 46, 47, 48, 49, 50, 51, 52, 53, 54, 55, 56, 57, 58, 59, 60, 61] (by decide +kernel) (by decide +kernel)
set_option maxRecDepth 20000 in
theorem gX5_must_X5_next : GoodIn wsX5_must (wsV RX5 110 RX5 yX5_next wsX5_next) := goodIn_app (goodIn_of _ (by decide +kernel)) ggX5_must_X5_next
theorem dX5_must_0 : decode cX5_must 0 = .ok (.aload_n 0, 1) := by decide +kernel
theorem dX5_must_1 : decode cX5_must 1 = .ok (.aload_n 0, 1) := by decide +kernel
theorem dX5_must_2 : decode cX5_must 2 = .ok (.getfield 106, 3) := by decide +kernel
theorem dX5_must_5 : decode cX5_must 5 = .ok (.ifCond .ne 7, 3) := by decide +kernel
theorem dX5_must_8 : decode cX5_must 8 = .ok (.iload_n 1, 1) := by decide +kernel
theorem dX5_must_9 : decode cX5_must 9 = .ok (.ifCond .ne 7, 3) := by decide +kernel
theorem dX5_must_12 : decode cX5_must 12 = .ok (.iconst 1, 1) := by decide +kernel
theorem dX5_must_13 : decode cX5_must 13 = .ok (.goto 4, 3) := by decide +kernel
theorem dX5_must_16 : decode cX5_must 16 = .ok (.iconst 0, 1) := by decide +kernel
theorem dX5_must_17 : decode cX5_must 17 = .ok (.putfield 106, 3) := by decide +kernel
theorem dX5_must_20 : decode cX5_must 20 = .ok (.aload_n 0, 1) := by decide +kernel
theorem dX5_must_21 : decode cX5_must 21 = .ok (.getfield 106, 3) := by decide +kernel
theorem dX5_must_24 : decode cX5_must 24 = .ok (.ifCond .ne 7, 3) := by decide +kernel
theorem dX5_must_27 : decode cX5_must 27 = .ok (.aload_n 0, 1) := by decide +kernel
theorem dX5_must_28 : decode cX5_must 28 = .ok (.invokevirtual 110, 3) := by decide +kernel
theorem dX5_must_31 : decode cX5_must 31 = .ok (.return_, 1) := by decide +kernel
set_option maxRecDepth 20000 in
theorem ggX5_readNumber_X5_in : GoodIn wsX5_readNumber wsX5_in := goodIn_r _ [6] (by decide +kernel) (by decide +kernel)
set_option maxRecDepth 20000 in
theorem gX5_readNumber_X5_in : GoodIn wsX5_readNumber (va_wsS RX5 74 yX5_in wsX5_in) := goodIn_app (goodIn_of _ (by decide +kernel)) ggX5_readNumber_X5_in
set_option maxRecDepth 20000 in
theorem ggX5_readNumber_X5_must : GoodIn wsX5_readNumber wsX5_must := goodIn_r _ [10, 11, 12, 13, 14, 5, 15, 16, 17, 2, 18, 1, 19, 20, 21, 22, 23, 24, 3, 4, 6, 25, 26, 27, 28, 29, 30, 31, 32, 33, 34, 35, 36, 37, 38, 39, 40, 41, 42, 43, 44, 45, 46, 47, 48, 49, 50, 51, 52, 53, 54, 55, 56, 57, 58, 59, 60, 61, 62, 63, 64, 65] (by decide +kernel) (by decide +kernel)
set_option maxRecDepth 20000 in
theorem gX5_readNumber_X5_must : GoodIn wsX5_readNumber (wsV RX5 113 RX5 yX5_must wsX5_must) := goodIn_app (goodIn_of _ (by decide +kernel)) ggX5_readNumber_X5_must
theorem dX5_readNumber_0 : decode cX5_readNumber 0 = .ok (.aload_n 0, 1) := by decide +kernel
theorem dX5_readNumber_1 : decode cX5_readNumber 1 = .ok (.getfield 103, 3) := by decide +kernel
theorem dX5_readNumber_4 : decode cX5_readNumber 4 = .ok (.istore_n 3, 1) := by decide +kernel
theorem dX5_readNumber_5 : decode cX5_readNumber 5 = .ok (.aload_n 0, 1) := by decide +kernel
theorem dX5_readNumber_6 : decode cX5_readNumber 6 = .ok (.aload_n 0, 1) := by decide +kernel
theorem dX5_readNumber_7 : decode cX5_readNumber 7 = .ok (.getfield 96, 3) := by decide +kernel
theorem dX5_readNumber_10 : decode cX5_readNumber 10 = .ok (.iconst 2, 1) := by decide +kernel
theorem dX5_readNumber_11 : decode cX5_readNumber 11 = .ok (.if_icmp .ne 16, 3) := by decide +kernel
theorem dX5_readNumber_14 : decode cX5_readNumber 14 = .ok (.iload_n 3, 1) := by decide +kernel
theorem dX5_readNumber_15 : decode cX5_readNumber 15 = .ok (.iload_n 1, 1) := by decide +kernel
theorem dX5_readNumber_16 : decode cX5_readNumber 16 = .ok (.iload_n 2, 1) := by decide +kernel
theorem dX5_readNumber_17 : decode cX5_readNumber 17 = .ok (.invokestatic 74, 3) := by decide +kernel
theorem dX5_readNumber_20 : decode cX5_readNumber 20 = .ok (.ifCond .eq 7, 3) := by decide +kernel
theorem dX5_readNumber_23 : decode cX5_readNumber 23 = .ok (.iconst 1, 1) := by decide +kernel
theorem dX5_readNumber_24 : decode cX5_readNumber 24 = .ok (.goto 4, 3) := by decide +kernel
theorem dX5_readNumber_27 : decode cX5_readNumber 27 = .ok (.iconst 0, 1) := by decide +kernel
theorem dX5_readNumber_28 : decode cX5_readNumber 28 = .ok (.invokevirtual 113, 3) := by decide +kernel
theorem dX5_readNumber_31 : decode cX5_readNumber 31 = .ok (.iload_n 3, 1) := by decide +kernel
theorem dX5_readNumber_32 : decode cX5_readNumber 32 = .ok (.ireturn, 1) := by decide +kernel
theorem dX5_isTaken_0 : decode cX5_isTaken 0 = .ok (.iconst 0, 1) := by decide +kernel
theorem dX5_isTaken_1 : decode cX5_isTaken 1 = .ok (.istore_n 2, 1) := by decide +kernel
theorem dX5_isTaken_2 : decode cX5_isTaken 2 = .ok (.iconst 0, 1) := by decide +kernel
theorem dX5_isTaken_3 : decode cX5_isTaken 3 = .ok (.istore_n 3, 1) := by decide +kernel
theorem dX5_isTaken_4 : decode cX5_isTaken 4 = .ok (.iload_n 3, 1) := by decide +kernel
theorem dX5_isTaken_5 : decode cX5_isTaken 5 = .ok (.aload_n 0, 1) := by decide +kernel
theorem dX5_isTaken_6 : decode cX5_isTaken 6 = .ok (.getfield 117, 3) := by decide +kernel
theorem dX5_isTaken_9 : decode cX5_isTaken 9 = .ok (.if_icmp .ge 29, 3) := by decide +kernel
theorem dX5_isTaken_12 : decode cX5_isTaken 12 = .ok (.iload_n 2, 1) := by decide +kernel
theorem dX5_isTaken_13 : decode cX5_isTaken 13 = .ok (.ifCond .ne 13, 3) := by decide +kernel
theorem dX5_isTaken_16 : decode cX5_isTaken 16 = .ok (.aload_n 0, 1) := by decide +kernel
theorem dX5_isTaken_17 : decode cX5_isTaken 17 = .ok (.getfield 48, 3) := by decide +kernel
theorem dX5_isTaken_20 : decode cX5_isTaken 20 = .ok (.iload_n 3, 1) := by decide +kernel
theorem dX5_isTaken_21 : decode cX5_isTaken 21 = .ok (.iaload, 1) := by decide +kernel
theorem dX5_isTaken_22 : decode cX5_isTaken 22 = .ok (.iload_n 1, 1) := by decide +kernel
theorem dX5_isTaken_23 : decode cX5_isTaken 23 = .ok (.if_icmp .ne 7, 3) := by decide +kernel
theorem dX5_isTaken_26 : decode cX5_isTaken 26 = .ok (.iconst 1, 1) := by decide +kernel
theorem dX5_isTaken_27 : decode cX5_isTaken 27 = .ok (.goto 4, 3) := by decide +kernel
theorem dX5_isTaken_30 : decode cX5_isTaken 30 = .ok (.iconst 0, 1) := by decide +kernel
theorem dX5_isTaken_31 : decode cX5_isTaken 31 = .ok (.istore_n 2, 1) := by decide +kernel
theorem dX5_isTaken_32 : decode cX5_isTaken 32 = .ok (.iinc 3 1, 3) := by decide +kernel
theorem dX5_isTaken_35 : decode cX5_isTaken 35 = .ok (.goto (-31), 3) := by decide +kernel
theorem dX5_isTaken_38 : decode cX5_isTaken 38 = .ok (.iload_n 2, 1) := by decide +kernel
theorem dX5_isTaken_39 : decode cX5_isTaken 39 = .ok (.ireturn, 1) := by decide +kernel
set_option maxRecDepth 20000 in
theorem ggX5_readCat_X5_must : GoodIn wsX5_readCat wsX5_must := goodIn_r _ [14, 6, 15, 16, 17, 13, 18, 19, 20, 3, 21, 2, 22, 23, 24, 25, 26, 27, 28, 29, 30, 39, 40, 41, 42, 43, 44, 45, 46, 47, 48, 49, 50, 51, 52, 53, 54, 55, 56, 57, 58, 59, 60, 61, 62, 63, 64, 65, 66, 67, 68, 69, 70, 71, 72, 73, 74, 75, 76, 77, 78, 79] (by decide +kernel) (by decide +kernel)
set_option maxRecDepth 20000 in
theorem gX5_readCat_X5_must : GoodIn wsX5_readCat (wsV RX5 113 RX5 yX5_must wsX5_must) := goodIn_app (goodIn_of _ (by decide +kernel)) ggX5_readCat_X5_must
set_option maxRecDepth 20000 in
theorem ggX5_readCat_X5_in : GoodIn wsX5_readCat wsX5_in := goodIn_r _ [30] (by decide +kernel) (by decide +kernel)
set_option maxRecDepth 20000 in
theorem gX5_readCat_X5_in : GoodIn wsX5_readCat (va_wsS RX5 74 yX5_in wsX5_in) := goodIn_app (goodIn_of _ (by decide +kernel)) ggX5_readCat_X5_in
set_option maxRecDepth 20000 in
theorem ggX5_readCat_X5_isTaken : GoodIn wsX5_readCat wsX5_isTaken := goodIn_r _ [34, 1, 7, 39, 40, 41, 42, 43, 44, 45, 46, 47, 48, 49, 50, 51, 52, 53, 54, 55, 56, 57, 58, 59, 60, 61, 62, 63, 64, 65, 66, 67, 68, 69, 70, 71, 72, 73, 74, 75, 76, 77, 78, 79] (by decide +kernel) (by decide +kernel)
set_option maxRecDepth 20000 in
theorem gX5_readCat_X5_isTaken : GoodIn wsX5_readCat (wsV RX5 126 RX5 yX5_isTaken wsX5_isTaken) := goodIn_app (goodIn_of _ (by decide +kernel)) ggX5_readCat_X5_isTaken
set_option maxRecDepth 20000 in
theorem ggX5_readCat_X5_readNumber : GoodIn wsX5_readCat wsX5_readNumber := goodIn_r _ [38, 2, 3, 28, 29, 13, 30, 10, 11, 12, 14, 6, 15, 16, 17, 18, 19, 20, 21, 22, 23, 24, 25, 26, 27, 39, 40, 41, 42, 43, 44, 45, 46, 47, 48, 49, 50, 51, 52, 53, 54, 55, 56, 57, 58, 59, 60, 61, 62, 63, 64, 65, 66, 67, 68, 69, 70, 71, 72, 73, 74, 75, 76, 77, 78, 79] (by decide +kernel) (by decide +kernel)
set_option maxRecDepth 20000 in
theorem gX5_readCat_X5_readNumber : GoodIn wsX5_readCat (wsV RX5 130 RX5 yX5_readNumber wsX5_readNumber) := goodIn_app (goodIn_of _ (by decide +kernel)) ggX5_readCat_X5_readNumber
theorem dX5_readCat_0 : decode cX5_readCat 0 = .ok (.aload_n 0, 1) := by decide +kernel
theorem dX5_readCat_1 : decode cX5_readCat 1 = .ok (.aload_n 0, 1) := by decide +kernel
theorem dX5_readCat_2 : decode cX5_readCat 2 = .ok (.getfield 117, 3) := by decide +kernel
theorem dX5_readCat_5 : decode cX5_readCat 5 = .ok (.iconst 5, 1) := by decide +kernel
theorem dX5_readCat_6 : decode cX5_readCat 6 = .ok (.if_icmp .ge 7, 3) := by decide +kernel
theorem dX5_readCat_9 : decode cX5_readCat 9 = .ok (.iconst 1, 1) := by decide +kernel
theorem dX5_readCat_10 : decode cX5_readCat 10 = .ok (.goto 4, 3) := by decide +kernel
theorem dX5_readCat_13 : decode cX5_readCat 13 = .ok (.iconst 0, 1) := by decide +kernel
theorem dX5_readCat_14 : decode cX5_readCat 14 = .ok (.invokevirtual 113, 3) := by decide +kernel
theorem dX5_readCat_17 : decode cX5_readCat 17 = .ok (.aload_n 0, 1) := by decide +kernel
theorem dX5_readCat_18 : decode cX5_readCat 18 = .ok (.getfield 103, 3) := by decide +kernel
theorem dX5_readCat_21 : decode cX5_readCat 21 = .ok (.istore_n 2, 1) := by decide +kernel
theorem dX5_readCat_22 : decode cX5_readCat 22 = .ok (.aload_n 0, 1) := by decide +kernel
theorem dX5_readCat_23 : decode cX5_readCat 23 = .ok (.aload_n 0, 1) := by decide +kernel
theorem dX5_readCat_24 : decode cX5_readCat 24 = .ok (.getfield 96, 3) := by decide +kernel
theorem dX5_readCat_27 : decode cX5_readCat 27 = .ok (.iconst 2, 1) := by decide +kernel
theorem dX5_readCat_28 : decode cX5_readCat 28 = .ok (.if_icmp .ne 34, 3) := by decide +kernel
theorem dX5_readCat_31 : decode cX5_readCat 31 = .ok (.iload_n 2, 1) := by decide +kernel
theorem dX5_readCat_32 : decode cX5_readCat 32 = .ok (.iconst 0, 1) := by decide +kernel
theorem dX5_readCat_33 : decode cX5_readCat 33 = .ok (.aload_n 0, 1) := by decide +kernel
theorem dX5_readCat_34 : decode cX5_readCat 34 = .ok (.getfield 120, 3) := by decide +kernel
theorem dX5_readCat_37 : decode cX5_readCat 37 = .ok (.aload_n 0, 1) := by decide +kernel
theorem dX5_readCat_38 : decode cX5_readCat 38 = .ok (.getfield 123, 3) := by decide +kernel
theorem dX5_readCat_41 : decode cX5_readCat 41 = .ok (.imul, 1) := by decide +kernel
theorem dX5_readCat_42 : decode cX5_readCat 42 = .ok (.iconst 1, 1) := by decide +kernel
theorem dX5_readCat_43 : decode cX5_readCat 43 = .ok (.isub, 1) := by decide +kernel
theorem dX5_readCat_44 : decode cX5_readCat 44 = .ok (.invokestatic 74, 3) := by decide +kernel
theorem dX5_readCat_47 : decode cX5_readCat 47 = .ok (.ifCond .eq 15, 3) := by decide +kernel
theorem dX5_readCat_50 : decode cX5_readCat 50 = .ok (.aload_n 0, 1) := by decide +kernel
theorem dX5_readCat_51 : decode cX5_readCat 51 = .ok (.iload_n 2, 1) := by decide +kernel
theorem dX5_readCat_52 : decode cX5_readCat 52 = .ok (.invokevirtual 126, 3) := by decide +kernel
theorem dX5_readCat_55 : decode cX5_readCat 55 = .ok (.ifCond .ne 7, 3) := by decide +kernel
theorem dX5_readCat_58 : decode cX5_readCat 58 = .ok (.iconst 1, 1) := by decide +kernel
theorem dX5_readCat_59 : decode cX5_readCat 59 = .ok (.goto 4, 3) := by decide +kernel
theorem dX5_readCat_62 : decode cX5_readCat 62 = .ok (.iconst 0, 1) := by decide +kernel
theorem dX5_readCat_63 : decode cX5_readCat 63 = .ok (.invokevirtual 113, 3) := by decide +kernel
theorem dX5_readCat_66 : decode cX5_readCat 66 = .ok (.iload_n 1, 1) := by decide +kernel
theorem dX5_readCat_67 : decode cX5_readCat 67 = .ok (.iconst 3, 1) := by decide +kernel
theorem dX5_readCat_68 : decode cX5_readCat 68 = .ok (.if_icmp .ne 24, 3) := by decide +kernel
theorem dX5_readCat_71 : decode cX5_readCat 71 = .ok (.aload_n 0, 1) := by decide +kernel
theorem dX5_readCat_72 : decode cX5_readCat 72 = .ok (.getfield 106, 3) := by decide +kernel
theorem dX5_readCat_75 : decode cX5_readCat 75 = .ok (.ifCond .ne 17, 3) := by decide +kernel
theorem dX5_readCat_78 : decode cX5_readCat 78 = .ok (.aload_n 0, 1) := by decide +kernel
theorem dX5_readCat_79 : decode cX5_readCat 79 = .ok (.iconst 0, 1) := by decide +kernel
theorem dX5_readCat_80 : decode cX5_readCat 80 = .ok (.aload_n 0, 1) := by decide +kernel
theorem dX5_readCat_81 : decode cX5_readCat 81 = .ok (.getfield 117, 3) := by decide +kernel
theorem dX5_readCat_84 : decode cX5_readCat 84 = .ok (.iconst 1, 1) := by decide +kernel
theorem dX5_readCat_85 : decode cX5_readCat 85 = .ok (.isub, 1) := by decide +kernel
theorem dX5_readCat_86 : decode cX5_readCat 86 = .ok (.invokevirtual 130, 3) := by decide +kernel
theorem dX5_readCat_89 : decode cX5_readCat 89 = .ok (.goto 5, 3) := by decide +kernel
theorem dX5_readCat_92 : decode cX5_readCat 92 = .ok (.bipush (-9), 2) := by decide +kernel
theorem dX5_readCat_94 : decode cX5_readCat 94 = .ok (.istore_n 3, 1) := by decide +kernel
theorem dX5_readCat_95 : decode cX5_readCat 95 = .ok (.aload_n 0, 1) := by decide +kernel
theorem dX5_readCat_96 : decode cX5_readCat 96 = .ok (.aload_n 0, 1) := by decide +kernel
theorem dX5_readCat_97 : decode cX5_readCat 97 = .ok (.getfield 96, 3) := by decide +kernel
theorem dX5_readCat_100 : decode cX5_readCat 100 = .ok (.iconst 3, 1) := by decide +kernel
theorem dX5_readCat_101 : decode cX5_readCat 101 = .ok (.if_icmp .ne 7, 3) := by decide +kernel
theorem dX5_readCat_104 : decode cX5_readCat 104 = .ok (.iconst 1, 1) := by decide +kernel
theorem dX5_readCat_105 : decode cX5_readCat 105 = .ok (.goto 4, 3) := by decide +kernel
theorem dX5_readCat_108 : decode cX5_readCat 108 = .ok (.iconst 0, 1) := by decide +kernel
theorem dX5_readCat_109 : decode cX5_readCat 109 = .ok (.invokevirtual 113, 3) := by decide +kernel
theorem dX5_readCat_112 : decode cX5_readCat 112 = .ok (.aload_n 0, 1) := by decide +kernel
theorem dX5_readCat_113 : decode cX5_readCat 113 = .ok (.getfield 106, 3) := by decide +kernel
theorem dX5_readCat_116 : decode cX5_readCat 116 = .ok (.ifCond .ne 43, 3) := by decide +kernel
theorem dX5_readCat_119 : decode cX5_readCat 119 = .ok (.aload_n 0, 1) := by decide +kernel
theorem dX5_readCat_120 : decode cX5_readCat 120 = .ok (.getfield 48, 3) := by decide +kernel
theorem dX5_readCat_123 : decode cX5_readCat 123 = .ok (.aload_n 0, 1) := by decide +kernel
theorem dX5_readCat_124 : decode cX5_readCat 124 = .ok (.getfield 117, 3) := by decide +kernel
theorem dX5_readCat_127 : decode cX5_readCat 127 = .ok (.iload_n 2, 1) := by decide +kernel
theorem dX5_readCat_128 : decode cX5_readCat 128 = .ok (.iastore, 1) := by decide +kernel
theorem dX5_readCat_129 : decode cX5_readCat 129 = .ok (.aload_n 0, 1) := by decide +kernel
theorem dX5_readCat_130 : decode cX5_readCat 130 = .ok (.getfield 42, 3) := by decide +kernel
theorem dX5_readCat_133 : decode cX5_readCat 133 = .ok (.aload_n 0, 1) := by decide +kernel
theorem dX5_readCat_134 : decode cX5_readCat 134 = .ok (.getfield 117, 3) := by decide +kernel
theorem dX5_readCat_137 : decode cX5_readCat 137 = .ok (.iload_n 1, 1) := by decide +kernel
theorem dX5_readCat_138 : decode cX5_readCat 138 = .ok (.iastore, 1) := by decide +kernel
theorem dX5_readCat_139 : decode cX5_readCat 139 = .ok (.aload_n 0, 1) := by decide +kernel
theorem dX5_readCat_140 : decode cX5_readCat 140 = .ok (.getfield 45, 3) := by decide +kernel
theorem dX5_readCat_143 : decode cX5_readCat 143 = .ok (.aload_n 0, 1) := by decide +kernel
theorem dX5_readCat_144 : decode cX5_readCat 144 = .ok (.getfield 117, 3) := by decide +kernel
theorem dX5_readCat_147 : decode cX5_readCat 147 = .ok (.iload_n 3, 1) := by decide +kernel
theorem dX5_readCat_148 : decode cX5_readCat 148 = .ok (.iastore, 1) := by decide +kernel
theorem dX5_readCat_149 : decode cX5_readCat 149 = .ok (.aload_n 0, 1) := by decide +kernel
theorem dX5_readCat_150 : decode cX5_readCat 150 = .ok (.dup, 1) := by decide +kernel
theorem dX5_readCat_151 : decode cX5_readCat 151 = .ok (.getfield 117, 3) := by decide +kernel
theorem dX5_readCat_154 : decode cX5_readCat 154 = .ok (.iconst 1, 1) := by decide +kernel
theorem dX5_readCat_155 : decode cX5_readCat 155 = .ok (.iadd, 1) := by decide +kernel
theorem dX5_readCat_156 : decode cX5_readCat 156 = .ok (.putfield 117, 3) := by decide +kernel
theorem dX5_readCat_159 : decode cX5_readCat 159 = .ok (.return_, 1) := by decide +kernel
set_option maxRecDepth 20000 in
theorem ggX5_readSun_X5_must : GoodIn wsX5_readSun wsX5_must := goodIn_r _ [9, 10, 11, 12, 13, 8, 14, 15, 16, 4, 17, 18, 19, 20, 21, 22, 23, 24, 25, 26, 27, 32, 33, 34, 35, 36, 37, 38, 39, 40, 41, 42, 43, 44, 45, 46, 47, 48, 49, 50, 51, 52, 53, 54, 55, 56, 57, 58, 59, 60, 61, 62, 63, 64, 65, 66, 67, 68, 69, 70, 71, 72] (by decide +kernel) (by decide +kernel)
set_option maxRecDepth 20000 in
theorem gX5_readSun_X5_must : GoodIn wsX5_readSun (wsV RX5 113 RX5 yX5_must wsX5_must) := goodIn_app (goodIn_of _ (by decide +kernel)) ggX5_readSun_X5_must
set_option maxRecDepth 20000 in
theorem ggX5_readSun_X5_readNumber : GoodIn wsX5_readSun wsX5_readNumber := goodIn_r _ [31, 18, 4, 25, 26, 8, 27, 5, 6, 7, 9, 10, 11, 12, 13, 14, 15, 16, 17, 19, 20, 21, 22, 23, 24, 32, 33, 34, 35, 36, 37, 38, 39, 40, 41, 42, 43, 44, 45, 46, 47, 48, 49, 50, 51, 52, 53, 54, 55, 56, 57, 58, 59, 60, 61, 62, 63, 64, 65, 66, 67, 68, 69, 70, 71, 72] (by decide +kernel) (by decide +kernel)
set_option maxRecDepth 20000 in
theorem gX5_readSun_X5_readNumber : GoodIn wsX5_readSun (wsV RX5 130 RX5 yX5_readNumber wsX5_readNumber) := goodIn_app (goodIn_of _ (by decide +kernel)) ggX5_readSun_X5_readNumber
theorem dX5_readSun_0 : decode cX5_readSun 0 = .ok (.aload_n 0, 1) := by decide +kernel
theorem dX5_readSun_1 : decode cX5_readSun 1 = .ok (.aload_n 0, 1) := by decide +kernel
theorem dX5_readSun_2 : decode cX5_readSun 2 = .ok (.getfield 134, 3) := by decide +kernel
theorem dX5_readSun_5 : decode cX5_readSun 5 = .ok (.ifCond .ne 7, 3) := by decide +kernel
theorem dX5_readSun_8 : decode cX5_readSun 8 = .ok (.iconst 1, 1) := by decide +kernel
theorem dX5_readSun_9 : decode cX5_readSun 9 = .ok (.goto 4, 3) := by decide +kernel
theorem dX5_readSun_12 : decode cX5_readSun 12 = .ok (.iconst 0, 1) := by decide +kernel
theorem dX5_readSun_13 : decode cX5_readSun 13 = .ok (.invokevirtual 113, 3) := by decide +kernel
theorem dX5_readSun_16 : decode cX5_readSun 16 = .ok (.aload_n 0, 1) := by decide +kernel
theorem dX5_readSun_17 : decode cX5_readSun 17 = .ok (.iconst 1, 1) := by decide +kernel
theorem dX5_readSun_18 : decode cX5_readSun 18 = .ok (.putfield 134, 3) := by decide +kernel
theorem dX5_readSun_21 : decode cX5_readSun 21 = .ok (.aload_n 0, 1) := by decide +kernel
theorem dX5_readSun_22 : decode cX5_readSun 22 = .ok (.aload_n 0, 1) := by decide +kernel
theorem dX5_readSun_23 : decode cX5_readSun 23 = .ok (.iconst 0, 1) := by decide +kernel
theorem dX5_readSun_24 : decode cX5_readSun 24 = .ok (.bipush 7, 2) := by decide +kernel
theorem dX5_readSun_26 : decode cX5_readSun 26 = .ok (.invokevirtual 130, 3) := by decide +kernel
theorem dX5_readSun_29 : decode cX5_readSun 29 = .ok (.putfield 137, 3) := by decide +kernel
theorem dX5_readSun_32 : decode cX5_readSun 32 = .ok (.aload_n 0, 1) := by decide +kernel
theorem dX5_readSun_33 : decode cX5_readSun 33 = .ok (.aload_n 0, 1) := by decide +kernel
theorem dX5_readSun_34 : decode cX5_readSun 34 = .ok (.iconst 1, 1) := by decide +kernel
theorem dX5_readSun_35 : decode cX5_readSun 35 = .ok (.bipush 9, 2) := by decide +kernel
theorem dX5_readSun_37 : decode cX5_readSun 37 = .ok (.invokevirtual 130, 3) := by decide +kernel
theorem dX5_readSun_40 : decode cX5_readSun 40 = .ok (.putfield 140, 3) := by decide +kernel
theorem dX5_readSun_43 : decode cX5_readSun 43 = .ok (.aload_n 0, 1) := by decide +kernel
theorem dX5_readSun_44 : decode cX5_readSun 44 = .ok (.aload_n 0, 1) := by decide +kernel
theorem dX5_readSun_45 : decode cX5_readSun 45 = .ok (.getfield 96, 3) := by decide +kernel
theorem dX5_readSun_48 : decode cX5_readSun 48 = .ok (.iconst 3, 1) := by decide +kernel
theorem dX5_readSun_49 : decode cX5_readSun 49 = .ok (.if_icmp .ne 7, 3) := by decide +kernel
theorem dX5_readSun_52 : decode cX5_readSun 52 = .ok (.iconst 1, 1) := by decide +kernel
theorem dX5_readSun_53 : decode cX5_readSun 53 = .ok (.goto 4, 3) := by decide +kernel
theorem dX5_readSun_56 : decode cX5_readSun 56 = .ok (.iconst 0, 1) := by decide +kernel
theorem dX5_readSun_57 : decode cX5_readSun 57 = .ok (.invokevirtual 113, 3) := by decide +kernel
theorem dX5_readSun_60 : decode cX5_readSun 60 = .ok (.return_, 1) := by decide +kernel
set_option maxRecDepth 20000 in
theorem ggX5_readNose_X5_must : GoodIn wsX5_readNose wsX5_must := goodIn_r _ [8, 9, 10, 11, 12, 7, 13, 14, 15, 3, 16, 17, 18, 19, 20, 21, 22, 23, 24, 25, 26, 31, 32, 33, 34, 35, 36, 37, 38, 39, 40, 41, 42, 43, 44, 45, 46, 47, 48, 49, 50, 51, 52, 53, 54, 55, 56, 57, 58, 59, 60, 61, 62, 63, 64, 65, 66, 67, 68, 69, 70, 71] (by decide +kernel) (by decide +kernel)
set_option maxRecDepth 20000 in
theorem gX5_readNose_X5_must : GoodIn wsX5_readNose (wsV RX5 113 RX5 yX5_must wsX5_must) := goodIn_app (goodIn_of _ (by decide +kernel)) ggX5_readNose_X5_must
set_option maxRecDepth 20000 in
theorem ggX5_readNose_X5_readNumber : GoodIn wsX5_readNose wsX5_readNumber := goodIn_r _ [30, 17, 3, 24, 25, 7, 26, 4, 5, 6, 8, 9, 10, 11, 12, 13, 14, 15, 16, 18, 19, 20, 21, 22, 23, 31, 32, 33, 34, 35, 36, 37, 38, 39, 40, 41, 42, 43, 44, 45, 46, 47, 48, 49, 50, 51, 52, 53, 54, 55, 56, 57, 58, 59, 60, 61, 62, 63, 64, 65, 66, 67, 68, 69, 70, 71] (by decide +kernel) (by decide +kernel)
set_option maxRecDepth 20000 in
theorem gX5_readNose_X5_readNumber : GoodIn wsX5_readNose (wsV RX5 130 RX5 yX5_readNumber wsX5_readNumber) := goodIn_app (goodIn_of _ (by decide +kernel)) ggX5_readNose_X5_readNumber
theorem dX5_readNose_0 : decode cX5_readNose 0 = .ok (.aload_n 0, 1) := by decide +kernel
theorem dX5_readNose_1 : decode cX5_readNose 1 = .ok (.aload_n 0, 1) := by decide +kernel
theorem dX5_readNose_2 : decode cX5_readNose 2 = .ok (.getfield 143, 3) := by decide +kernel
theorem dX5_readNose_5 : decode cX5_readNose 5 = .ok (.ifCond .ne 7, 3) := by decide +kernel
theorem dX5_readNose_8 : decode cX5_readNose 8 = .ok (.iconst 1, 1) := by decide +kernel
theorem dX5_readNose_9 : decode cX5_readNose 9 = .ok (.goto 4, 3) := by decide +kernel
theorem dX5_readNose_12 : decode cX5_readNose 12 = .ok (.iconst 0, 1) := by decide +kernel
theorem dX5_readNose_13 : decode cX5_readNose 13 = .ok (.invokevirtual 113, 3) := by decide +kernel
theorem dX5_readNose_16 : decode cX5_readNose 16 = .ok (.aload_n 0, 1) := by decide +kernel
theorem dX5_readNose_17 : decode cX5_readNose 17 = .ok (.iconst 1, 1) := by decide +kernel
theorem dX5_readNose_18 : decode cX5_readNose 18 = .ok (.putfield 143, 3) := by decide +kernel
theorem dX5_readNose_21 : decode cX5_readNose 21 = .ok (.aload_n 0, 1) := by decide +kernel
theorem dX5_readNose_22 : decode cX5_readNose 22 = .ok (.aload_n 0, 1) := by decide +kernel
theorem dX5_readNose_23 : decode cX5_readNose 23 = .ok (.iconst 0, 1) := by decide +kernel
theorem dX5_readNose_24 : decode cX5_readNose 24 = .ok (.bipush 9, 2) := by decide +kernel
theorem dX5_readNose_26 : decode cX5_readNose 26 = .ok (.invokevirtual 130, 3) := by decide +kernel
theorem dX5_readNose_29 : decode cX5_readNose 29 = .ok (.putfield 146, 3) := by decide +kernel
theorem dX5_readNose_32 : decode cX5_readNose 32 = .ok (.aload_n 0, 1) := by decide +kernel
theorem dX5_readNose_33 : decode cX5_readNose 33 = .ok (.aload_n 0, 1) := by decide +kernel
theorem dX5_readNose_34 : decode cX5_readNose 34 = .ok (.getfield 96, 3) := by decide +kernel
theorem dX5_readNose_37 : decode cX5_readNose 37 = .ok (.iconst 3, 1) := by decide +kernel
theorem dX5_readNose_38 : decode cX5_readNose 38 = .ok (.if_icmp .ne 7, 3) := by decide +kernel
theorem dX5_readNose_41 : decode cX5_readNose 41 = .ok (.iconst 1, 1) := by decide +kernel
theorem dX5_readNose_42 : decode cX5_readNose 42 = .ok (.goto 4, 3) := by decide +kernel
theorem dX5_readNose_45 : decode cX5_readNose 45 = .ok (.iconst 0, 1) := by decide +kernel
theorem dX5_readNose_46 : decode cX5_readNose 46 = .ok (.invokevirtual 113, 3) := by decide +kernel
theorem dX5_readNose_49 : decode cX5_readNose 49 = .ok (.return_, 1) := by decide +kernel
set_option maxRecDepth 20000 in
theorem ggX5_readBridge_X5_must : GoodIn wsX5_readBridge wsX5_must := goodIn_r _ [8, 9, 10, 11, 12, 7, 13, 14, 15, 3, 16, 17, 18, 19, 20, 21, 22, 23, 24, 25, 26, 31, 32, 33, 34, 35, 36, 37, 38, 39, 40, 41, 42, 43, 44, 45, 46, 47, 48, 49, 50, 51, 52, 53, 54, 55, 56, 57, 58, 59, 60, 61, 62, 63, 64, 65, 66, 67, 68, 69, 70, 71] (by decide +kernel) (by decide +kernel)
set_option maxRecDepth 20000 in
theorem gX5_readBridge_X5_must : GoodIn wsX5_readBridge (wsV RX5 113 RX5 yX5_must wsX5_must) := goodIn_app (goodIn_of _ (by decide +kernel)) ggX5_readBridge_X5_must
set_option maxRecDepth 20000 in
theorem ggX5_readBridge_X5_readNumber : GoodIn wsX5_readBridge wsX5_readNumber := goodIn_r _ [30, 17, 3, 24, 25, 7, 26, 4, 5, 6, 8, 9, 10, 11, 12, 13, 14, 15, 16, 18, 19, 20, 21, 22, 23, 31, 32, 33, 34, 35, 36, 37, 38, 39, 40, 41, 42, 43, 44, 45, 46, 47, 48, 49, 50, 51, 52, 53, 54, 55, 56, 57, 58, 59, 60, 61, 62, 63, 64, 65, 66, 67, 68, 69, 70, 71] (by decide +kernel) (by decide +kernel)
set_option maxRecDepth 20000 in
theorem gX5_readBridge_X5_readNumber : GoodIn wsX5_readBridge (wsV RX5 130 RX5 yX5_readNumber wsX5_readNumber) := goodIn_app (goodIn_of _ (by decide +kernel)) ggX5_readBridge_X5_readNumber
theorem dX5_readBridge_0 : decode cX5_readBridge 0 = .ok (.aload_n 0, 1) := by decide +kernel
theorem dX5_readBridge_1 : decode cX5_readBridge 1 = .ok (.iload_n 1, 1) := by decide +kernel
theorem dX5_readBridge_2 : decode cX5_readBridge 2 = .ok (.invokevirtual 113, 3) := by decide +kernel
theorem dX5_readBridge_5 : decode cX5_readBridge 5 = .ok (.aload_n 0, 1) := by decide +kernel
theorem dX5_readBridge_6 : decode cX5_readBridge 6 = .ok (.aload_n 0, 1) := by decide +kernel
theorem dX5_readBridge_7 : decode cX5_readBridge 7 = .ok (.iconst 1, 1) := by decide +kernel
theorem dX5_readBridge_8 : decode cX5_readBridge 8 = .ok (.bipush 8, 2) := by decide +kernel
theorem dX5_readBridge_10 : decode cX5_readBridge 10 = .ok (.invokevirtual 130, 3) := by decide +kernel
theorem dX5_readBridge_13 : decode cX5_readBridge 13 = .ok (.putfield 120, 3) := by decide +kernel
theorem dX5_readBridge_16 : decode cX5_readBridge 16 = .ok (.aload_n 0, 1) := by decide +kernel
theorem dX5_readBridge_17 : decode cX5_readBridge 17 = .ok (.aload_n 0, 1) := by decide +kernel
theorem dX5_readBridge_18 : decode cX5_readBridge 18 = .ok (.iconst 1, 1) := by decide +kernel
theorem dX5_readBridge_19 : decode cX5_readBridge 19 = .ok (.iconst 3, 1) := by decide +kernel
theorem dX5_readBridge_20 : decode cX5_readBridge 20 = .ok (.invokevirtual 130, 3) := by decide +kernel
theorem dX5_readBridge_23 : decode cX5_readBridge 23 = .ok (.putfield 123, 3) := by decide +kernel
theorem dX5_readBridge_26 : decode cX5_readBridge 26 = .ok (.aload_n 0, 1) := by decide +kernel
theorem dX5_readBridge_27 : decode cX5_readBridge 27 = .ok (.aload_n 0, 1) := by decide +kernel
theorem dX5_readBridge_28 : decode cX5_readBridge 28 = .ok (.getfield 96, 3) := by decide +kernel
theorem dX5_readBridge_31 : decode cX5_readBridge 31 = .ok (.iconst 3, 1) := by decide +kernel
theorem dX5_readBridge_32 : decode cX5_readBridge 32 = .ok (.if_icmp .ne 7, 3) := by decide +kernel
theorem dX5_readBridge_35 : decode cX5_readBridge 35 = .ok (.iconst 1, 1) := by decide +kernel
theorem dX5_readBridge_36 : decode cX5_readBridge 36 = .ok (.goto 4, 3) := by decide +kernel
theorem dX5_readBridge_39 : decode cX5_readBridge 39 = .ok (.iconst 0, 1) := by decide +kernel
theorem dX5_readBridge_40 : decode cX5_readBridge 40 = .ok (.invokevirtual 113, 3) := by decide +kernel
theorem dX5_readBridge_43 : decode cX5_readBridge 43 = .ok (.return_, 1) := by decide +kernel
set_option maxRecDepth 20000 in
theorem ggX5_readItem_X5_readBridge : GoodIn wsX5_readItem wsX5_readBridge := goodIn_r _ [15, 16, 17, 1, 18, 19, 20, 14, 21, 10, 22, 23, 24, 25, 26, 27, 2, 28, 29, 30, 31, 32, 33, 34, 35, 36, 37, 38, 39, 40, 41, 67, 68, 69, 70, 71, 72, 73, 74, 75, 76, 77, 78, 79, 80, 81, 82, 83, 84, 85, 86, 87, 88, 89, 90, 91, 92, 93, 94, 95, 96, 97, 98, 99, 100, 101, 102, 103, 104, 105, 106, 107] (by decide +kernel) (by decide +kernel)
set_option maxRecDepth 20000 in
theorem gX5_readItem_X5_readBridge : GoodIn wsX5_readItem (wsV RX5 151 RX5 yX5_readBridge wsX5_readBridge) := goodIn_app (goodIn_of _ (by decide +kernel)) ggX5_readItem_X5_readBridge
set_option maxRecDepth 20000 in
theorem ggX5_readItem_X5_readSun : GoodIn wsX5_readItem wsX5_readSun := goodIn_r _ [45, 46, 47, 48, 1, 18, 19, 20, 14, 21, 10, 22, 23, 24, 25, 26, 27, 2, 28, 29, 30, 31, 32, 33, 34, 35, 36, 37, 38, 39, 40, 41, 67, 68, 69, 70, 71, 72, 73, 74, 75, 76, 77, 78, 79, 80, 81, 82, 83, 84, 85, 86, 87, 88, 89, 90, 91, 92, 93, 94, 95, 96, 97, 98, 99, 100, 101, 102, 103, 104, 105, 106, 107] (by decide +kernel) (by decide +kernel)
set_option maxRecDepth 20000 in
theorem gX5_readItem_X5_readSun : GoodIn wsX5_readItem (wsV RX5 156 RX5 yX5_readSun wsX5_readSun) := goodIn_app (goodIn_of _ (by decide +kernel)) ggX5_readItem_X5_readSun
set_option maxRecDepth 20000 in
theorem ggX5_readItem_X5_readNose : GoodIn wsX5_readItem wsX5_readNose := goodIn_r _ [52, 53, 54, 1, 18, 19, 20, 14, 21, 10, 22, 23, 24, 25, 26, 27, 2, 28, 29, 30, 31, 32, 33, 34, 35, 36, 37, 38, 39, 40, 41, 67, 68, 69, 70, 71, 72, 73, 74, 75, 76, 77, 78, 79, 80, 81, 82, 83, 84, 85, 86, 87, 88, 89, 90, 91, 92, 93, 94, 95, 96, 97, 98, 99, 100, 101, 102, 103, 104, 105, 106, 107] (by decide +kernel) (by decide +kernel)
set_option maxRecDepth 20000 in
theorem gX5_readItem_X5_readNose : GoodIn wsX5_readItem (wsV RX5 161 RX5 yX5_readNose wsX5_readNose) := goodIn_app (goodIn_of _ (by decide +kernel)) ggX5_readItem_X5_readNose
set_option maxRecDepth 20000 in
theorem ggX5_readItem_X5_readCat : GoodIn wsX5_readItem wsX5_readCat := goodIn_r _ [58, 59, 28, 1, 16, 17, 10, 60, 61, 62, 18, 19, 20, 14, 21, 22, 23, 24, 25, 26, 27, 2, 29, 30, 31, 32, 33, 34, 35, 36, 37, 63, 64, 65, 66, 38, 39, 40, 41, 67, 68, 69, 70, 71, 72, 73, 74, 75, 76, 77, 78, 79, 80, 81, 82, 83, 84, 85, 86, 87, 88, 89, 90, 91, 92, 93, 94, 95, 96, 97, 98, 99, 100, 101, 102, 103, 104, 105, 106, 107] (by decide +kernel) (by decide +kernel)
set_option maxRecDepth 20000 in
theorem gX5_readItem_X5_readCat : GoodIn wsX5_readItem (wsV RX5 172 RX5 yX5_readCat wsX5_readCat) := goodIn_app (goodIn_of _ (by decide +kernel)) ggX5_readItem_X5_readCat
theorem dX5_readItem_0 : decode cX5_readItem 0 = .ok (.aload_n 0, 1) := by decide +kernel
theorem dX5_readItem_1 : decode cX5_readItem 1 = .ok (.getfield 96, 3) := by decide +kernel
theorem dX5_readItem_4 : decode cX5_readItem 4 = .ok (.iconst 1, 1) := by decide +kernel
theorem dX5_readItem_5 : decode cX5_readItem 5 = .ok (.if_icmp .ne 10, 3) := by decide +kernel
theorem dX5_readItem_8 : decode cX5_readItem 8 = .ok (.aload_n 0, 1) := by decide +kernel
theorem dX5_readItem_9 : decode cX5_readItem 9 = .ok (.getfield 99, 3) := by decide +kernel
theorem dX5_readItem_12 : decode cX5_readItem 12 = .ok (.goto 4, 3) := by decide +kernel
theorem dX5_readItem_15 : decode cX5_readItem 15 = .ok (.lconst 0, 1) := by decide +kernel
theorem dX5_readItem_16 : decode cX5_readItem 16 = .ok (.lstore_n 2, 1) := by decide +kernel
theorem dX5_readItem_17 : decode cX5_readItem 17 = .ok (.lload_n 2, 1) := by decide +kernel
theorem dX5_readItem_18 : decode cX5_readItem 18 = .ok (.ldc2_w 149, 3) := by decide +kernel
theorem dX5_readItem_21 : decode cX5_readItem 21 = .ok (.lcmp, 1) := by decide +kernel
theorem dX5_readItem_22 : decode cX5_readItem 22 = .ok (.ifCond .ne 11, 3) := by decide +kernel
theorem dX5_readItem_25 : decode cX5_readItem 25 = .ok (.aload_n 0, 1) := by decide +kernel
theorem dX5_readItem_26 : decode cX5_readItem 26 = .ok (.iload_n 1, 1) := by decide +kernel
theorem dX5_readItem_27 : decode cX5_readItem 27 = .ok (.invokevirtual 151, 3) := by decide +kernel
theorem dX5_readItem_30 : decode cX5_readItem 30 = .ok (.goto 106, 3) := by decide +kernel
theorem dX5_readItem_33 : decode cX5_readItem 33 = .ok (.lload_n 2, 1) := by decide +kernel
theorem dX5_readItem_34 : decode cX5_readItem 34 = .ok (.ldc2_w 154, 3) := by decide +kernel
theorem dX5_readItem_37 : decode cX5_readItem 37 = .ok (.lcmp, 1) := by decide +kernel
theorem dX5_readItem_38 : decode cX5_readItem 38 = .ok (.ifCond .ne 10, 3) := by decide +kernel
theorem dX5_readItem_41 : decode cX5_readItem 41 = .ok (.aload_n 0, 1) := by decide +kernel
theorem dX5_readItem_42 : decode cX5_readItem 42 = .ok (.invokevirtual 156, 3) := by decide +kernel
theorem dX5_readItem_45 : decode cX5_readItem 45 = .ok (.goto 91, 3) := by decide +kernel
theorem dX5_readItem_48 : decode cX5_readItem 48 = .ok (.lload_n 2, 1) := by decide +kernel
theorem dX5_readItem_49 : decode cX5_readItem 49 = .ok (.ldc2_w 159, 3) := by decide +kernel
theorem dX5_readItem_52 : decode cX5_readItem 52 = .ok (.lcmp, 1) := by decide +kernel
theorem dX5_readItem_53 : decode cX5_readItem 53 = .ok (.ifCond .ne 10, 3) := by decide +kernel
theorem dX5_readItem_56 : decode cX5_readItem 56 = .ok (.aload_n 0, 1) := by decide +kernel
theorem dX5_readItem_57 : decode cX5_readItem 57 = .ok (.invokevirtual 161, 3) := by decide +kernel
theorem dX5_readItem_60 : decode cX5_readItem 60 = .ok (.goto 76, 3) := by decide +kernel
theorem dX5_readItem_63 : decode cX5_readItem 63 = .ok (.lload_n 2, 1) := by decide +kernel
theorem dX5_readItem_64 : decode cX5_readItem 64 = .ok (.ldc2_w 164, 3) := by decide +kernel
theorem dX5_readItem_67 : decode cX5_readItem 67 = .ok (.lcmp, 1) := by decide +kernel
theorem dX5_readItem_68 : decode cX5_readItem 68 = .ok (.ifCond .ne 7, 3) := by decide +kernel
theorem dX5_readItem_71 : decode cX5_readItem 71 = .ok (.iconst 0, 1) := by decide +kernel
theorem dX5_readItem_72 : decode cX5_readItem 72 = .ok (.goto 41, 3) := by decide +kernel
theorem dX5_readItem_75 : decode cX5_readItem 75 = .ok (.lload_n 2, 1) := by decide +kernel
theorem dX5_readItem_76 : decode cX5_readItem 76 = .ok (.ldc2_w 166, 3) := by decide +kernel
theorem dX5_readItem_79 : decode cX5_readItem 79 = .ok (.lcmp, 1) := by decide +kernel
theorem dX5_readItem_80 : decode cX5_readItem 80 = .ok (.ifCond .ne 7, 3) := by decide +kernel
theorem dX5_readItem_83 : decode cX5_readItem 83 = .ok (.iconst 1, 1) := by decide +kernel
theorem dX5_readItem_84 : decode cX5_readItem 84 = .ok (.goto 29, 3) := by decide +kernel
theorem dX5_readItem_87 : decode cX5_readItem 87 = .ok (.lload_n 2, 1) := by decide +kernel
theorem dX5_readItem_88 : decode cX5_readItem 88 = .ok (.ldc2_w 168, 3) := by decide +kernel
theorem dX5_readItem_91 : decode cX5_readItem 91 = .ok (.lcmp, 1) := by decide +kernel
theorem dX5_readItem_92 : decode cX5_readItem 92 = .ok (.ifCond .ne 7, 3) := by decide +kernel
theorem dX5_readItem_95 : decode cX5_readItem 95 = .ok (.iconst 2, 1) := by decide +kernel
theorem dX5_readItem_96 : decode cX5_readItem 96 = .ok (.goto 17, 3) := by decide +kernel
theorem dX5_readItem_99 : decode cX5_readItem 99 = .ok (.lload_n 2, 1) := by decide +kernel
theorem dX5_readItem_100 : decode cX5_readItem 100 = .ok (.ldc2_w 170, 3) := by decide +kernel
theorem dX5_readItem_103 : decode cX5_readItem 103 = .ok (.lcmp, 1) := by decide +kernel
theorem dX5_readItem_104 : decode cX5_readItem 104 = .ok (.ifCond .ne 7, 3) := by decide +kernel
theorem dX5_readItem_107 : decode cX5_readItem 107 = .ok (.iconst 3, 1) := by decide +kernel
theorem dX5_readItem_108 : decode cX5_readItem 108 = .ok (.goto 5, 3) := by decide +kernel
theorem dX5_readItem_111 : decode cX5_readItem 111 = .ok (.bipush (-9), 2) := by decide +kernel
theorem dX5_readItem_113 : decode cX5_readItem 113 = .ok (.istore 4, 2) := by decide +kernel
theorem dX5_readItem_115 : decode cX5_readItem 115 = .ok (.iload 4, 2) := by decide +kernel
theorem dX5_readItem_117 : decode cX5_readItem 117 = .ok (.bipush (-9), 2) := by decide +kernel
theorem dX5_readItem_119 : decode cX5_readItem 119 = .ok (.if_icmp .ne 11, 3) := by decide +kernel
theorem dX5_readItem_122 : decode cX5_readItem 122 = .ok (.aload_n 0, 1) := by decide +kernel
theorem dX5_readItem_123 : decode cX5_readItem 123 = .ok (.iconst 1, 1) := by decide +kernel
theorem dX5_readItem_124 : decode cX5_readItem 124 = .ok (.putfield 106, 3) := by decide +kernel
theorem dX5_readItem_127 : decode cX5_readItem 127 = .ok (.goto 9, 3) := by decide +kernel
theorem dX5_readItem_130 : decode cX5_readItem 130 = .ok (.aload_n 0, 1) := by decide +kernel
theorem dX5_readItem_131 : decode cX5_readItem 131 = .ok (.iload 4, 2) := by decide +kernel
theorem dX5_readItem_133 : decode cX5_readItem 133 = .ok (.invokevirtual 172, 3) := by decide +kernel
theorem dX5_readItem_136 : decode cX5_readItem 136 = .ok (.return_, 1) := by decide +kernel
set_option maxRecDepth 20000 in
theorem ggX5_bridge_X5_next : GoodIn wsX5_bridge wsX5_next := goodIn_r _ [31, 1, 12, 11, 32, 33, 34, 35, 36, 30, 37, 26, 38, 39, 40, 41, 81, 82, 83, 84, 85, 86, 87, 88, 89, 90, 91, 92, 93, 94, 95, 96, 97, 98, 99, 100, 101, 102, 103, 104, 105, 106, 107, 108, 109, 110, 111, 112, 113, 114, 115, 116, 117, 118, 119, 120, 121] (by decide +kernel) (by decide +kernel)
set_option maxRecDepth 20000 in
theorem gX5_bridge_X5_next : GoodIn wsX5_bridge (wsV RX5 110 RX5 yX5_next wsX5_next) := goodIn_app (goodIn_of _ (by decide +kernel)) ggX5_bridge_X5_next
set_option maxRecDepth 20000 in
theorem ggX5_bridge_X5_readItem : GoodIn wsX5_bridge wsX5_readItem := goodIn_r _ [45, 11, 32, 46, 47, 48, 49, 50, 51, 52, 2, 53, 54, 55, 30, 56, 3, 4, 57, 58, 59, 60, 27, 28, 29, 31, 1, 12, 33, 34, 35, 36, 37, 26, 38, 39, 40, 41, 61, 62, 63, 64, 65, 66, 67, 68, 9, 6, 7, 69, 70, 71, 72, 10, 8, 73, 74, 75, 76, 5, 24, 21, 23, 77, 78, 79, 80, 81, 82, 83, 84, 85, 86, 87, 88, 89, 90, 91, 92, 93, 94, 95, 96, 97, 98, 99, 100, 101, 102, 103, 104, 105, 106, 107, 108, 109, 110, 111, 112, 113, 114, 115, 116, 117, 118, 119, 120, 121] (by decide +kernel) (by decide +kernel)
set_option maxRecDepth 20000 in
theorem gX5_bridge_X5_readItem : GoodIn wsX5_bridge (wsV RX5 176 RX5 yX5_readItem wsX5_readItem) := goodIn_app (goodIn_of _ (by decide +kernel)) ggX5_bridge_X5_readItem
theorem dX5_bridge_0 : decode cX5_bridge 0 = .ok (.aload_n 0, 1) := by decide +kernel
theorem dX5_bridge_1 : decode cX5_bridge 1 = .ok (.iconst 0, 1) := by decide +kernel
theorem dX5_bridge_2 : decode cX5_bridge 2 = .ok (.putfield 86, 3) := by decide +kernel
theorem dX5_bridge_5 : decode cX5_bridge 5 = .ok (.aload_n 0, 1) := by decide +kernel
theorem dX5_bridge_6 : decode cX5_bridge 6 = .ok (.iconst 0, 1) := by decide +kernel
theorem dX5_bridge_7 : decode cX5_bridge 7 = .ok (.putfield 106, 3) := by decide +kernel
theorem dX5_bridge_10 : decode cX5_bridge 10 = .ok (.aload_n 0, 1) := by decide +kernel
theorem dX5_bridge_11 : decode cX5_bridge 11 = .ok (.iconst 5, 1) := by decide +kernel
theorem dX5_bridge_12 : decode cX5_bridge 12 = .ok (.putfield 120, 3) := by decide +kernel
theorem dX5_bridge_15 : decode cX5_bridge 15 = .ok (.aload_n 0, 1) := by decide +kernel
theorem dX5_bridge_16 : decode cX5_bridge 16 = .ok (.iconst 2, 1) := by decide +kernel
theorem dX5_bridge_17 : decode cX5_bridge 17 = .ok (.putfield 123, 3) := by decide +kernel
theorem dX5_bridge_20 : decode cX5_bridge 20 = .ok (.aload_n 0, 1) := by decide +kernel
theorem dX5_bridge_21 : decode cX5_bridge 21 = .ok (.iconst 0, 1) := by decide +kernel
theorem dX5_bridge_22 : decode cX5_bridge 22 = .ok (.putfield 117, 3) := by decide +kernel
theorem dX5_bridge_25 : decode cX5_bridge 25 = .ok (.aload_n 0, 1) := by decide +kernel
theorem dX5_bridge_26 : decode cX5_bridge 26 = .ok (.iconst 0, 1) := by decide +kernel
theorem dX5_bridge_27 : decode cX5_bridge 27 = .ok (.putfield 137, 3) := by decide +kernel
theorem dX5_bridge_30 : decode cX5_bridge 30 = .ok (.aload_n 0, 1) := by decide +kernel
theorem dX5_bridge_31 : decode cX5_bridge 31 = .ok (.iconst 1, 1) := by decide +kernel
theorem dX5_bridge_32 : decode cX5_bridge 32 = .ok (.putfield 140, 3) := by decide +kernel
theorem dX5_bridge_35 : decode cX5_bridge 35 = .ok (.aload_n 0, 1) := by decide +kernel
theorem dX5_bridge_36 : decode cX5_bridge 36 = .ok (.iconst 3, 1) := by decide +kernel
theorem dX5_bridge_37 : decode cX5_bridge 37 = .ok (.putfield 146, 3) := by decide +kernel
theorem dX5_bridge_40 : decode cX5_bridge 40 = .ok (.aload_n 0, 1) := by decide +kernel
theorem dX5_bridge_41 : decode cX5_bridge 41 = .ok (.iconst 0, 1) := by decide +kernel
theorem dX5_bridge_42 : decode cX5_bridge 42 = .ok (.putfield 134, 3) := by decide +kernel
theorem dX5_bridge_45 : decode cX5_bridge 45 = .ok (.aload_n 0, 1) := by decide +kernel
theorem dX5_bridge_46 : decode cX5_bridge 46 = .ok (.iconst 0, 1) := by decide +kernel
theorem dX5_bridge_47 : decode cX5_bridge 47 = .ok (.putfield 143, 3) := by decide +kernel
theorem dX5_bridge_50 : decode cX5_bridge 50 = .ok (.iconst 0, 1) := by decide +kernel
theorem dX5_bridge_51 : decode cX5_bridge 51 = .ok (.istore_n 1, 1) := by decide +kernel
theorem dX5_bridge_52 : decode cX5_bridge 52 = .ok (.aload_n 0, 1) := by decide +kernel
theorem dX5_bridge_53 : decode cX5_bridge 53 = .ok (.invokevirtual 110, 3) := by decide +kernel
theorem dX5_bridge_56 : decode cX5_bridge 56 = .ok (.aload_n 0, 1) := by decide +kernel
theorem dX5_bridge_57 : decode cX5_bridge 57 = .ok (.getfield 96, 3) := by decide +kernel
theorem dX5_bridge_60 : decode cX5_bridge 60 = .ok (.ifCond .eq 29, 3) := by decide +kernel
theorem dX5_bridge_63 : decode cX5_bridge 63 = .ok (.aload_n 0, 1) := by decide +kernel
theorem dX5_bridge_64 : decode cX5_bridge 64 = .ok (.getfield 106, 3) := by decide +kernel
theorem dX5_bridge_67 : decode cX5_bridge 67 = .ok (.ifCond .ne 22, 3) := by decide +kernel
theorem dX5_bridge_70 : decode cX5_bridge 70 = .ok (.aload_n 0, 1) := by decide +kernel
theorem dX5_bridge_71 : decode cX5_bridge 71 = .ok (.iload_n 1, 1) := by decide +kernel
theorem dX5_bridge_72 : decode cX5_bridge 72 = .ok (.ifCond .ne 7, 3) := by decide +kernel
theorem dX5_bridge_75 : decode cX5_bridge 75 = .ok (.iconst 1, 1) := by decide +kernel
theorem dX5_bridge_76 : decode cX5_bridge 76 = .ok (.goto 4, 3) := by decide +kernel
theorem dX5_bridge_79 : decode cX5_bridge 79 = .ok (.iconst 0, 1) := by decide +kernel
theorem dX5_bridge_80 : decode cX5_bridge 80 = .ok (.invokevirtual 176, 3) := by decide +kernel
theorem dX5_bridge_83 : decode cX5_bridge 83 = .ok (.iinc 1 1, 3) := by decide +kernel
theorem dX5_bridge_86 : decode cX5_bridge 86 = .ok (.goto (-30), 3) := by decide +kernel
theorem dX5_bridge_89 : decode cX5_bridge 89 = .ok (.aload_n 0, 1) := by decide +kernel
theorem dX5_bridge_90 : decode cX5_bridge 90 = .ok (.getfield 106, 3) := by decide +kernel
theorem dX5_bridge_93 : decode cX5_bridge 93 = .ok (.ifCond .eq 11, 3) := by decide +kernel
theorem dX5_bridge_96 : decode cX5_bridge 96 = .ok (.bipush (-10), 2) := by decide +kernel
theorem dX5_bridge_98 : decode cX5_bridge 98 = .ok (.aload_n 0, 1) := by decide +kernel
theorem dX5_bridge_99 : decode cX5_bridge 99 = .ok (.getfield 93, 3) := by decide +kernel
theorem dX5_bridge_102 : decode cX5_bridge 102 = .ok (.isub, 1) := by decide +kernel
theorem dX5_bridge_103 : decode cX5_bridge 103 = .ok (.ireturn, 1) := by decide +kernel
theorem dX5_bridge_104 : decode cX5_bridge 104 = .ok (.aload_n 0, 1) := by decide +kernel
theorem dX5_bridge_105 : decode cX5_bridge 105 = .ok (.aload_n 0, 1) := by decide +kernel
theorem dX5_bridge_106 : decode cX5_bridge 106 = .ok (.getfield 120, 3) := by decide +kernel
theorem dX5_bridge_109 : decode cX5_bridge 109 = .ok (.putfield 13, 3) := by decide +kernel
theorem dX5_bridge_112 : decode cX5_bridge 112 = .ok (.aload_n 0, 1) := by decide +kernel
theorem dX5_bridge_113 : decode cX5_bridge 113 = .ok (.aload_n 0, 1) := by decide +kernel
theorem dX5_bridge_114 : decode cX5_bridge 114 = .ok (.getfield 123, 3) := by decide +kernel
theorem dX5_bridge_117 : decode cX5_bridge 117 = .ok (.putfield 7, 3) := by decide +kernel
theorem dX5_bridge_120 : decode cX5_bridge 120 = .ok (.aload_n 0, 1) := by decide +kernel
theorem dX5_bridge_121 : decode cX5_bridge 121 = .ok (.aload_n 0, 1) := by decide +kernel
theorem dX5_bridge_122 : decode cX5_bridge 122 = .ok (.getfield 117, 3) := by decide +kernel
theorem dX5_bridge_125 : decode cX5_bridge 125 = .ok (.putfield 78, 3) := by decide +kernel
theorem dX5_bridge_128 : decode cX5_bridge 128 = .ok (.aload_n 0, 1) := by decide +kernel
theorem dX5_bridge_129 : decode cX5_bridge 129 = .ok (.aload_n 0, 1) := by decide +kernel
theorem dX5_bridge_130 : decode cX5_bridge 130 = .ok (.getfield 137, 3) := by decide +kernel
theorem dX5_bridge_133 : decode cX5_bridge 133 = .ok (.putfield 179, 3) := by decide +kernel
theorem dX5_bridge_136 : decode cX5_bridge 136 = .ok (.aload_n 0, 1) := by decide +kernel
theorem dX5_bridge_137 : decode cX5_bridge 137 = .ok (.aload_n 0, 1) := by decide +kernel
theorem dX5_bridge_138 : decode cX5_bridge 138 = .ok (.getfield 140, 3) := by decide +kernel
theorem dX5_bridge_141 : decode cX5_bridge 141 = .ok (.putfield 16, 3) := by decide +kernel
theorem dX5_bridge_144 : decode cX5_bridge 144 = .ok (.aload_n 0, 1) := by decide +kernel
theorem dX5_bridge_145 : decode cX5_bridge 145 = .ok (.aload_n 0, 1) := by decide +kernel
theorem dX5_bridge_146 : decode cX5_bridge 146 = .ok (.getfield 146, 3) := by decide +kernel
theorem dX5_bridge_149 : decode cX5_bridge 149 = .ok (.putfield 19, 3) := by decide +kernel
theorem dX5_bridge_152 : decode cX5_bridge 152 = .ok (.iconst 0, 1) := by decide +kernel
theorem dX5_bridge_153 : decode cX5_bridge 153 = .ok (.istore_n 2, 1) := by decide +kernel
theorem dX5_bridge_154 : decode cX5_bridge 154 = .ok (.iload_n 2, 1) := by decide +kernel
theorem dX5_bridge_155 : decode cX5_bridge 155 = .ok (.bipush 14, 2) := by decide +kernel
theorem dX5_bridge_157 : decode cX5_bridge 157 = .ok (.if_icmp .ge 16, 3) := by decide +kernel
theorem dX5_bridge_160 : decode cX5_bridge 160 = .ok (.aload_n 0, 1) := by decide +kernel
theorem dX5_bridge_161 : decode cX5_bridge 161 = .ok (.getfield 29, 3) := by decide +kernel
theorem dX5_bridge_164 : decode cX5_bridge 164 = .ok (.iload_n 2, 1) := by decide +kernel
theorem dX5_bridge_165 : decode cX5_bridge 165 = .ok (.iconst 0, 1) := by decide +kernel
theorem dX5_bridge_166 : decode cX5_bridge 166 = .ok (.iastore, 1) := by decide +kernel
theorem dX5_bridge_167 : decode cX5_bridge 167 = .ok (.iinc 2 1, 3) := by decide +kernel
theorem dX5_bridge_170 : decode cX5_bridge 170 = .ok (.goto (-16), 3) := by decide +kernel
theorem dX5_bridge_173 : decode cX5_bridge 173 = .ok (.aload_n 0, 1) := by decide +kernel
theorem dX5_bridge_174 : decode cX5_bridge 174 = .ok (.getfield 29, 3) := by decide +kernel
theorem dX5_bridge_177 : decode cX5_bridge 177 = .ok (.iconst 1, 1) := by decide +kernel
theorem dX5_bridge_178 : decode cX5_bridge 178 = .ok (.bipush (-9), 2) := by decide +kernel
theorem dX5_bridge_180 : decode cX5_bridge 180 = .ok (.iastore, 1) := by decide +kernel
theorem dX5_bridge_181 : decode cX5_bridge 181 = .ok (.iconst 0, 1) := by decide +kernel
theorem dX5_bridge_182 : decode cX5_bridge 182 = .ok (.istore_n 2, 1) := by decide +kernel
theorem dX5_bridge_183 : decode cX5_bridge 183 = .ok (.iload_n 2, 1) := by decide +kernel
theorem dX5_bridge_184 : decode cX5_bridge 184 = .ok (.aload_n 0, 1) := by decide +kernel
theorem dX5_bridge_185 : decode cX5_bridge 185 = .ok (.getfield 78, 3) := by decide +kernel
theorem dX5_bridge_188 : decode cX5_bridge 188 = .ok (.if_icmp .ge 47, 3) := by decide +kernel
theorem dX5_bridge_191 : decode cX5_bridge 191 = .ok (.aload_n 0, 1) := by decide +kernel
theorem dX5_bridge_192 : decode cX5_bridge 192 = .ok (.getfield 22, 3) := by decide +kernel
theorem dX5_bridge_195 : decode cX5_bridge 195 = .ok (.iload_n 2, 1) := by decide +kernel
theorem dX5_bridge_196 : decode cX5_bridge 196 = .ok (.aload_n 0, 1) := by decide +kernel
theorem dX5_bridge_197 : decode cX5_bridge 197 = .ok (.getfield 42, 3) := by decide +kernel
theorem dX5_bridge_200 : decode cX5_bridge 200 = .ok (.iload_n 2, 1) := by decide +kernel
theorem dX5_bridge_201 : decode cX5_bridge 201 = .ok (.iaload, 1) := by decide +kernel
theorem dX5_bridge_202 : decode cX5_bridge 202 = .ok (.iastore, 1) := by decide +kernel
theorem dX5_bridge_203 : decode cX5_bridge 203 = .ok (.aload_n 0, 1) := by decide +kernel
theorem dX5_bridge_204 : decode cX5_bridge 204 = .ok (.getfield 26, 3) := by decide +kernel
theorem dX5_bridge_207 : decode cX5_bridge 207 = .ok (.iload_n 2, 1) := by decide +kernel
theorem dX5_bridge_208 : decode cX5_bridge 208 = .ok (.aload_n 0, 1) := by decide +kernel
theorem dX5_bridge_209 : decode cX5_bridge 209 = .ok (.getfield 45, 3) := by decide +kernel
theorem dX5_bridge_212 : decode cX5_bridge 212 = .ok (.iload_n 2, 1) := by decide +kernel
theorem dX5_bridge_213 : decode cX5_bridge 213 = .ok (.iaload, 1) := by decide +kernel
theorem dX5_bridge_214 : decode cX5_bridge 214 = .ok (.iastore, 1) := by decide +kernel
theorem dX5_bridge_215 : decode cX5_bridge 215 = .ok (.aload_n 0, 1) := by decide +kernel
theorem dX5_bridge_216 : decode cX5_bridge 216 = .ok (.getfield 29, 3) := by decide +kernel
theorem dX5_bridge_219 : decode cX5_bridge 219 = .ok (.iconst 4, 1) := by decide +kernel
theorem dX5_bridge_220 : decode cX5_bridge 220 = .ok (.iload_n 2, 1) := by decide +kernel
theorem dX5_bridge_221 : decode cX5_bridge 221 = .ok (.iadd, 1) := by decide +kernel
theorem dX5_bridge_222 : decode cX5_bridge 222 = .ok (.aload_n 0, 1) := by decide +kernel
theorem dX5_bridge_223 : decode cX5_bridge 223 = .ok (.getfield 48, 3) := by decide +kernel
theorem dX5_bridge_226 : decode cX5_bridge 226 = .ok (.iload_n 2, 1) := by decide +kernel
theorem dX5_bridge_227 : decode cX5_bridge 227 = .ok (.iaload, 1) := by decide +kernel
theorem dX5_bridge_228 : decode cX5_bridge 228 = .ok (.iastore, 1) := by decide +kernel
theorem dX5_bridge_229 : decode cX5_bridge 229 = .ok (.iinc 2 1, 3) := by decide +kernel
theorem dX5_bridge_232 : decode cX5_bridge 232 = .ok (.goto (-49), 3) := by decide +kernel
theorem dX5_bridge_235 : decode cX5_bridge 235 = .ok (.aload_n 0, 1) := by decide +kernel
theorem dX5_bridge_236 : decode cX5_bridge 236 = .ok (.getfield 35, 3) := by decide +kernel
theorem dX5_bridge_239 : decode cX5_bridge 239 = .ok (.iconst 0, 1) := by decide +kernel
theorem dX5_bridge_240 : decode cX5_bridge 240 = .ok (.iconst 0, 1) := by decide +kernel
theorem dX5_bridge_241 : decode cX5_bridge 241 = .ok (.bastore, 1) := by decide +kernel
theorem dX5_bridge_242 : decode cX5_bridge 242 = .ok (.aload_n 0, 1) := by decide +kernel
theorem dX5_bridge_243 : decode cX5_bridge 243 = .ok (.getfield 35, 3) := by decide +kernel
theorem dX5_bridge_246 : decode cX5_bridge 246 = .ok (.iconst 1, 1) := by decide +kernel
theorem dX5_bridge_247 : decode cX5_bridge 247 = .ok (.iconst 0, 1) := by decide +kernel
theorem dX5_bridge_248 : decode cX5_bridge 248 = .ok (.bastore, 1) := by decide +kernel
theorem dX5_bridge_249 : decode cX5_bridge 249 = .ok (.aload_n 0, 1) := by decide +kernel
theorem dX5_bridge_250 : decode cX5_bridge 250 = .ok (.iconst 0, 1) := by decide +kernel
theorem dX5_bridge_251 : decode cX5_bridge 251 = .ok (.putfield 81, 3) := by decide +kernel
theorem dX5_bridge_254 : decode cX5_bridge 254 = .ok (.iload_n 1, 1) := by decide +kernel
theorem dX5_bridge_255 : decode cX5_bridge 255 = .ok (.ireturn, 1) := by decide +kernel
theorem dX5_catAt_0 : decode cX5_catAt 0 = .ok (.bipush (-9), 2) := by decide +kernel
theorem dX5_catAt_2 : decode cX5_catAt 2 = .ok (.istore_n 2, 1) := by decide +kernel
theorem dX5_catAt_3 : decode cX5_catAt 3 = .ok (.iconst 0, 1) := by decide +kernel
theorem dX5_catAt_4 : decode cX5_catAt 4 = .ok (.istore_n 3, 1) := by decide +kernel
theorem dX5_catAt_5 : decode cX5_catAt 5 = .ok (.iload_n 3, 1) := by decide +kernel
theorem dX5_catAt_6 : decode cX5_catAt 6 = .ok (.aload_n 0, 1) := by decide +kernel
theorem dX5_catAt_7 : decode cX5_catAt 7 = .ok (.getfield 78, 3) := by decide +kernel
theorem dX5_catAt_10 : decode cX5_catAt 10 = .ok (.if_icmp .ge 27, 3) := by decide +kernel
theorem dX5_catAt_13 : decode cX5_catAt 13 = .ok (.aload_n 0, 1) := by decide +kernel
theorem dX5_catAt_14 : decode cX5_catAt 14 = .ok (.getfield 29, 3) := by decide +kernel
theorem dX5_catAt_17 : decode cX5_catAt 17 = .ok (.iconst 4, 1) := by decide +kernel
theorem dX5_catAt_18 : decode cX5_catAt 18 = .ok (.iload_n 3, 1) := by decide +kernel
theorem dX5_catAt_19 : decode cX5_catAt 19 = .ok (.iadd, 1) := by decide +kernel
theorem dX5_catAt_20 : decode cX5_catAt 20 = .ok (.iaload, 1) := by decide +kernel
theorem dX5_catAt_21 : decode cX5_catAt 21 = .ok (.iload_n 1, 1) := by decide +kernel
theorem dX5_catAt_22 : decode cX5_catAt 22 = .ok (.if_icmp .ne 7, 3) := by decide +kernel
theorem dX5_catAt_25 : decode cX5_catAt 25 = .ok (.iload_n 3, 1) := by decide +kernel
theorem dX5_catAt_26 : decode cX5_catAt 26 = .ok (.goto 4, 3) := by decide +kernel
theorem dX5_catAt_29 : decode cX5_catAt 29 = .ok (.iload_n 2, 1) := by decide +kernel
theorem dX5_catAt_30 : decode cX5_catAt 30 = .ok (.istore_n 2, 1) := by decide +kernel
theorem dX5_catAt_31 : decode cX5_catAt 31 = .ok (.iinc 3 1, 3) := by decide +kernel
theorem dX5_catAt_34 : decode cX5_catAt 34 = .ok (.goto (-29), 3) := by decide +kernel
theorem dX5_catAt_37 : decode cX5_catAt 37 = .ok (.iload_n 2, 1) := by decide +kernel
theorem dX5_catAt_38 : decode cX5_catAt 38 = .ok (.ireturn, 1) := by decide +kernel
set_option maxRecDepth 20000 in
theorem ggX5_cat_X5_isCat : GoodIn wsX5_cat wsX5_isCat := goodIn_r _ [8, 9, 10, 11, 7, 12, 13, 14, 15, 16, 17, 18, 19, 20, 21, 22, 23, 24, 25, 26, 27, 28, 29, 30, 31, 32, 33, 34, 35, 36, 37, 38, 39, 40, 41, 42, 43, 44, 45, 46, 47, 48, 49, 50, 51, 52, 53] (by decide +kernel) (by decide +kernel)
set_option maxRecDepth 20000 in
theorem gX5_cat_X5_isCat : GoodIn wsX5_cat (wsV RX5 182 RX5 yX5_isCat wsX5_isCat) := goodIn_app (goodIn_of _ (by decide +kernel)) ggX5_cat_X5_isCat
set_option maxRecDepth 20000 in
theorem ggX5_cat_X5_in : GoodIn wsX5_cat wsX5_in := goodIn_r _ [12] (by decide +kernel) (by decide +kernel)
set_option maxRecDepth 20000 in
theorem gX5_cat_X5_in : GoodIn wsX5_cat (va_wsS RX5 74 yX5_in wsX5_in) := goodIn_app (goodIn_of _ (by decide +kernel)) ggX5_cat_X5_in
theorem dX5_cat_0 : decode cX5_cat 0 = .ok (.aload_n 0, 1) := by decide +kernel
theorem dX5_cat_1 : decode cX5_cat 1 = .ok (.iload_n 1, 1) := by decide +kernel
theorem dX5_cat_2 : decode cX5_cat 2 = .ok (.invokevirtual 182, 3) := by decide +kernel
theorem dX5_cat_5 : decode cX5_cat 5 = .ok (.ifCond .eq 12, 3) := by decide +kernel
theorem dX5_cat_8 : decode cX5_cat 8 = .ok (.iload_n 2, 1) := by decide +kernel
theorem dX5_cat_9 : decode cX5_cat 9 = .ok (.iconst 0, 1) := by decide +kernel
theorem dX5_cat_10 : decode cX5_cat 10 = .ok (.iconst 3, 1) := by decide +kernel
theorem dX5_cat_11 : decode cX5_cat 11 = .ok (.invokestatic 74, 3) := by decide +kernel
theorem dX5_cat_14 : decode cX5_cat 14 = .ok (.ifCond .ne 5, 3) := by decide +kernel
theorem dX5_cat_17 : decode cX5_cat 17 = .ok (.iconst (-1), 1) := by decide +kernel
theorem dX5_cat_18 : decode cX5_cat 18 = .ok (.ireturn, 1) := by decide +kernel
theorem dX5_cat_19 : decode cX5_cat 19 = .ok (.iload_n 2, 1) := by decide +kernel
theorem dX5_cat_20 : decode cX5_cat 20 = .ok (.ifCond .ne 14, 3) := by decide +kernel
theorem dX5_cat_23 : decode cX5_cat 23 = .ok (.aload_n 0, 1) := by decide +kernel
theorem dX5_cat_24 : decode cX5_cat 24 = .ok (.getfield 29, 3) := by decide +kernel
theorem dX5_cat_27 : decode cX5_cat 27 = .ok (.iconst 4, 1) := by decide +kernel
theorem dX5_cat_28 : decode cX5_cat 28 = .ok (.iload_n 1, 1) := by decide +kernel
theorem dX5_cat_29 : decode cX5_cat 29 = .ok (.iadd, 1) := by decide +kernel
theorem dX5_cat_30 : decode cX5_cat 30 = .ok (.iaload, 1) := by decide +kernel
theorem dX5_cat_31 : decode cX5_cat 31 = .ok (.goto 40, 3) := by decide +kernel
theorem dX5_cat_34 : decode cX5_cat 34 = .ok (.iload_n 2, 1) := by decide +kernel
theorem dX5_cat_35 : decode cX5_cat 35 = .ok (.iconst 1, 1) := by decide +kernel
theorem dX5_cat_36 : decode cX5_cat 36 = .ok (.if_icmp .ne 12, 3) := by decide +kernel
theorem dX5_cat_39 : decode cX5_cat 39 = .ok (.aload_n 0, 1) := by decide +kernel
theorem dX5_cat_40 : decode cX5_cat 40 = .ok (.getfield 22, 3) := by decide +kernel
theorem dX5_cat_43 : decode cX5_cat 43 = .ok (.iload_n 1, 1) := by decide +kernel
theorem dX5_cat_44 : decode cX5_cat 44 = .ok (.iaload, 1) := by decide +kernel
theorem dX5_cat_45 : decode cX5_cat 45 = .ok (.goto 26, 3) := by decide +kernel
theorem dX5_cat_48 : decode cX5_cat 48 = .ok (.iload_n 2, 1) := by decide +kernel
theorem dX5_cat_49 : decode cX5_cat 49 = .ok (.iconst 2, 1) := by decide +kernel
theorem dX5_cat_50 : decode cX5_cat 50 = .ok (.if_icmp .ne 12, 3) := by decide +kernel
theorem dX5_cat_53 : decode cX5_cat 53 = .ok (.aload_n 0, 1) := by decide +kernel
theorem dX5_cat_54 : decode cX5_cat 54 = .ok (.getfield 26, 3) := by decide +kernel
theorem dX5_cat_57 : decode cX5_cat 57 = .ok (.iload_n 1, 1) := by decide +kernel
theorem dX5_cat_58 : decode cX5_cat 58 = .ok (.iaload, 1) := by decide +kernel
theorem dX5_cat_59 : decode cX5_cat 59 = .ok (.goto 12, 3) := by decide +kernel
theorem dX5_cat_62 : decode cX5_cat 62 = .ok (.aload_n 0, 1) := by decide +kernel
theorem dX5_cat_63 : decode cX5_cat 63 = .ok (.getfield 29, 3) := by decide +kernel
theorem dX5_cat_66 : decode cX5_cat 66 = .ok (.bipush 9, 2) := by decide +kernel
theorem dX5_cat_68 : decode cX5_cat 68 = .ok (.iload_n 1, 1) := by decide +kernel
theorem dX5_cat_69 : decode cX5_cat 69 = .ok (.iadd, 1) := by decide +kernel
theorem dX5_cat_70 : decode cX5_cat 70 = .ok (.iaload, 1) := by decide +kernel
theorem dX5_cat_71 : decode cX5_cat 71 = .ok (.ireturn, 1) := by decide +kernel
set_option maxRecDepth 20000 in
theorem ggX5_cell_X5_isCell : GoodIn wsX5_cell wsX5_isCell := goodIn_r _ [6, 7, 8, 9, 5, 10, 11, 12, 13, 14, 15, 21, 22, 23, 24, 25, 26, 27, 28, 29, 30, 31, 32, 33, 34, 35, 36, 37, 38, 39, 40, 41, 42, 43, 44, 45, 46, 47, 48, 49, 50, 51, 52, 53, 54, 55, 56, 57, 58, 59, 60, 61] (by decide +kernel) (by decide +kernel)
set_option maxRecDepth 20000 in
theorem gX5_cell_X5_isCell : GoodIn wsX5_cell (wsV RX5 185 RX5 yX5_isCell wsX5_isCell) := goodIn_app (goodIn_of _ (by decide +kernel)) ggX5_cell_X5_isCell
set_option maxRecDepth 20000 in
theorem ggX5_cell_X5_in : GoodIn wsX5_cell wsX5_in := goodIn_r _ [15] (by decide +kernel) (by decide +kernel)
set_option maxRecDepth 20000 in
theorem gX5_cell_X5_in : GoodIn wsX5_cell (va_wsS RX5 74 yX5_in wsX5_in) := goodIn_app (goodIn_of _ (by decide +kernel)) ggX5_cell_X5_in
set_option maxRecDepth 20000 in
theorem ggX5_cell_X5_catAt : GoodIn wsX5_cell wsX5_catAt := goodIn_r _ [19, 20, 1, 21, 22, 23, 24, 25, 26, 27, 28, 29, 30, 31, 32, 33, 34, 35, 36, 37, 38, 39, 40, 41, 42, 43, 44, 45, 46, 47, 48, 49, 50, 51, 52, 53, 54, 55, 56, 57, 58, 59, 60, 61] (by decide +kernel) (by decide +kernel)
set_option maxRecDepth 20000 in
theorem gX5_cell_X5_catAt : GoodIn wsX5_cell (wsV RX5 188 RX5 yX5_catAt wsX5_catAt) := goodIn_app (goodIn_of _ (by decide +kernel)) ggX5_cell_X5_catAt
theorem dX5_cell_0 : decode cX5_cell 0 = .ok (.aload_n 0, 1) := by decide +kernel
theorem dX5_cell_1 : decode cX5_cell 1 = .ok (.iload_n 1, 1) := by decide +kernel
theorem dX5_cell_2 : decode cX5_cell 2 = .ok (.invokevirtual 185, 3) := by decide +kernel
theorem dX5_cell_5 : decode cX5_cell 5 = .ok (.ifCond .eq 12, 3) := by decide +kernel
theorem dX5_cell_8 : decode cX5_cell 8 = .ok (.iload_n 2, 1) := by decide +kernel
theorem dX5_cell_9 : decode cX5_cell 9 = .ok (.iconst 0, 1) := by decide +kernel
theorem dX5_cell_10 : decode cX5_cell 10 = .ok (.iconst 2, 1) := by decide +kernel
theorem dX5_cell_11 : decode cX5_cell 11 = .ok (.invokestatic 74, 3) := by decide +kernel
theorem dX5_cell_14 : decode cX5_cell 14 = .ok (.ifCond .ne 5, 3) := by decide +kernel
theorem dX5_cell_17 : decode cX5_cell 17 = .ok (.iconst (-1), 1) := by decide +kernel
theorem dX5_cell_18 : decode cX5_cell 18 = .ok (.ireturn, 1) := by decide +kernel
theorem dX5_cell_19 : decode cX5_cell 19 = .ok (.iload_n 2, 1) := by decide +kernel
theorem dX5_cell_20 : decode cX5_cell 20 = .ok (.ifCond .ne 11, 3) := by decide +kernel
theorem dX5_cell_23 : decode cX5_cell 23 = .ok (.aload_n 0, 1) := by decide +kernel
theorem dX5_cell_24 : decode cX5_cell 24 = .ok (.iload_n 1, 1) := by decide +kernel
theorem dX5_cell_25 : decode cX5_cell 25 = .ok (.invokevirtual 188, 3) := by decide +kernel
theorem dX5_cell_28 : decode cX5_cell 28 = .ok (.goto 36, 3) := by decide +kernel
theorem dX5_cell_31 : decode cX5_cell 31 = .ok (.iload_n 2, 1) := by decide +kernel
theorem dX5_cell_32 : decode cX5_cell 32 = .ok (.iconst 1, 1) := by decide +kernel
theorem dX5_cell_33 : decode cX5_cell 33 = .ok (.if_icmp .ne 16, 3) := by decide +kernel
theorem dX5_cell_36 : decode cX5_cell 36 = .ok (.aload_n 0, 1) := by decide +kernel
theorem dX5_cell_37 : decode cX5_cell 37 = .ok (.getfield 29, 3) := by decide +kernel
theorem dX5_cell_40 : decode cX5_cell 40 = .ok (.iconst 3, 1) := by decide +kernel
theorem dX5_cell_41 : decode cX5_cell 41 = .ok (.iaload, 1) := by decide +kernel
theorem dX5_cell_42 : decode cX5_cell 42 = .ok (.iload_n 1, 1) := by decide +kernel
theorem dX5_cell_43 : decode cX5_cell 43 = .ok (.ishr, 1) := by decide +kernel
theorem dX5_cell_44 : decode cX5_cell 44 = .ok (.iconst 1, 1) := by decide +kernel
theorem dX5_cell_45 : decode cX5_cell 45 = .ok (.iand, 1) := by decide +kernel
theorem dX5_cell_46 : decode cX5_cell 46 = .ok (.goto 18, 3) := by decide +kernel
theorem dX5_cell_49 : decode cX5_cell 49 = .ok (.aload_n 0, 1) := by decide +kernel
theorem dX5_cell_50 : decode cX5_cell 50 = .ok (.getfield 29, 3) := by decide +kernel
theorem dX5_cell_53 : decode cX5_cell 53 = .ok (.iconst 1, 1) := by decide +kernel
theorem dX5_cell_54 : decode cX5_cell 54 = .ok (.iaload, 1) := by decide +kernel
theorem dX5_cell_55 : decode cX5_cell 55 = .ok (.iload_n 1, 1) := by decide +kernel
theorem dX5_cell_56 : decode cX5_cell 56 = .ok (.if_icmp .ne 7, 3) := by decide +kernel
theorem dX5_cell_59 : decode cX5_cell 59 = .ok (.iconst 1, 1) := by decide +kernel
theorem dX5_cell_60 : decode cX5_cell 60 = .ok (.goto 4, 3) := by decide +kernel
theorem dX5_cell_63 : decode cX5_cell 63 = .ok (.iconst 0, 1) := by decide +kernel
theorem dX5_cell_64 : decode cX5_cell 64 = .ok (.ireturn, 1) := by decide +kernel
theorem dX5_sunAt_0 : decode cX5_sunAt 0 = .ok (.aload_n 0, 1) := by decide +kernel
theorem dX5_sunAt_1 : decode cX5_sunAt 1 = .ok (.getfield 179, 3) := by decide +kernel
theorem dX5_sunAt_4 : decode cX5_sunAt 4 = .ok (.aload_n 0, 1) := by decide +kernel
theorem dX5_sunAt_5 : decode cX5_sunAt 5 = .ok (.getfield 13, 3) := by decide +kernel
theorem dX5_sunAt_8 : decode cX5_sunAt 8 = .ok (.irem, 1) := by decide +kernel
theorem dX5_sunAt_9 : decode cX5_sunAt 9 = .ok (.iload_n 1, 1) := by decide +kernel
theorem dX5_sunAt_10 : decode cX5_sunAt 10 = .ok (.aload_n 0, 1) := by decide +kernel
theorem dX5_sunAt_11 : decode cX5_sunAt 11 = .ok (.getfield 16, 3) := by decide +kernel
theorem dX5_sunAt_14 : decode cX5_sunAt 14 = .ok (.idiv, 1) := by decide +kernel
theorem dX5_sunAt_15 : decode cX5_sunAt 15 = .ok (.iadd, 1) := by decide +kernel
theorem dX5_sunAt_16 : decode cX5_sunAt 16 = .ok (.aload_n 0, 1) := by decide +kernel
theorem dX5_sunAt_17 : decode cX5_sunAt 17 = .ok (.getfield 13, 3) := by decide +kernel
theorem dX5_sunAt_20 : decode cX5_sunAt 20 = .ok (.irem, 1) := by decide +kernel
theorem dX5_sunAt_21 : decode cX5_sunAt 21 = .ok (.ireturn, 1) := by decide +kernel
set_option maxRecDepth 20000 in
theorem ggX5_now_X5_sunAt : GoodIn wsX5_now wsX5_sunAt := goodIn_r _ [8, 9, 10, 2, 11, 12, 13, 14, 15, 16, 17, 18, 19, 20, 21, 22, 23, 24, 25, 26, 27, 28, 29, 30, 31, 32, 33, 34, 35, 36, 37, 38, 39, 40, 41, 42, 43, 44, 45, 46, 47, 48, 49, 50, 51] (by decide +kernel) (by decide +kernel)
set_option maxRecDepth 20000 in
theorem gX5_now_X5_sunAt : GoodIn wsX5_now (wsV RX5 191 RX5 yX5_sunAt wsX5_sunAt) := goodIn_app (goodIn_of _ (by decide +kernel)) ggX5_now_X5_sunAt
theorem dX5_now_0 : decode cX5_now 0 = .ok (.iload_n 1, 1) := by decide +kernel
theorem dX5_now_1 : decode cX5_now 1 = .ok (.tableswitch 81 0 5 #[39, 50, 55, 60, 67, 74], 39) := by decide +kernel
theorem dX5_now_40 : decode cX5_now 40 = .ok (.aload_n 0, 1) := by decide +kernel
theorem dX5_now_41 : decode cX5_now 41 = .ok (.aload_n 0, 1) := by decide +kernel
theorem dX5_now_42 : decode cX5_now 42 = .ok (.getfield 29, 3) := by decide +kernel
theorem dX5_now_45 : decode cX5_now 45 = .ok (.iconst 0, 1) := by decide +kernel
theorem dX5_now_46 : decode cX5_now 46 = .ok (.iaload, 1) := by decide +kernel
theorem dX5_now_47 : decode cX5_now 47 = .ok (.invokevirtual 191, 3) := by decide +kernel
theorem dX5_now_50 : decode cX5_now 50 = .ok (.ireturn, 1) := by decide +kernel
theorem dX5_now_51 : decode cX5_now 51 = .ok (.aload_n 0, 1) := by decide +kernel
theorem dX5_now_52 : decode cX5_now 52 = .ok (.getfield 16, 3) := by decide +kernel
theorem dX5_now_55 : decode cX5_now 55 = .ok (.ireturn, 1) := by decide +kernel
theorem dX5_now_56 : decode cX5_now 56 = .ok (.aload_n 0, 1) := by decide +kernel
theorem dX5_now_57 : decode cX5_now 57 = .ok (.getfield 19, 3) := by decide +kernel
theorem dX5_now_60 : decode cX5_now 60 = .ok (.ireturn, 1) := by decide +kernel
theorem dX5_now_61 : decode cX5_now 61 = .ok (.aload_n 0, 1) := by decide +kernel
theorem dX5_now_62 : decode cX5_now 62 = .ok (.getfield 29, 3) := by decide +kernel
