theorem dX5_now_65 : decode cX5_now 65 = .ok (.iconst 0, 1) := by decide +kernel
theorem dX5_now_66 : decode cX5_now 66 = .ok (.iaload, 1) := by decide +kernel
theorem dX5_now_67 : decode cX5_now 67 = .ok (.ireturn, 1) := by decide +kernel
theorem dX5_now_68 : decode cX5_now 68 = .ok (.aload_n 0, 1) := by decide +kernel
theorem dX5_now_69 : decode cX5_now 69 = .ok (.getfield 29, 3) := by decide +kernel
theorem dX5_now_72 : decode cX5_now 72 = .ok (.iconst 1, 1) := by decide +kernel
theorem dX5_now_73 : decode cX5_now 73 = .ok (.iaload, 1) := by decide +kernel
theorem dX5_now_74 : decode cX5_now 74 = .ok (.ireturn, 1) := by decide +kernel
theorem dX5_now_75 : decode cX5_now 75 = .ok (.aload_n 0, 1) := by decide +kernel
theorem dX5_now_76 : decode cX5_now 76 = .ok (.getfield 29, 3) := by decide +kernel
theorem dX5_now_79 : decode cX5_now 79 = .ok (.iconst 2, 1) := by decide +kernel
theorem dX5_now_80 : decode cX5_now 80 = .ok (.iaload, 1) := by decide +kernel
theorem dX5_now_81 : decode cX5_now 81 = .ok (.ireturn, 1) := by decide +kernel
theorem dX5_now_82 : decode cX5_now 82 = .ok (.iconst (-1), 1) := by decide +kernel
theorem dX5_now_83 : decode cX5_now 83 = .ok (.ireturn, 1) := by decide +kernel
set_option maxRecDepth 20000 in
theorem ggX5_stands_X5_cells : GoodIn wsX5_stands wsX5_cells := goodIn_r _ [12, 13, 14, 18, 19, 20, 21, 22, 23, 24, 25, 26, 27, 28, 29, 30, 31, 32, 33, 34, 35, 36, 37, 38, 39, 40, 41, 42, 43, 44, 45, 46, 47, 48, 49, 50, 51, 52, 53, 54, 55, 56, 57, 58] (by decide +kernel) (by decide +kernel)
set_option maxRecDepth 20000 in
theorem gX5_stands_X5_cells : GoodIn wsX5_stands (wsV RX5 70 RX5 yX5_cells wsX5_cells) := goodIn_app (goodIn_of _ (by decide +kernel)) ggX5_stands_X5_cells
set_option maxRecDepth 20000 in
theorem ggX5_stands_X5_has : GoodIn wsX5_stands wsX5_has := goodIn_r _ [17] (by decide +kernel) (by decide +kernel)
set_option maxRecDepth 20000 in
theorem gX5_stands_X5_has : GoodIn wsX5_stands (va_wsS RX5 197 yX5_has wsX5_has) := goodIn_app (goodIn_of _ (by decide +kernel)) ggX5_stands_X5_has
theorem dX5_stands_0 : decode cX5_stands 0 = .ok (.aload_n 0, 1) := by decide +kernel
theorem dX5_stands_1 : decode cX5_stands 1 = .ok (.aload_n 0, 1) := by decide +kernel
theorem dX5_stands_2 : decode cX5_stands 2 = .ok (.getfield 78, 3) := by decide +kernel
theorem dX5_stands_5 : decode cX5_stands 5 = .ok (.putfield 194, 3) := by decide +kernel
theorem dX5_stands_8 : decode cX5_stands 8 = .ok (.iconst 0, 1) := by decide +kernel
theorem dX5_stands_9 : decode cX5_stands 9 = .ok (.istore_n 3, 1) := by decide +kernel
theorem dX5_stands_10 : decode cX5_stands 10 = .ok (.iload_n 3, 1) := by decide +kernel
theorem dX5_stands_11 : decode cX5_stands 11 = .ok (.aload_n 0, 1) := by decide +kernel
theorem dX5_stands_12 : decode cX5_stands 12 = .ok (.getfield 78, 3) := by decide +kernel
theorem dX5_stands_15 : decode cX5_stands 15 = .ok (.if_icmp .ge 23, 3) := by decide +kernel
theorem dX5_stands_18 : decode cX5_stands 18 = .ok (.aload_n 0, 1) := by decide +kernel
theorem dX5_stands_19 : decode cX5_stands 19 = .ok (.getfield 51, 3) := by decide +kernel
theorem dX5_stands_22 : decode cX5_stands 22 = .ok (.iload_n 3, 1) := by decide +kernel
theorem dX5_stands_23 : decode cX5_stands 23 = .ok (.aload_n 0, 1) := by decide +kernel
theorem dX5_stands_24 : decode cX5_stands 24 = .ok (.getfield 29, 3) := by decide +kernel
theorem dX5_stands_27 : decode cX5_stands 27 = .ok (.iconst 4, 1) := by decide +kernel
theorem dX5_stands_28 : decode cX5_stands 28 = .ok (.iload_n 3, 1) := by decide +kernel
theorem dX5_stands_29 : decode cX5_stands 29 = .ok (.iadd, 1) := by decide +kernel
theorem dX5_stands_30 : decode cX5_stands 30 = .ok (.iaload, 1) := by decide +kernel
theorem dX5_stands_31 : decode cX5_stands 31 = .ok (.iastore, 1) := by decide +kernel
theorem dX5_stands_32 : decode cX5_stands 32 = .ok (.iinc 3 1, 3) := by decide +kernel
theorem dX5_stands_35 : decode cX5_stands 35 = .ok (.goto (-25), 3) := by decide +kernel
theorem dX5_stands_38 : decode cX5_stands 38 = .ok (.iconst 0, 1) := by decide +kernel
theorem dX5_stands_39 : decode cX5_stands 39 = .ok (.istore_n 3, 1) := by decide +kernel
theorem dX5_stands_40 : decode cX5_stands 40 = .ok (.iload_n 3, 1) := by decide +kernel
theorem dX5_stands_41 : decode cX5_stands 41 = .ok (.aload_n 0, 1) := by decide +kernel
theorem dX5_stands_42 : decode cX5_stands 42 = .ok (.invokevirtual 70, 3) := by decide +kernel
theorem dX5_stands_45 : decode cX5_stands 45 = .ok (.if_icmp .ge 37, 3) := by decide +kernel
theorem dX5_stands_48 : decode cX5_stands 48 = .ok (.iload_n 1, 1) := by decide +kernel
theorem dX5_stands_49 : decode cX5_stands 49 = .ok (.iload_n 3, 1) := by decide +kernel
theorem dX5_stands_50 : decode cX5_stands 50 = .ok (.invokestatic 197, 3) := by decide +kernel
theorem dX5_stands_53 : decode cX5_stands 53 = .ok (.ifCond .eq 23, 3) := by decide +kernel
theorem dX5_stands_56 : decode cX5_stands 56 = .ok (.aload_n 0, 1) := by decide +kernel
theorem dX5_stands_57 : decode cX5_stands 57 = .ok (.getfield 51, 3) := by decide +kernel
theorem dX5_stands_60 : decode cX5_stands 60 = .ok (.aload_n 0, 1) := by decide +kernel
theorem dX5_stands_61 : decode cX5_stands 61 = .ok (.getfield 194, 3) := by decide +kernel
theorem dX5_stands_64 : decode cX5_stands 64 = .ok (.iload_n 3, 1) := by decide +kernel
theorem dX5_stands_65 : decode cX5_stands 65 = .ok (.iastore, 1) := by decide +kernel
theorem dX5_stands_66 : decode cX5_stands 66 = .ok (.aload_n 0, 1) := by decide +kernel
theorem dX5_stands_67 : decode cX5_stands 67 = .ok (.dup, 1) := by decide +kernel
theorem dX5_stands_68 : decode cX5_stands 68 = .ok (.getfield 194, 3) := by decide +kernel
theorem dX5_stands_71 : decode cX5_stands 71 = .ok (.iconst 1, 1) := by decide +kernel
theorem dX5_stands_72 : decode cX5_stands 72 = .ok (.iadd, 1) := by decide +kernel
theorem dX5_stands_73 : decode cX5_stands 73 = .ok (.putfield 194, 3) := by decide +kernel
theorem dX5_stands_76 : decode cX5_stands 76 = .ok (.iinc 3 1, 3) := by decide +kernel
theorem dX5_stands_79 : decode cX5_stands 79 = .ok (.goto (-39), 3) := by decide +kernel
theorem dX5_stands_82 : decode cX5_stands 82 = .ok (.aload_n 0, 1) := by decide +kernel
theorem dX5_stands_83 : decode cX5_stands 83 = .ok (.aload_n 0, 1) := by decide +kernel
theorem dX5_stands_84 : decode cX5_stands 84 = .ok (.getfield 29, 3) := by decide +kernel
theorem dX5_stands_87 : decode cX5_stands 87 = .ok (.iconst 3, 1) := by decide +kernel
theorem dX5_stands_88 : decode cX5_stands 88 = .ok (.iaload, 1) := by decide +kernel
theorem dX5_stands_89 : decode cX5_stands 89 = .ok (.iload_n 2, 1) := by decide +kernel
theorem dX5_stands_90 : decode cX5_stands 90 = .ok (.ior, 1) := by decide +kernel
theorem dX5_stands_91 : decode cX5_stands 91 = .ok (.putfield 201, 3) := by decide +kernel
theorem dX5_stands_94 : decode cX5_stands 94 = .ok (.aload_n 0, 1) := by decide +kernel
theorem dX5_stands_95 : decode cX5_stands 95 = .ok (.bipush (-9), 2) := by decide +kernel
theorem dX5_stands_97 : decode cX5_stands 97 = .ok (.putfield 204, 3) := by decide +kernel
theorem dX5_stands_100 : decode cX5_stands 100 = .ok (.iconst 0, 1) := by decide +kernel
theorem dX5_stands_101 : decode cX5_stands 101 = .ok (.istore_n 3, 1) := by decide +kernel
theorem dX5_stands_102 : decode cX5_stands 102 = .ok (.iload_n 3, 1) := by decide +kernel
theorem dX5_stands_103 : decode cX5_stands 103 = .ok (.bipush 8, 2) := by decide +kernel
theorem dX5_stands_105 : decode cX5_stands 105 = .ok (.if_icmp .ge 16, 3) := by decide +kernel
theorem dX5_stands_108 : decode cX5_stands 108 = .ok (.aload_n 0, 1) := by decide +kernel
theorem dX5_stands_109 : decode cX5_stands 109 = .ok (.getfield 54, 3) := by decide +kernel
theorem dX5_stands_112 : decode cX5_stands 112 = .ok (.iload_n 3, 1) := by decide +kernel
theorem dX5_stands_113 : decode cX5_stands 113 = .ok (.iconst 0, 1) := by decide +kernel
theorem dX5_stands_114 : decode cX5_stands 114 = .ok (.iastore, 1) := by decide +kernel
theorem dX5_stands_115 : decode cX5_stands 115 = .ok (.iinc 3 1, 3) := by decide +kernel
theorem dX5_stands_118 : decode cX5_stands 118 = .ok (.goto (-16), 3) := by decide +kernel
theorem dX5_stands_121 : decode cX5_stands 121 = .ok (.return_, 1) := by decide +kernel
theorem dX5_isFree_0 : decode cX5_isFree 0 = .ok (.iload_n 1, 1) := by decide +kernel
theorem dX5_isFree_1 : decode cX5_isFree 1 = .ok (.aload_n 0, 1) := by decide +kernel
theorem dX5_isFree_2 : decode cX5_isFree 2 = .ok (.getfield 204, 3) := by decide +kernel
theorem dX5_isFree_5 : decode cX5_isFree 5 = .ok (.if_icmp .eq 7, 3) := by decide +kernel
theorem dX5_isFree_8 : decode cX5_isFree 8 = .ok (.iconst 1, 1) := by decide +kernel
theorem dX5_isFree_9 : decode cX5_isFree 9 = .ok (.goto 4, 3) := by decide +kernel
theorem dX5_isFree_12 : decode cX5_isFree 12 = .ok (.iconst 0, 1) := by decide +kernel
theorem dX5_isFree_13 : decode cX5_isFree 13 = .ok (.istore_n 2, 1) := by decide +kernel
theorem dX5_isFree_14 : decode cX5_isFree 14 = .ok (.iconst 0, 1) := by decide +kernel
theorem dX5_isFree_15 : decode cX5_isFree 15 = .ok (.istore_n 3, 1) := by decide +kernel
theorem dX5_isFree_16 : decode cX5_isFree 16 = .ok (.iload_n 3, 1) := by decide +kernel
theorem dX5_isFree_17 : decode cX5_isFree 17 = .ok (.aload_n 0, 1) := by decide +kernel
theorem dX5_isFree_18 : decode cX5_isFree 18 = .ok (.getfield 194, 3) := by decide +kernel
theorem dX5_isFree_21 : decode cX5_isFree 21 = .ok (.if_icmp .ge 29, 3) := by decide +kernel
theorem dX5_isFree_24 : decode cX5_isFree 24 = .ok (.iload_n 2, 1) := by decide +kernel
theorem dX5_isFree_25 : decode cX5_isFree 25 = .ok (.ifCond .eq 17, 3) := by decide +kernel
theorem dX5_isFree_28 : decode cX5_isFree 28 = .ok (.aload_n 0, 1) := by decide +kernel
theorem dX5_isFree_29 : decode cX5_isFree 29 = .ok (.getfield 51, 3) := by decide +kernel
theorem dX5_isFree_32 : decode cX5_isFree 32 = .ok (.iload_n 3, 1) := by decide +kernel
theorem dX5_isFree_33 : decode cX5_isFree 33 = .ok (.iaload, 1) := by decide +kernel
theorem dX5_isFree_34 : decode cX5_isFree 34 = .ok (.iload_n 1, 1) := by decide +kernel
theorem dX5_isFree_35 : decode cX5_isFree 35 = .ok (.if_icmp .eq 7, 3) := by decide +kernel
theorem dX5_isFree_38 : decode cX5_isFree 38 = .ok (.iconst 1, 1) := by decide +kernel
theorem dX5_isFree_39 : decode cX5_isFree 39 = .ok (.goto 4, 3) := by decide +kernel
theorem dX5_isFree_42 : decode cX5_isFree 42 = .ok (.iconst 0, 1) := by decide +kernel
theorem dX5_isFree_43 : decode cX5_isFree 43 = .ok (.istore_n 2, 1) := by decide +kernel
theorem dX5_isFree_44 : decode cX5_isFree 44 = .ok (.iinc 3 1, 3) := by decide +kernel
theorem dX5_isFree_47 : decode cX5_isFree 47 = .ok (.goto (-31), 3) := by decide +kernel
theorem dX5_isFree_50 : decode cX5_isFree 50 = .ok (.iload_n 2, 1) := by decide +kernel
theorem dX5_isFree_51 : decode cX5_isFree 51 = .ok (.ireturn, 1) := by decide +kernel
set_option maxRecDepth 20000 in
theorem ggX5_stepsTo_X5_size : GoodIn wsX5_stepsTo wsX5_size := goodIn_r _ [5] (by decide +kernel) (by decide +kernel)
set_option maxRecDepth 20000 in
theorem gX5_stepsTo_X5_size : GoodIn wsX5_stepsTo (va_wsS RX5 207 yX5_size wsX5_size) := goodIn_app (goodIn_of _ (by decide +kernel)) ggX5_stepsTo_X5_size
theorem dX5_stepsTo_0 : decode cX5_stepsTo 0 = .ok (.iload_n 1, 1) := by decide +kernel
theorem dX5_stepsTo_1 : decode cX5_stepsTo 1 = .ok (.aload_n 0, 1) := by decide +kernel
theorem dX5_stepsTo_2 : decode cX5_stepsTo 2 = .ok (.getfield 13, 3) := by decide +kernel
theorem dX5_stepsTo_5 : decode cX5_stepsTo 5 = .ok (.idiv, 1) := by decide +kernel
theorem dX5_stepsTo_6 : decode cX5_stepsTo 6 = .ok (.iload_n 2, 1) := by decide +kernel
theorem dX5_stepsTo_7 : decode cX5_stepsTo 7 = .ok (.aload_n 0, 1) := by decide +kernel
theorem dX5_stepsTo_8 : decode cX5_stepsTo 8 = .ok (.getfield 13, 3) := by decide +kernel
theorem dX5_stepsTo_11 : decode cX5_stepsTo 11 = .ok (.idiv, 1) := by decide +kernel
theorem dX5_stepsTo_12 : decode cX5_stepsTo 12 = .ok (.isub, 1) := by decide +kernel
theorem dX5_stepsTo_13 : decode cX5_stepsTo 13 = .ok (.invokestatic 207, 3) := by decide +kernel
theorem dX5_stepsTo_16 : decode cX5_stepsTo 16 = .ok (.iload_n 1, 1) := by decide +kernel
theorem dX5_stepsTo_17 : decode cX5_stepsTo 17 = .ok (.aload_n 0, 1) := by decide +kernel
theorem dX5_stepsTo_18 : decode cX5_stepsTo 18 = .ok (.getfield 13, 3) := by decide +kernel
theorem dX5_stepsTo_21 : decode cX5_stepsTo 21 = .ok (.irem, 1) := by decide +kernel
theorem dX5_stepsTo_22 : decode cX5_stepsTo 22 = .ok (.iload_n 2, 1) := by decide +kernel
theorem dX5_stepsTo_23 : decode cX5_stepsTo 23 = .ok (.aload_n 0, 1) := by decide +kernel
theorem dX5_stepsTo_24 : decode cX5_stepsTo 24 = .ok (.getfield 13, 3) := by decide +kernel
theorem dX5_stepsTo_27 : decode cX5_stepsTo 27 = .ok (.irem, 1) := by decide +kernel
theorem dX5_stepsTo_28 : decode cX5_stepsTo 28 = .ok (.isub, 1) := by decide +kernel
theorem dX5_stepsTo_29 : decode cX5_stepsTo 29 = .ok (.invokestatic 207, 3) := by decide +kernel
theorem dX5_stepsTo_32 : decode cX5_stepsTo 32 = .ok (.iadd, 1) := by decide +kernel
theorem dX5_stepsTo_33 : decode cX5_stepsTo 33 = .ok (.ireturn, 1) := by decide +kernel
set_option maxRecDepth 20000 in
theorem ggX5_smelt_X5_cells : GoodIn wsX5_smelt wsX5_cells := goodIn_r _ [7, 8, 9, 20, 21, 22, 23, 24, 25, 26, 27, 28, 29, 30, 31, 32, 33, 34, 35, 36, 37, 38, 39, 40, 41, 42, 43, 44, 45, 46, 47, 48, 49, 50, 51, 52, 53, 54, 55, 56, 57, 58, 59, 60] (by decide +kernel) (by decide +kernel)
set_option maxRecDepth 20000 in
theorem gX5_smelt_X5_cells : GoodIn wsX5_smelt (wsV RX5 70 RX5 yX5_cells wsX5_cells) := goodIn_app (goodIn_of _ (by decide +kernel)) ggX5_smelt_X5_cells
set_option maxRecDepth 20000 in
theorem ggX5_smelt_X5_has : GoodIn wsX5_smelt wsX5_has := goodIn_r _ [12] (by decide +kernel) (by decide +kernel)
set_option maxRecDepth 20000 in
theorem gX5_smelt_X5_has : GoodIn wsX5_smelt (va_wsS RX5 197 yX5_has wsX5_has) := goodIn_app (goodIn_of _ (by decide +kernel)) ggX5_smelt_X5_has
set_option maxRecDepth 20000 in
theorem ggX5_smelt_X5_stepsTo : GoodIn wsX5_smelt wsX5_stepsTo := goodIn_r _ [16, 8, 17, 18, 6, 19, 20, 21, 22, 23, 24, 25, 26, 27, 28, 29, 30, 31, 32, 33, 34, 35, 36, 37, 38, 39, 40, 41, 42, 43, 44, 45, 46, 47, 48, 49, 50, 51, 52, 53, 54, 55, 56, 57, 58, 59, 60] (by decide +kernel) (by decide +kernel)
set_option maxRecDepth 20000 in
theorem gX5_smelt_X5_stepsTo : GoodIn wsX5_smelt (wsV RX5 210 RX5 yX5_stepsTo wsX5_stepsTo) := goodIn_app (goodIn_of _ (by decide +kernel)) ggX5_smelt_X5_stepsTo
theorem dX5_smelt_0 : decode cX5_smelt 0 = .ok (.bipush (-9), 2) := by decide +kernel
theorem dX5_smelt_2 : decode cX5_smelt 2 = .ok (.istore_n 2, 1) := by decide +kernel
theorem dX5_smelt_3 : decode cX5_smelt 3 = .ok (.aload_n 0, 1) := by decide +kernel
theorem dX5_smelt_4 : decode cX5_smelt 4 = .ok (.getfield 19, 3) := by decide +kernel
theorem dX5_smelt_7 : decode cX5_smelt 7 = .ok (.iconst 1, 1) := by decide +kernel
theorem dX5_smelt_8 : decode cX5_smelt 8 = .ok (.iadd, 1) := by decide +kernel
theorem dX5_smelt_9 : decode cX5_smelt 9 = .ok (.istore_n 3, 1) := by decide +kernel
theorem dX5_smelt_10 : decode cX5_smelt 10 = .ok (.iconst 0, 1) := by decide +kernel
theorem dX5_smelt_11 : decode cX5_smelt 11 = .ok (.istore 4, 2) := by decide +kernel
theorem dX5_smelt_13 : decode cX5_smelt 13 = .ok (.iload 4, 2) := by decide +kernel
theorem dX5_smelt_15 : decode cX5_smelt 15 = .ok (.aload_n 0, 1) := by decide +kernel
theorem dX5_smelt_16 : decode cX5_smelt 16 = .ok (.invokevirtual 70, 3) := by decide +kernel
theorem dX5_smelt_19 : decode cX5_smelt 19 = .ok (.if_icmp .ge 43, 3) := by decide +kernel
theorem dX5_smelt_22 : decode cX5_smelt 22 = .ok (.aload_n 0, 1) := by decide +kernel
theorem dX5_smelt_23 : decode cX5_smelt 23 = .ok (.getfield 201, 3) := by decide +kernel
theorem dX5_smelt_26 : decode cX5_smelt 26 = .ok (.iload 4, 2) := by decide +kernel
theorem dX5_smelt_28 : decode cX5_smelt 28 = .ok (.invokestatic 197, 3) := by decide +kernel
theorem dX5_smelt_31 : decode cX5_smelt 31 = .ok (.ifCond .eq 25, 3) := by decide +kernel
theorem dX5_smelt_34 : decode cX5_smelt 34 = .ok (.aload_n 0, 1) := by decide +kernel
theorem dX5_smelt_35 : decode cX5_smelt 35 = .ok (.iload_n 1, 1) := by decide +kernel
theorem dX5_smelt_36 : decode cX5_smelt 36 = .ok (.iload 4, 2) := by decide +kernel
theorem dX5_smelt_38 : decode cX5_smelt 38 = .ok (.invokevirtual 210, 3) := by decide +kernel
theorem dX5_smelt_41 : decode cX5_smelt 41 = .ok (.iload_n 3, 1) := by decide +kernel
theorem dX5_smelt_42 : decode cX5_smelt 42 = .ok (.if_icmp .ge 14, 3) := by decide +kernel
theorem dX5_smelt_45 : decode cX5_smelt 45 = .ok (.iload 4, 2) := by decide +kernel
theorem dX5_smelt_47 : decode cX5_smelt 47 = .ok (.istore_n 2, 1) := by decide +kernel
theorem dX5_smelt_48 : decode cX5_smelt 48 = .ok (.aload_n 0, 1) := by decide +kernel
theorem dX5_smelt_49 : decode cX5_smelt 49 = .ok (.iload_n 1, 1) := by decide +kernel
theorem dX5_smelt_50 : decode cX5_smelt 50 = .ok (.iload 4, 2) := by decide +kernel
theorem dX5_smelt_52 : decode cX5_smelt 52 = .ok (.invokevirtual 210, 3) := by decide +kernel
theorem dX5_smelt_55 : decode cX5_smelt 55 = .ok (.istore_n 3, 1) := by decide +kernel
theorem dX5_smelt_56 : decode cX5_smelt 56 = .ok (.iinc 4 1, 3) := by decide +kernel
theorem dX5_smelt_59 : decode cX5_smelt 59 = .ok (.goto (-46), 3) := by decide +kernel
theorem dX5_smelt_62 : decode cX5_smelt 62 = .ok (.iload_n 2, 1) := by decide +kernel
theorem dX5_smelt_63 : decode cX5_smelt 63 = .ok (.ireturn, 1) := by decide +kernel
set_option maxRecDepth 20000 in
theorem ggX5_goesTo_X5_isFree : GoodIn wsX5_goesTo wsX5_isFree := goodIn_r _ [6, 7, 8, 1, 9, 10, 11, 12, 13, 14, 15, 16, 17, 18, 19, 20, 21, 22, 23, 24, 25, 26, 27, 28, 29, 30, 31, 32, 33, 34, 35, 36, 37, 38, 39, 40, 41, 42, 43, 44, 45, 46, 47, 48, 49] (by decide +kernel) (by decide +kernel)
set_option maxRecDepth 20000 in
theorem gX5_goesTo_X5_isFree : GoodIn wsX5_goesTo (wsV RX5 213 RX5 yX5_isFree wsX5_isFree) := goodIn_app (goodIn_of _ (by decide +kernel)) ggX5_goesTo_X5_isFree
theorem dX5_goesTo_0 : decode cX5_goesTo 0 = .ok (.iload_n 2, 1) := by decide +kernel
theorem dX5_goesTo_1 : decode cX5_goesTo 1 = .ok (.aload_n 0, 1) := by decide +kernel
theorem dX5_goesTo_2 : decode cX5_goesTo 2 = .ok (.getfield 51, 3) := by decide +kernel
theorem dX5_goesTo_5 : decode cX5_goesTo 5 = .ok (.iload_n 1, 1) := by decide +kernel
theorem dX5_goesTo_6 : decode cX5_goesTo 6 = .ok (.iaload, 1) := by decide +kernel
theorem dX5_goesTo_7 : decode cX5_goesTo 7 = .ok (.if_icmp .eq 18, 3) := by decide +kernel
theorem dX5_goesTo_10 : decode cX5_goesTo 10 = .ok (.aload_n 0, 1) := by decide +kernel
theorem dX5_goesTo_11 : decode cX5_goesTo 11 = .ok (.iload_n 2, 1) := by decide +kernel
theorem dX5_goesTo_12 : decode cX5_goesTo 12 = .ok (.invokevirtual 213, 3) := by decide +kernel
theorem dX5_goesTo_15 : decode cX5_goesTo 15 = .ok (.ifCond .eq 10, 3) := by decide +kernel
theorem dX5_goesTo_18 : decode cX5_goesTo 18 = .ok (.aload_n 0, 1) := by decide +kernel
theorem dX5_goesTo_19 : decode cX5_goesTo 19 = .ok (.getfield 51, 3) := by decide +kernel
theorem dX5_goesTo_22 : decode cX5_goesTo 22 = .ok (.iload_n 1, 1) := by decide +kernel
theorem dX5_goesTo_23 : decode cX5_goesTo 23 = .ok (.iload_n 2, 1) := by decide +kernel
theorem dX5_goesTo_24 : decode cX5_goesTo 24 = .ok (.iastore, 1) := by decide +kernel
theorem dX5_goesTo_25 : decode cX5_goesTo 25 = .ok (.return_, 1) := by decide +kernel
theorem dX5_towards_0 : decode cX5_towards 0 = .ok (.iload_n 0, 1) := by decide +kernel
theorem dX5_towards_1 : decode cX5_towards 1 = .ok (.iload_n 1, 1) := by decide +kernel
theorem dX5_towards_2 : decode cX5_towards 2 = .ok (.if_icmp .ge 9, 3) := by decide +kernel
theorem dX5_towards_5 : decode cX5_towards 5 = .ok (.iload_n 0, 1) := by decide +kernel
theorem dX5_towards_6 : decode cX5_towards 6 = .ok (.iconst 1, 1) := by decide +kernel
theorem dX5_towards_7 : decode cX5_towards 7 = .ok (.iadd, 1) := by decide +kernel
theorem dX5_towards_8 : decode cX5_towards 8 = .ok (.goto 15, 3) := by decide +kernel
theorem dX5_towards_11 : decode cX5_towards 11 = .ok (.iload_n 0, 1) := by decide +kernel
theorem dX5_towards_12 : decode cX5_towards 12 = .ok (.iload_n 1, 1) := by decide +kernel
theorem dX5_towards_13 : decode cX5_towards 13 = .ok (.if_icmp .le 9, 3) := by decide +kernel
theorem dX5_towards_16 : decode cX5_towards 16 = .ok (.iload_n 0, 1) := by decide +kernel
theorem dX5_towards_17 : decode cX5_towards 17 = .ok (.iconst 1, 1) := by decide +kernel
theorem dX5_towards_18 : decode cX5_towards 18 = .ok (.isub, 1) := by decide +kernel
theorem dX5_towards_19 : decode cX5_towards 19 = .ok (.goto 4, 3) := by decide +kernel
theorem dX5_towards_22 : decode cX5_towards 22 = .ok (.iload_n 0, 1) := by decide +kernel
theorem dX5_towards_23 : decode cX5_towards 23 = .ok (.ireturn, 1) := by decide +kernel
set_option maxRecDepth 20000 in
theorem ggX5_goesBy_X5_towards : GoodIn wsX5_goesBy wsX5_towards := goodIn_r _ [6] (by decide +kernel) (by decide +kernel)
set_option maxRecDepth 20000 in
theorem gX5_goesBy_X5_towards : GoodIn wsX5_goesBy (va_wsS RX5 216 yX5_towards wsX5_towards) := goodIn_app (goodIn_of _ (by decide +kernel)) ggX5_goesBy_X5_towards
set_option maxRecDepth 20000 in
theorem ggX5_goesBy_X5_goesTo : GoodIn wsX5_goesBy wsX5_goesTo := goodIn_r _ [10, 1, 11, 12, 13, 5, 14, 15, 16, 17, 18, 19, 20, 21, 22, 23, 24, 25, 26, 27, 28, 29, 30, 31, 32, 33, 34, 35, 36, 37, 38, 39, 40, 41, 42, 43, 44, 45, 46, 47, 48, 49, 50, 51, 52, 53, 54, 55, 56, 57] (by decide +kernel) (by decide +kernel)
set_option maxRecDepth 20000 in
theorem gX5_goesBy_X5_goesTo : GoodIn wsX5_goesBy (wsV RX5 219 RX5 yX5_goesTo wsX5_goesTo) := goodIn_app (goodIn_of _ (by decide +kernel)) ggX5_goesBy_X5_goesTo
theorem dX5_goesBy_0 : decode cX5_goesBy 0 = .ok (.aload_n 0, 1) := by decide +kernel
theorem dX5_goesBy_1 : decode cX5_goesBy 1 = .ok (.getfield 51, 3) := by decide +kernel
theorem dX5_goesBy_4 : decode cX5_goesBy 4 = .ok (.iload_n 1, 1) := by decide +kernel
theorem dX5_goesBy_5 : decode cX5_goesBy 5 = .ok (.iaload, 1) := by decide +kernel
theorem dX5_goesBy_6 : decode cX5_goesBy 6 = .ok (.aload_n 0, 1) := by decide +kernel
theorem dX5_goesBy_7 : decode cX5_goesBy 7 = .ok (.getfield 13, 3) := by decide +kernel
theorem dX5_goesBy_10 : decode cX5_goesBy 10 = .ok (.idiv, 1) := by decide +kernel
theorem dX5_goesBy_11 : decode cX5_goesBy 11 = .ok (.istore_n 3, 1) := by decide +kernel
theorem dX5_goesBy_12 : decode cX5_goesBy 12 = .ok (.aload_n 0, 1) := by decide +kernel
theorem dX5_goesBy_13 : decode cX5_goesBy 13 = .ok (.getfield 51, 3) := by decide +kernel
theorem dX5_goesBy_16 : decode cX5_goesBy 16 = .ok (.iload_n 1, 1) := by decide +kernel
theorem dX5_goesBy_17 : decode cX5_goesBy 17 = .ok (.iaload, 1) := by decide +kernel
theorem dX5_goesBy_18 : decode cX5_goesBy 18 = .ok (.aload_n 0, 1) := by decide +kernel
theorem dX5_goesBy_19 : decode cX5_goesBy 19 = .ok (.getfield 13, 3) := by decide +kernel
theorem dX5_goesBy_22 : decode cX5_goesBy 22 = .ok (.irem, 1) := by decide +kernel
theorem dX5_goesBy_23 : decode cX5_goesBy 23 = .ok (.istore 4, 2) := by decide +kernel
theorem dX5_goesBy_25 : decode cX5_goesBy 25 = .ok (.iload 4, 2) := by decide +kernel
theorem dX5_goesBy_27 : decode cX5_goesBy 27 = .ok (.iload_n 2, 1) := by decide +kernel
theorem dX5_goesBy_28 : decode cX5_goesBy 28 = .ok (.aload_n 0, 1) := by decide +kernel
theorem dX5_goesBy_29 : decode cX5_goesBy 29 = .ok (.getfield 13, 3) := by decide +kernel
theorem dX5_goesBy_32 : decode cX5_goesBy 32 = .ok (.irem, 1) := by decide +kernel
theorem dX5_goesBy_33 : decode cX5_goesBy 33 = .ok (.invokestatic 216, 3) := by decide +kernel
theorem dX5_goesBy_36 : decode cX5_goesBy 36 = .ok (.istore 5, 2) := by decide +kernel
theorem dX5_goesBy_38 : decode cX5_goesBy 38 = .ok (.aload_n 0, 1) := by decide +kernel
theorem dX5_goesBy_39 : decode cX5_goesBy 39 = .ok (.iload_n 1, 1) := by decide +kernel
theorem dX5_goesBy_40 : decode cX5_goesBy 40 = .ok (.iload 5, 2) := by decide +kernel
theorem dX5_goesBy_42 : decode cX5_goesBy 42 = .ok (.iload 4, 2) := by decide +kernel
theorem dX5_goesBy_44 : decode cX5_goesBy 44 = .ok (.if_icmp .eq 15, 3) := by decide +kernel
theorem dX5_goesBy_47 : decode cX5_goesBy 47 = .ok (.aload_n 0, 1) := by decide +kernel
theorem dX5_goesBy_48 : decode cX5_goesBy 48 = .ok (.getfield 13, 3) := by decide +kernel
theorem dX5_goesBy_51 : decode cX5_goesBy 51 = .ok (.iload_n 3, 1) := by decide +kernel
theorem dX5_goesBy_52 : decode cX5_goesBy 52 = .ok (.imul, 1) := by decide +kernel
theorem dX5_goesBy_53 : decode cX5_goesBy 53 = .ok (.iload 5, 2) := by decide +kernel
theorem dX5_goesBy_55 : decode cX5_goesBy 55 = .ok (.iadd, 1) := by decide +kernel
theorem dX5_goesBy_56 : decode cX5_goesBy 56 = .ok (.goto 21, 3) := by decide +kernel
theorem dX5_goesBy_59 : decode cX5_goesBy 59 = .ok (.aload_n 0, 1) := by decide +kernel
theorem dX5_goesBy_60 : decode cX5_goesBy 60 = .ok (.getfield 13, 3) := by decide +kernel
theorem dX5_goesBy_63 : decode cX5_goesBy 63 = .ok (.iload_n 3, 1) := by decide +kernel
theorem dX5_goesBy_64 : decode cX5_goesBy 64 = .ok (.iload_n 2, 1) := by decide +kernel
theorem dX5_goesBy_65 : decode cX5_goesBy 65 = .ok (.aload_n 0, 1) := by decide +kernel
theorem dX5_goesBy_66 : decode cX5_goesBy 66 = .ok (.getfield 13, 3) := by decide +kernel
theorem dX5_goesBy_69 : decode cX5_goesBy 69 = .ok (.idiv, 1) := by decide +kernel
theorem dX5_goesBy_70 : decode cX5_goesBy 70 = .ok (.invokestatic 216, 3) := by decide +kernel
theorem dX5_goesBy_73 : decode cX5_goesBy 73 = .ok (.imul, 1) := by decide +kernel
theorem dX5_goesBy_74 : decode cX5_goesBy 74 = .ok (.iload 4, 2) := by decide +kernel
theorem dX5_goesBy_76 : decode cX5_goesBy 76 = .ok (.iadd, 1) := by decide +kernel
theorem dX5_goesBy_77 : decode cX5_goesBy 77 = .ok (.invokevirtual 219, 3) := by decide +kernel
theorem dX5_goesBy_80 : decode cX5_goesBy 80 = .ok (.return_, 1) := by decide +kernel
theorem dX5_habitOf_0 : decode cX5_habitOf 0 = .ok (.iload_n 1, 1) := by decide +kernel
theorem dX5_habitOf_1 : decode cX5_habitOf 1 = .ok (.aload_n 0, 1) := by decide +kernel
theorem dX5_habitOf_2 : decode cX5_habitOf 2 = .ok (.getfield 78, 3) := by decide +kernel
theorem dX5_habitOf_5 : decode cX5_habitOf 5 = .ok (.if_icmp .ge 12, 3) := by decide +kernel
theorem dX5_habitOf_8 : decode cX5_habitOf 8 = .ok (.aload_n 0, 1) := by decide +kernel
theorem dX5_habitOf_9 : decode cX5_habitOf 9 = .ok (.getfield 22, 3) := by decide +kernel
theorem dX5_habitOf_12 : decode cX5_habitOf 12 = .ok (.iload_n 1, 1) := by decide +kernel
theorem dX5_habitOf_13 : decode cX5_habitOf 13 = .ok (.iaload, 1) := by decide +kernel
theorem dX5_habitOf_14 : decode cX5_habitOf 14 = .ok (.goto 4, 3) := by decide +kernel
theorem dX5_habitOf_17 : decode cX5_habitOf 17 = .ok (.iconst 0, 1) := by decide +kernel
theorem dX5_habitOf_18 : decode cX5_habitOf 18 = .ok (.ireturn, 1) := by decide +kernel
set_option maxRecDepth 20000 in
theorem ggX5_goesOn_X5_sunAt : GoodIn wsX5_goesOn wsX5_sunAt := goodIn_r _ [11, 12, 2, 13, 56, 57, 58, 59, 60, 61, 62, 63, 64, 65, 66, 67, 68, 69, 70, 71, 72, 73, 74, 75, 76, 77, 78, 79, 80, 81, 82, 83, 84, 85, 86, 87, 88, 89, 90, 91, 92, 93, 94, 95, 96] (by decide +kernel) (by decide +kernel)
set_option maxRecDepth 20000 in
theorem gX5_goesOn_X5_sunAt : GoodIn wsX5_goesOn (wsV RX5 191 RX5 yX5_sunAt wsX5_sunAt) := goodIn_app (goodIn_of _ (by decide +kernel)) ggX5_goesOn_X5_sunAt
set_option maxRecDepth 20000 in
theorem ggX5_goesOn_X5_habitOf : GoodIn wsX5_goesOn wsX5_habitOf := goodIn_r _ [17, 18, 19, 56, 57, 58, 59, 60, 61, 62, 63, 64, 65, 66, 67, 68, 69, 70, 71, 72, 73, 74, 75, 76, 77, 78, 79, 80, 81, 82, 83, 84, 85, 86, 87, 88, 89, 90, 91, 92, 93, 94, 95, 96] (by decide +kernel) (by decide +kernel)
set_option maxRecDepth 20000 in
theorem gX5_goesOn_X5_habitOf : GoodIn wsX5_goesOn (wsV RX5 223 RX5 yX5_habitOf wsX5_habitOf) := goodIn_app (goodIn_of _ (by decide +kernel)) ggX5_goesOn_X5_habitOf
set_option maxRecDepth 20000 in
theorem ggX5_goesOn_X5_towards : GoodIn wsX5_goesOn wsX5_towards := goodIn_r _ [22] (by decide +kernel) (by decide +kernel)
set_option maxRecDepth 20000 in
theorem gX5_goesOn_X5_towards : GoodIn wsX5_goesOn (va_wsS RX5 216 yX5_towards wsX5_towards) := goodIn_app (goodIn_of _ (by decide +kernel)) ggX5_goesOn_X5_towards
set_option maxRecDepth 20000 in
theorem ggX5_goesOn_X5_goesTo : GoodIn wsX5_goesOn wsX5_goesTo := goodIn_r _ [26, 3, 27, 28, 29, 10, 30, 31, 1, 56, 57, 58, 59, 60, 61, 62, 63, 64, 65, 66, 67, 68, 69, 70, 71, 72, 73, 74, 75, 76, 77, 78, 79, 80, 81, 82, 83, 84, 85, 86, 87, 88, 89, 90, 91, 92, 93, 94, 95, 96] (by decide +kernel) (by decide +kernel)
set_option maxRecDepth 20000 in
theorem gX5_goesOn_X5_goesTo : GoodIn wsX5_goesOn (wsV RX5 219 RX5 yX5_goesTo wsX5_goesTo) := goodIn_app (goodIn_of _ (by decide +kernel)) ggX5_goesOn_X5_goesTo
set_option maxRecDepth 20000 in
theorem ggX5_goesOn_X5_smelt : GoodIn wsX5_goesOn wsX5_smelt := goodIn_r _ [35, 36, 5, 37, 38, 39, 10, 40, 2, 41, 42, 43, 44, 45, 46, 47, 48, 49, 50, 51, 56, 57, 58, 59, 60, 61, 62, 63, 64, 65, 66, 67, 68, 69, 70, 71, 72, 73, 74, 75, 76, 77, 78, 79, 80, 81, 82, 83, 84, 85, 86, 87, 88, 89, 90, 91, 92, 93, 94, 95, 96] (by decide +kernel) (by decide +kernel)
set_option maxRecDepth 20000 in
theorem gX5_goesOn_X5_smelt : GoodIn wsX5_goesOn (wsV RX5 226 RX5 yX5_smelt wsX5_smelt) := goodIn_app (goodIn_of _ (by decide +kernel)) ggX5_goesOn_X5_smelt
set_option maxRecDepth 20000 in
theorem ggX5_goesOn_X5_goesBy : GoodIn wsX5_goesOn wsX5_goesBy := goodIn_r _ [55, 3, 2, 20, 21, 10, 22, 23, 24, 25, 26, 27, 28, 29, 30, 31, 1, 56, 57, 58, 59, 60, 61, 62, 63, 64, 65, 66, 67, 68, 69, 70, 71, 72, 73, 74, 75, 76, 77, 78, 79, 80, 81, 82, 83, 84, 85, 86, 87, 88, 89, 90, 91, 92, 93, 94, 95, 96] (by decide +kernel) (by decide +kernel)
set_option maxRecDepth 20000 in
theorem gX5_goesOn_X5_goesBy : GoodIn wsX5_goesOn (wsV RX5 229 RX5 yX5_goesBy wsX5_goesBy) := goodIn_app (goodIn_of _ (by decide +kernel)) ggX5_goesOn_X5_goesBy
theorem dX5_goesOn_0 : decode cX5_goesOn 0 = .ok (.aload_n 0, 1) := by decide +kernel
theorem dX5_goesOn_1 : decode cX5_goesOn 1 = .ok (.iload_n 1, 1) := by decide +kernel
theorem dX5_goesOn_2 : decode cX5_goesOn 2 = .ok (.invokevirtual 191, 3) := by decide +kernel
theorem dX5_goesOn_5 : decode cX5_goesOn 5 = .ok (.istore_n 2, 1) := by decide +kernel
theorem dX5_goesOn_6 : decode cX5_goesOn 6 = .ok (.iconst 0, 1) := by decide +kernel
theorem dX5_goesOn_7 : decode cX5_goesOn 7 = .ok (.istore_n 3, 1) := by decide +kernel
theorem dX5_goesOn_8 : decode cX5_goesOn 8 = .ok (.iload_n 3, 1) := by decide +kernel
theorem dX5_goesOn_9 : decode cX5_goesOn 9 = .ok (.aload_n 0, 1) := by decide +kernel
theorem dX5_goesOn_10 : decode cX5_goesOn 10 = .ok (.getfield 194, 3) := by decide +kernel
theorem dX5_goesOn_13 : decode cX5_goesOn 13 = .ok (.if_icmp .ge 123, 3) := by decide +kernel
theorem dX5_goesOn_16 : decode cX5_goesOn 16 = .ok (.aload_n 0, 1) := by decide +kernel
theorem dX5_goesOn_17 : decode cX5_goesOn 17 = .ok (.iload_n 3, 1) := by decide +kernel
theorem dX5_goesOn_18 : decode cX5_goesOn 18 = .ok (.invokevirtual 223, 3) := by decide +kernel
theorem dX5_goesOn_21 : decode cX5_goesOn 21 = .ok (.istore 4, 2) := by decide +kernel
theorem dX5_goesOn_23 : decode cX5_goesOn 23 = .ok (.iload 4, 2) := by decide +kernel
theorem dX5_goesOn_25 : decode cX5_goesOn 25 = .ok (.iconst 1, 1) := by decide +kernel
theorem dX5_goesOn_26 : decode cX5_goesOn 26 = .ok (.if_icmp .ne 43, 3) := by decide +kernel
theorem dX5_goesOn_29 : decode cX5_goesOn 29 = .ok (.aload_n 0, 1) := by decide +kernel
theorem dX5_goesOn_30 : decode cX5_goesOn 30 = .ok (.iload_n 3, 1) := by decide +kernel
theorem dX5_goesOn_31 : decode cX5_goesOn 31 = .ok (.aload_n 0, 1) := by decide +kernel
theorem dX5_goesOn_32 : decode cX5_goesOn 32 = .ok (.getfield 13, 3) := by decide +kernel
theorem dX5_goesOn_35 : decode cX5_goesOn 35 = .ok (.aload_n 0, 1) := by decide +kernel
theorem dX5_goesOn_36 : decode cX5_goesOn 36 = .ok (.getfield 51, 3) := by decide +kernel
theorem dX5_goesOn_39 : decode cX5_goesOn 39 = .ok (.iload_n 3, 1) := by decide +kernel
theorem dX5_goesOn_40 : decode cX5_goesOn 40 = .ok (.iaload, 1) := by decide +kernel
theorem dX5_goesOn_41 : decode cX5_goesOn 41 = .ok (.aload_n 0, 1) := by decide +kernel
theorem dX5_goesOn_42 : decode cX5_goesOn 42 = .ok (.getfield 13, 3) := by decide +kernel
theorem dX5_goesOn_45 : decode cX5_goesOn 45 = .ok (.idiv, 1) := by decide +kernel
theorem dX5_goesOn_46 : decode cX5_goesOn 46 = .ok (.imul, 1) := by decide +kernel
theorem dX5_goesOn_47 : decode cX5_goesOn 47 = .ok (.aload_n 0, 1) := by decide +kernel
theorem dX5_goesOn_48 : decode cX5_goesOn 48 = .ok (.getfield 51, 3) := by decide +kernel
theorem dX5_goesOn_51 : decode cX5_goesOn 51 = .ok (.iload_n 3, 1) := by decide +kernel
theorem dX5_goesOn_52 : decode cX5_goesOn 52 = .ok (.iaload, 1) := by decide +kernel
theorem dX5_goesOn_53 : decode cX5_goesOn 53 = .ok (.aload_n 0, 1) := by decide +kernel
theorem dX5_goesOn_54 : decode cX5_goesOn 54 = .ok (.getfield 13, 3) := by decide +kernel
theorem dX5_goesOn_57 : decode cX5_goesOn 57 = .ok (.irem, 1) := by decide +kernel
theorem dX5_goesOn_58 : decode cX5_goesOn 58 = .ok (.iload_n 2, 1) := by decide +kernel
theorem dX5_goesOn_59 : decode cX5_goesOn 59 = .ok (.invokestatic 216, 3) := by decide +kernel
theorem dX5_goesOn_62 : decode cX5_goesOn 62 = .ok (.iadd, 1) := by decide +kernel
theorem dX5_goesOn_63 : decode cX5_goesOn 63 = .ok (.invokevirtual 219, 3) := by decide +kernel
theorem dX5_goesOn_66 : decode cX5_goesOn 66 = .ok (.goto 64, 3) := by decide +kernel
theorem dX5_goesOn_69 : decode cX5_goesOn 69 = .ok (.iload 4, 2) := by decide +kernel
theorem dX5_goesOn_71 : decode cX5_goesOn 71 = .ok (.iconst 2, 1) := by decide +kernel
theorem dX5_goesOn_72 : decode cX5_goesOn 72 = .ok (.if_icmp .ne 36, 3) := by decide +kernel
theorem dX5_goesOn_75 : decode cX5_goesOn 75 = .ok (.aload_n 0, 1) := by decide +kernel
theorem dX5_goesOn_76 : decode cX5_goesOn 76 = .ok (.aload_n 0, 1) := by decide +kernel
theorem dX5_goesOn_77 : decode cX5_goesOn 77 = .ok (.getfield 51, 3) := by decide +kernel
theorem dX5_goesOn_80 : decode cX5_goesOn 80 = .ok (.iload_n 3, 1) := by decide +kernel
theorem dX5_goesOn_81 : decode cX5_goesOn 81 = .ok (.iaload, 1) := by decide +kernel
theorem dX5_goesOn_82 : decode cX5_goesOn 82 = .ok (.invokevirtual 226, 3) := by decide +kernel
theorem dX5_goesOn_85 : decode cX5_goesOn 85 = .ok (.bipush (-9), 2) := by decide +kernel
theorem dX5_goesOn_87 : decode cX5_goesOn 87 = .ok (.if_icmp .eq 21, 3) := by decide +kernel
theorem dX5_goesOn_90 : decode cX5_goesOn 90 = .ok (.aload_n 0, 1) := by decide +kernel
theorem dX5_goesOn_91 : decode cX5_goesOn 91 = .ok (.iload_n 3, 1) := by decide +kernel
theorem dX5_goesOn_92 : decode cX5_goesOn 92 = .ok (.aload_n 0, 1) := by decide +kernel
theorem dX5_goesOn_93 : decode cX5_goesOn 93 = .ok (.aload_n 0, 1) := by decide +kernel
theorem dX5_goesOn_94 : decode cX5_goesOn 94 = .ok (.getfield 51, 3) := by decide +kernel
theorem dX5_goesOn_97 : decode cX5_goesOn 97 = .ok (.iload_n 3, 1) := by decide +kernel
theorem dX5_goesOn_98 : decode cX5_goesOn 98 = .ok (.iaload, 1) := by decide +kernel
theorem dX5_goesOn_99 : decode cX5_goesOn 99 = .ok (.invokevirtual 226, 3) := by decide +kernel
theorem dX5_goesOn_102 : decode cX5_goesOn 102 = .ok (.invokevirtual 229, 3) := by decide +kernel
theorem dX5_goesOn_105 : decode cX5_goesOn 105 = .ok (.goto 25, 3) := by decide +kernel
theorem dX5_goesOn_108 : decode cX5_goesOn 108 = .ok (.iload 4, 2) := by decide +kernel
theorem dX5_goesOn_110 : decode cX5_goesOn 110 = .ok (.iconst 3, 1) := by decide +kernel
theorem dX5_goesOn_111 : decode cX5_goesOn 111 = .ok (.if_icmp .ne 19, 3) := by decide +kernel
theorem dX5_goesOn_114 : decode cX5_goesOn 114 = .ok (.aload_n 0, 1) := by decide +kernel
theorem dX5_goesOn_115 : decode cX5_goesOn 115 = .ok (.iload_n 3, 1) := by decide +kernel
theorem dX5_goesOn_116 : decode cX5_goesOn 116 = .ok (.aload_n 0, 1) := by decide +kernel
theorem dX5_goesOn_117 : decode cX5_goesOn 117 = .ok (.getfield 51, 3) := by decide +kernel
theorem dX5_goesOn_120 : decode cX5_goesOn 120 = .ok (.aload_n 0, 1) := by decide +kernel
theorem dX5_goesOn_121 : decode cX5_goesOn 121 = .ok (.getfield 26, 3) := by decide +kernel
theorem dX5_goesOn_124 : decode cX5_goesOn 124 = .ok (.iload_n 3, 1) := by decide +kernel
theorem dX5_goesOn_125 : decode cX5_goesOn 125 = .ok (.iaload, 1) := by decide +kernel
theorem dX5_goesOn_126 : decode cX5_goesOn 126 = .ok (.iaload, 1) := by decide +kernel
theorem dX5_goesOn_127 : decode cX5_goesOn 127 = .ok (.invokevirtual 229, 3) := by decide +kernel
theorem dX5_goesOn_130 : decode cX5_goesOn 130 = .ok (.iinc 3 1, 3) := by decide +kernel
theorem dX5_goesOn_133 : decode cX5_goesOn 133 = .ok (.goto (-125), 3) := by decide +kernel
theorem dX5_goesOn_136 : decode cX5_goesOn 136 = .ok (.iconst 0, 1) := by decide +kernel
theorem dX5_goesOn_137 : decode cX5_goesOn 137 = .ok (.istore_n 3, 1) := by decide +kernel
theorem dX5_goesOn_138 : decode cX5_goesOn 138 = .ok (.iconst 0, 1) := by decide +kernel
theorem dX5_goesOn_139 : decode cX5_goesOn 139 = .ok (.istore 4, 2) := by decide +kernel
theorem dX5_goesOn_141 : decode cX5_goesOn 141 = .ok (.iload 4, 2) := by decide +kernel
theorem dX5_goesOn_143 : decode cX5_goesOn 143 = .ok (.aload_n 0, 1) := by decide +kernel
theorem dX5_goesOn_144 : decode cX5_goesOn 144 = .ok (.getfield 194, 3) := by decide +kernel
theorem dX5_goesOn_147 : decode cX5_goesOn 147 = .ok (.if_icmp .ge 62, 3) := by decide +kernel
theorem dX5_goesOn_150 : decode cX5_goesOn 150 = .ok (.aload_n 0, 1) := by decide +kernel
theorem dX5_goesOn_151 : decode cX5_goesOn 151 = .ok (.getfield 201, 3) := by decide +kernel
theorem dX5_goesOn_154 : decode cX5_goesOn 154 = .ok (.aload_n 0, 1) := by decide +kernel
theorem dX5_goesOn_155 : decode cX5_goesOn 155 = .ok (.getfield 51, 3) := by decide +kernel
theorem dX5_goesOn_158 : decode cX5_goesOn 158 = .ok (.iload 4, 2) := by decide +kernel
theorem dX5_goesOn_160 : decode cX5_goesOn 160 = .ok (.iaload, 1) := by decide +kernel
theorem dX5_goesOn_161 : decode cX5_goesOn 161 = .ok (.ishr, 1) := by decide +kernel
theorem dX5_goesOn_162 : decode cX5_goesOn 162 = .ok (.iconst 1, 1) := by decide +kernel
theorem dX5_goesOn_163 : decode cX5_goesOn 163 = .ok (.iand, 1) := by decide +kernel
theorem dX5_goesOn_164 : decode cX5_goesOn 164 = .ok (.istore 5, 2) := by decide +kernel
theorem dX5_goesOn_166 : decode cX5_goesOn 166 = .ok (.aload_n 0, 1) := by decide +kernel
theorem dX5_goesOn_167 : decode cX5_goesOn 167 = .ok (.getfield 54, 3) := by decide +kernel
theorem dX5_goesOn_170 : decode cX5_goesOn 170 = .ok (.iload 4, 2) := by decide +kernel
theorem dX5_goesOn_172 : decode cX5_goesOn 172 = .ok (.dup2, 1) := by decide +kernel
theorem dX5_goesOn_173 : decode cX5_goesOn 173 = .ok (.iaload, 1) := by decide +kernel
theorem dX5_goesOn_174 : decode cX5_goesOn 174 = .ok (.iload 5, 2) := by decide +kernel
theorem dX5_goesOn_176 : decode cX5_goesOn 176 = .ok (.iadd, 1) := by decide +kernel
theorem dX5_goesOn_177 : decode cX5_goesOn 177 = .ok (.iastore, 1) := by decide +kernel
theorem dX5_goesOn_178 : decode cX5_goesOn 178 = .ok (.iload_n 3, 1) := by decide +kernel
theorem dX5_goesOn_179 : decode cX5_goesOn 179 = .ok (.iload 5, 2) := by decide +kernel
theorem dX5_goesOn_181 : decode cX5_goesOn 181 = .ok (.iadd, 1) := by decide +kernel
theorem dX5_goesOn_182 : decode cX5_goesOn 182 = .ok (.istore_n 3, 1) := by decide +kernel
theorem dX5_goesOn_183 : decode cX5_goesOn 183 = .ok (.aload_n 0, 1) := by decide +kernel
theorem dX5_goesOn_184 : decode cX5_goesOn 184 = .ok (.dup, 1) := by decide +kernel
theorem dX5_goesOn_185 : decode cX5_goesOn 185 = .ok (.getfield 201, 3) := by decide +kernel
theorem dX5_goesOn_188 : decode cX5_goesOn 188 = .ok (.iconst 1, 1) := by decide +kernel
theorem dX5_goesOn_189 : decode cX5_goesOn 189 = .ok (.aload_n 0, 1) := by decide +kernel
theorem dX5_goesOn_190 : decode cX5_goesOn 190 = .ok (.getfield 51, 3) := by decide +kernel
theorem dX5_goesOn_193 : decode cX5_goesOn 193 = .ok (.iload 4, 2) := by decide +kernel
theorem dX5_goesOn_195 : decode cX5_goesOn 195 = .ok (.iaload, 1) := by decide +kernel
theorem dX5_goesOn_196 : decode cX5_goesOn 196 = .ok (.ishl, 1) := by decide +kernel
theorem dX5_goesOn_197 : decode cX5_goesOn 197 = .ok (.iconst (-1), 1) := by decide +kernel
theorem dX5_goesOn_198 : decode cX5_goesOn 198 = .ok (.ixor, 1) := by decide +kernel
theorem dX5_goesOn_199 : decode cX5_goesOn 199 = .ok (.iand, 1) := by decide +kernel
theorem dX5_goesOn_200 : decode cX5_goesOn 200 = .ok (.putfield 201, 3) := by decide +kernel
theorem dX5_goesOn_203 : decode cX5_goesOn 203 = .ok (.iinc 4 1, 3) := by decide +kernel
theorem dX5_goesOn_206 : decode cX5_goesOn 206 = .ok (.goto (-65), 3) := by decide +kernel
theorem dX5_goesOn_209 : decode cX5_goesOn 209 = .ok (.iload_n 3, 1) := by decide +kernel
theorem dX5_goesOn_210 : decode cX5_goesOn 210 = .ok (.ireturn, 1) := by decide +kernel
set_option maxRecDepth 20000 in
theorem ggX5_passes_X5_stands : GoodIn wsX5_passes wsX5_stands := goodIn_r _ [11, 3, 12, 4, 1, 6, 2, 5, 13, 14, 15, 10, 16, 17, 18, 19, 20, 21, 65, 66, 67, 68, 69, 70, 71, 72, 73, 74, 75, 76, 77, 78, 79, 80, 81, 82, 83, 84, 85, 86, 87, 88, 89, 90, 91, 92, 93, 94, 95, 96, 97, 98, 99, 100, 101, 102, 103, 104, 105] (by decide +kernel) (by decide +kernel)
set_option maxRecDepth 20000 in
theorem gX5_passes_X5_stands : GoodIn wsX5_passes (wsV RX5 232 RX5 yX5_stands wsX5_stands) := goodIn_app (goodIn_of _ (by decide +kernel)) ggX5_passes_X5_stands
set_option maxRecDepth 20000 in
theorem ggX5_passes_X5_goesOn : GoodIn wsX5_passes wsX5_goesOn := goodIn_r _ [25, 12, 17, 4, 26, 6, 5, 27, 28, 29, 10, 30, 31, 32, 33, 34, 35, 36, 3, 37, 38, 39, 40, 41, 42, 43, 44, 45, 46, 47, 48, 2, 49, 50, 51, 52, 53, 13, 14, 15, 16, 18, 19, 20, 21, 54, 55, 56, 57, 58, 59, 60, 61, 62, 63, 64, 65, 66, 67, 68, 69, 70, 71, 72, 73, 74, 75, 76, 77, 78, 79, 80, 81, 82, 83, 84, 85, 86, 87, 88, 89, 90, 91, 92, 93, 94, 95, 96, 97, 98, 99, 100, 101, 102, 103, 104, 105] (by decide +kernel) (by decide +kernel)
set_option maxRecDepth 20000 in
theorem gX5_passes_X5_goesOn : GoodIn wsX5_passes (wsV RX5 235 RX5 yX5_goesOn wsX5_goesOn) := goodIn_app (goodIn_of _ (by decide +kernel)) ggX5_passes_X5_goesOn
theorem dX5_passes_0 : decode cX5_passes 0 = .ok (.aload_n 0, 1) := by decide +kernel
theorem dX5_passes_1 : decode cX5_passes 1 = .ok (.iconst 0, 1) := by decide +kernel
theorem dX5_passes_2 : decode cX5_passes 2 = .ok (.iconst 0, 1) := by decide +kernel
theorem dX5_passes_3 : decode cX5_passes 3 = .ok (.invokevirtual 232, 3) := by decide +kernel
theorem dX5_passes_6 : decode cX5_passes 6 = .ok (.aload_n 0, 1) := by decide +kernel
theorem dX5_passes_7 : decode cX5_passes 7 = .ok (.aload_n 0, 1) := by decide +kernel
theorem dX5_passes_8 : decode cX5_passes 8 = .ok (.getfield 29, 3) := by decide +kernel
theorem dX5_passes_11 : decode cX5_passes 11 = .ok (.iconst 1, 1) := by decide +kernel
theorem dX5_passes_12 : decode cX5_passes 12 = .ok (.iaload, 1) := by decide +kernel
theorem dX5_passes_13 : decode cX5_passes 13 = .ok (.putfield 204, 3) := by decide +kernel
theorem dX5_passes_16 : decode cX5_passes 16 = .ok (.iconst 0, 1) := by decide +kernel
theorem dX5_passes_17 : decode cX5_passes 17 = .ok (.istore_n 2, 1) := by decide +kernel
theorem dX5_passes_18 : decode cX5_passes 18 = .ok (.iconst 0, 1) := by decide +kernel
theorem dX5_passes_19 : decode cX5_passes 19 = .ok (.istore_n 3, 1) := by decide +kernel
theorem dX5_passes_20 : decode cX5_passes 20 = .ok (.iload_n 3, 1) := by decide +kernel
theorem dX5_passes_21 : decode cX5_passes 21 = .ok (.iload_n 1, 1) := by decide +kernel
theorem dX5_passes_22 : decode cX5_passes 22 = .ok (.if_icmp .ge 28, 3) := by decide +kernel
theorem dX5_passes_25 : decode cX5_passes 25 = .ok (.aload_n 0, 1) := by decide +kernel
theorem dX5_passes_26 : decode cX5_passes 26 = .ok (.aload_n 0, 1) := by decide +kernel
theorem dX5_passes_27 : decode cX5_passes 27 = .ok (.getfield 29, 3) := by decide +kernel
theorem dX5_passes_30 : decode cX5_passes 30 = .ok (.iconst 0, 1) := by decide +kernel
theorem dX5_passes_31 : decode cX5_passes 31 = .ok (.iaload, 1) := by decide +kernel
theorem dX5_passes_32 : decode cX5_passes 32 = .ok (.iload_n 3, 1) := by decide +kernel
theorem dX5_passes_33 : decode cX5_passes 33 = .ok (.iadd, 1) := by decide +kernel
theorem dX5_passes_34 : decode cX5_passes 34 = .ok (.invokevirtual 235, 3) := by decide +kernel
theorem dX5_passes_37 : decode cX5_passes 37 = .ok (.istore 4, 2) := by decide +kernel
theorem dX5_passes_39 : decode cX5_passes 39 = .ok (.iload_n 2, 1) := by decide +kernel
theorem dX5_passes_40 : decode cX5_passes 40 = .ok (.iload 4, 2) := by decide +kernel
theorem dX5_passes_42 : decode cX5_passes 42 = .ok (.iadd, 1) := by decide +kernel
theorem dX5_passes_43 : decode cX5_passes 43 = .ok (.istore_n 2, 1) := by decide +kernel
theorem dX5_passes_44 : decode cX5_passes 44 = .ok (.iinc 3 1, 3) := by decide +kernel
theorem dX5_passes_47 : decode cX5_passes 47 = .ok (.goto (-27), 3) := by decide +kernel
theorem dX5_passes_50 : decode cX5_passes 50 = .ok (.iconst 0, 1) := by decide +kernel
theorem dX5_passes_51 : decode cX5_passes 51 = .ok (.istore_n 3, 1) := by decide +kernel
theorem dX5_passes_52 : decode cX5_passes 52 = .ok (.iload_n 3, 1) := by decide +kernel
theorem dX5_passes_53 : decode cX5_passes 53 = .ok (.aload_n 0, 1) := by decide +kernel
theorem dX5_passes_54 : decode cX5_passes 54 = .ok (.getfield 78, 3) := by decide +kernel
theorem dX5_passes_57 : decode cX5_passes 57 = .ok (.if_icmp .ge 41, 3) := by decide +kernel
theorem dX5_passes_60 : decode cX5_passes 60 = .ok (.aload_n 0, 1) := by decide +kernel
theorem dX5_passes_61 : decode cX5_passes 61 = .ok (.getfield 29, 3) := by decide +kernel
theorem dX5_passes_64 : decode cX5_passes 64 = .ok (.iconst 4, 1) := by decide +kernel
theorem dX5_passes_65 : decode cX5_passes 65 = .ok (.iload_n 3, 1) := by decide +kernel
theorem dX5_passes_66 : decode cX5_passes 66 = .ok (.iadd, 1) := by decide +kernel
theorem dX5_passes_67 : decode cX5_passes 67 = .ok (.aload_n 0, 1) := by decide +kernel
theorem dX5_passes_68 : decode cX5_passes 68 = .ok (.getfield 51, 3) := by decide +kernel
theorem dX5_passes_71 : decode cX5_passes 71 = .ok (.iload_n 3, 1) := by decide +kernel
theorem dX5_passes_72 : decode cX5_passes 72 = .ok (.iaload, 1) := by decide +kernel
theorem dX5_passes_73 : decode cX5_passes 73 = .ok (.iastore, 1) := by decide +kernel
theorem dX5_passes_74 : decode cX5_passes 74 = .ok (.aload_n 0, 1) := by decide +kernel
theorem dX5_passes_75 : decode cX5_passes 75 = .ok (.getfield 29, 3) := by decide +kernel
theorem dX5_passes_78 : decode cX5_passes 78 = .ok (.bipush 9, 2) := by decide +kernel
theorem dX5_passes_80 : decode cX5_passes 80 = .ok (.iload_n 3, 1) := by decide +kernel
theorem dX5_passes_81 : decode cX5_passes 81 = .ok (.iadd, 1) := by decide +kernel
theorem dX5_passes_82 : decode cX5_passes 82 = .ok (.dup2, 1) := by decide +kernel
theorem dX5_passes_83 : decode cX5_passes 83 = .ok (.iaload, 1) := by decide +kernel
theorem dX5_passes_84 : decode cX5_passes 84 = .ok (.aload_n 0, 1) := by decide +kernel
theorem dX5_passes_85 : decode cX5_passes 85 = .ok (.getfield 54, 3) := by decide +kernel
theorem dX5_passes_88 : decode cX5_passes 88 = .ok (.iload_n 3, 1) := by decide +kernel
theorem dX5_passes_89 : decode cX5_passes 89 = .ok (.iaload, 1) := by decide +kernel
theorem dX5_passes_90 : decode cX5_passes 90 = .ok (.iadd, 1) := by decide +kernel
theorem dX5_passes_91 : decode cX5_passes 91 = .ok (.iastore, 1) := by decide +kernel
theorem dX5_passes_92 : decode cX5_passes 92 = .ok (.iinc 3 1, 3) := by decide +kernel
theorem dX5_passes_95 : decode cX5_passes 95 = .ok (.goto (-43), 3) := by decide +kernel
theorem dX5_passes_98 : decode cX5_passes 98 = .ok (.aload_n 0, 1) := by decide +kernel
theorem dX5_passes_99 : decode cX5_passes 99 = .ok (.getfield 29, 3) := by decide +kernel
theorem dX5_passes_102 : decode cX5_passes 102 = .ok (.iconst 3, 1) := by decide +kernel
theorem dX5_passes_103 : decode cX5_passes 103 = .ok (.aload_n 0, 1) := by decide +kernel
theorem dX5_passes_104 : decode cX5_passes 104 = .ok (.getfield 201, 3) := by decide +kernel
theorem dX5_passes_107 : decode cX5_passes 107 = .ok (.iastore, 1) := by decide +kernel
theorem dX5_passes_108 : decode cX5_passes 108 = .ok (.aload_n 0, 1) := by decide +kernel
theorem dX5_passes_109 : decode cX5_passes 109 = .ok (.getfield 29, 3) := by decide +kernel
theorem dX5_passes_112 : decode cX5_passes 112 = .ok (.iconst 0, 1) := by decide +kernel
theorem dX5_passes_113 : decode cX5_passes 113 = .ok (.dup2, 1) := by decide +kernel
theorem dX5_passes_114 : decode cX5_passes 114 = .ok (.iaload, 1) := by decide +kernel
theorem dX5_passes_115 : decode cX5_passes 115 = .ok (.iload_n 1, 1) := by decide +kernel
theorem dX5_passes_116 : decode cX5_passes 116 = .ok (.iadd, 1) := by decide +kernel
theorem dX5_passes_117 : decode cX5_passes 117 = .ok (.iastore, 1) := by decide +kernel
theorem dX5_passes_118 : decode cX5_passes 118 = .ok (.iload_n 2, 1) := by decide +kernel
theorem dX5_passes_119 : decode cX5_passes 119 = .ok (.ireturn, 1) := by decide +kernel
set_option maxRecDepth 20000 in
theorem ggX5_minutes_X5_in : GoodIn wsX5_minutes wsX5_in := goodIn_r _ [5] (by decide +kernel) (by decide +kernel)
set_option maxRecDepth 20000 in
theorem gX5_minutes_X5_in : GoodIn wsX5_minutes (va_wsS RX5 74 yX5_in wsX5_in) := goodIn_app (goodIn_of _ (by decide +kernel)) ggX5_minutes_X5_in
set_option maxRecDepth 20000 in
theorem ggX5_minutes_X5_passes : GoodIn wsX5_minutes wsX5_passes := goodIn_r _ [9, 1, 10, 11, 12, 13, 14, 15, 16, 17, 4, 18, 19, 20, 21, 22, 23, 24, 25, 26, 27, 28, 29, 30, 31, 32, 33, 34, 35, 36, 37, 38, 39, 40, 41, 42, 43, 44, 45, 46, 47, 48, 49, 50, 51, 52, 53, 54, 55, 56, 57, 58, 59, 60, 61, 62, 63, 64, 65, 66, 67, 68, 69, 70, 71, 72, 73, 74, 75, 76, 77, 78, 79, 80, 81, 82, 83, 84, 85, 86, 87, 88, 89, 90, 91, 92, 93, 94, 95, 96, 97, 98, 99, 100, 101, 102, 103, 104, 105, 106, 107, 108, 109, 110, 111, 112] (by decide +kernel) (by decide +kernel)
set_option maxRecDepth 20000 in
theorem gX5_minutes_X5_passes : GoodIn wsX5_minutes (wsV RX5 238 RX5 yX5_passes wsX5_passes) := goodIn_app (goodIn_of _ (by decide +kernel)) ggX5_minutes_X5_passes
theorem dX5_minutes_0 : decode cX5_minutes 0 = .ok (.iload_n 1, 1) := by decide +kernel
theorem dX5_minutes_1 : decode cX5_minutes 1 = .ok (.iconst 1, 1) := by decide +kernel
theorem dX5_minutes_2 : decode cX5_minutes 2 = .ok (.bipush 40, 2) := by decide +kernel
theorem dX5_minutes_4 : decode cX5_minutes 4 = .ok (.invokestatic 74, 3) := by decide +kernel
theorem dX5_minutes_7 : decode cX5_minutes 7 = .ok (.ifCond .ne 5, 3) := by decide +kernel
theorem dX5_minutes_10 : decode cX5_minutes 10 = .ok (.iconst (-1), 1) := by decide +kernel
theorem dX5_minutes_11 : decode cX5_minutes 11 = .ok (.ireturn, 1) := by decide +kernel
theorem dX5_minutes_12 : decode cX5_minutes 12 = .ok (.aload_n 0, 1) := by decide +kernel
theorem dX5_minutes_13 : decode cX5_minutes 13 = .ok (.getfield 29, 3) := by decide +kernel
theorem dX5_minutes_16 : decode cX5_minutes 16 = .ok (.iconst 0, 1) := by decide +kernel
theorem dX5_minutes_17 : decode cX5_minutes 17 = .ok (.iaload, 1) := by decide +kernel
theorem dX5_minutes_18 : decode cX5_minutes 18 = .ok (.iload_n 1, 1) := by decide +kernel
theorem dX5_minutes_19 : decode cX5_minutes 19 = .ok (.iadd, 1) := by decide +kernel
theorem dX5_minutes_20 : decode cX5_minutes 20 = .ok (.sipush 199, 3) := by decide +kernel
theorem dX5_minutes_23 : decode cX5_minutes 23 = .ok (.if_icmp .le 8, 3) := by decide +kernel
theorem dX5_minutes_26 : decode cX5_minutes 26 = .ok (.bipush (-2), 2) := by decide +kernel
theorem dX5_minutes_28 : decode cX5_minutes 28 = .ok (.goto 8, 3) := by decide +kernel
theorem dX5_minutes_31 : decode cX5_minutes 31 = .ok (.aload_n 0, 1) := by decide +kernel
theorem dX5_minutes_32 : decode cX5_minutes 32 = .ok (.iload_n 1, 1) := by decide +kernel
theorem dX5_minutes_33 : decode cX5_minutes 33 = .ok (.invokevirtual 238, 3) := by decide +kernel
theorem dX5_minutes_36 : decode cX5_minutes 36 = .ok (.ireturn, 1) := by decide +kernel
set_option maxRecDepth 20000 in
theorem ggX5_lying_X5_cells : GoodIn wsX5_lying wsX5_cells := goodIn_r _ [6, 7, 8, 9, 10, 11, 12, 13, 14, 15, 16, 17, 18, 19, 20, 21, 22, 23, 24, 25, 26, 27, 28, 29, 30, 31, 32, 33, 34, 35, 36, 37, 38, 39, 40, 41, 42, 43, 44, 45, 46, 47, 48, 49] (by decide +kernel) (by decide +kernel)
set_option maxRecDepth 20000 in
theorem gX5_lying_X5_cells : GoodIn wsX5_lying (wsV RX5 70 RX5 yX5_cells wsX5_cells) := goodIn_app (goodIn_of _ (by decide +kernel)) ggX5_lying_X5_cells
theorem dX5_lying_0 : decode cX5_lying 0 = .ok (.iconst 0, 1) := by decide +kernel
theorem dX5_lying_1 : decode cX5_lying 1 = .ok (.istore_n 1, 1) := by decide +kernel
theorem dX5_lying_2 : decode cX5_lying 2 = .ok (.iconst 0, 1) := by decide +kernel
theorem dX5_lying_3 : decode cX5_lying 3 = .ok (.istore_n 2, 1) := by decide +kernel
theorem dX5_lying_4 : decode cX5_lying 4 = .ok (.iload_n 2, 1) := by decide +kernel
theorem dX5_lying_5 : decode cX5_lying 5 = .ok (.aload_n 0, 1) := by decide +kernel
theorem dX5_lying_6 : decode cX5_lying 6 = .ok (.invokevirtual 70, 3) := by decide +kernel
theorem dX5_lying_9 : decode cX5_lying 9 = .ok (.if_icmp .ge 22, 3) := by decide +kernel
theorem dX5_lying_12 : decode cX5_lying 12 = .ok (.iload_n 1, 1) := by decide +kernel
theorem dX5_lying_13 : decode cX5_lying 13 = .ok (.aload_n 0, 1) := by decide +kernel
theorem dX5_lying_14 : decode cX5_lying 14 = .ok (.getfield 29, 3) := by decide +kernel
theorem dX5_lying_17 : decode cX5_lying 17 = .ok (.iconst 3, 1) := by decide +kernel
theorem dX5_lying_18 : decode cX5_lying 18 = .ok (.iaload, 1) := by decide +kernel
theorem dX5_lying_19 : decode cX5_lying 19 = .ok (.iload_n 2, 1) := by decide +kernel
theorem dX5_lying_20 : decode cX5_lying 20 = .ok (.ishr, 1) := by decide +kernel
theorem dX5_lying_21 : decode cX5_lying 21 = .ok (.iconst 1, 1) := by decide +kernel
theorem dX5_lying_22 : decode cX5_lying 22 = .ok (.iand, 1) := by decide +kernel
theorem dX5_lying_23 : decode cX5_lying 23 = .ok (.iadd, 1) := by decide +kernel
theorem dX5_lying_24 : decode cX5_lying 24 = .ok (.istore_n 1, 1) := by decide +kernel
theorem dX5_lying_25 : decode cX5_lying 25 = .ok (.iinc 2 1, 3) := by decide +kernel
theorem dX5_lying_28 : decode cX5_lying 28 = .ok (.goto (-24), 3) := by decide +kernel
theorem dX5_lying_31 : decode cX5_lying 31 = .ok (.iload_n 1, 1) := by decide +kernel
theorem dX5_lying_32 : decode cX5_lying 32 = .ok (.ireturn, 1) := by decide +kernel
set_option maxRecDepth 20000 in
theorem ggX5_drop_X5_isCell : GoodIn wsX5_drop wsX5_isCell := goodIn_r _ [6, 7, 8, 9, 5, 10, 11, 12, 13, 14, 15, 28, 29, 30, 31, 32, 33, 34, 35, 36, 37, 38, 39, 40, 41, 42, 43, 44, 45, 46, 47, 48, 49, 50, 51, 52, 53, 54, 55, 56, 57, 58, 59, 60, 61, 62, 63, 64, 65, 66, 67, 68] (by decide +kernel) (by decide +kernel)
set_option maxRecDepth 20000 in
theorem gX5_drop_X5_isCell : GoodIn wsX5_drop (wsV RX5 185 RX5 yX5_isCell wsX5_isCell) := goodIn_app (goodIn_of _ (by decide +kernel)) ggX5_drop_X5_isCell
set_option maxRecDepth 20000 in
theorem ggX5_drop_X5_has : GoodIn wsX5_drop wsX5_has := goodIn_r _ [18] (by decide +kernel) (by decide +kernel)
set_option maxRecDepth 20000 in
theorem gX5_drop_X5_has : GoodIn wsX5_drop (va_wsS RX5 197 yX5_has wsX5_has) := goodIn_app (goodIn_of _ (by decide +kernel)) ggX5_drop_X5_has
set_option maxRecDepth 20000 in
theorem ggX5_drop_X5_catAt : GoodIn wsX5_drop wsX5_catAt := goodIn_r _ [22, 23, 1, 28, 29, 30, 31, 32, 33, 34, 35, 36, 37, 38, 39, 40, 41, 42, 43, 44, 45, 46, 47, 48, 49, 50, 51, 52, 53, 54, 55, 56, 57, 58, 59, 60, 61, 62, 63, 64, 65, 66, 67, 68] (by decide +kernel) (by decide +kernel)
set_option maxRecDepth 20000 in
theorem gX5_drop_X5_catAt : GoodIn wsX5_drop (wsV RX5 188 RX5 yX5_catAt wsX5_catAt) := goodIn_app (goodIn_of _ (by decide +kernel)) ggX5_drop_X5_catAt
set_option maxRecDepth 20000 in
theorem ggX5_drop_X5_lying : GoodIn wsX5_drop wsX5_lying := goodIn_r _ [27, 1, 7, 8, 9, 5, 10, 11, 12, 28, 29, 30, 31, 32, 33, 34, 35, 36, 37, 38, 39, 40, 41, 42, 43, 44, 45, 46, 47, 48, 49, 50, 51, 52, 53, 54, 55, 56, 57, 58, 59, 60, 61, 62, 63, 64, 65, 66, 67, 68] (by decide +kernel) (by decide +kernel)
set_option maxRecDepth 20000 in
theorem gX5_drop_X5_lying : GoodIn wsX5_drop (wsV RX5 241 RX5 yX5_lying wsX5_lying) := goodIn_app (goodIn_of _ (by decide +kernel)) ggX5_drop_X5_lying
theorem dX5_drop_0 : decode cX5_drop 0 = .ok (.aload_n 0, 1) := by decide +kernel
theorem dX5_drop_1 : decode cX5_drop 1 = .ok (.iload_n 1, 1) := by decide +kernel
theorem dX5_drop_2 : decode cX5_drop 2 = .ok (.invokevirtual 185, 3) := by decide +kernel
theorem dX5_drop_5 : decode cX5_drop 5 = .ok (.ifCond .ne 5, 3) := by decide +kernel
theorem dX5_drop_8 : decode cX5_drop 8 = .ok (.iconst (-1), 1) := by decide +kernel
theorem dX5_drop_9 : decode cX5_drop 9 = .ok (.ireturn, 1) := by decide +kernel
theorem dX5_drop_10 : decode cX5_drop 10 = .ok (.aload_n 0, 1) := by decide +kernel
theorem dX5_drop_11 : decode cX5_drop 11 = .ok (.getfield 29, 3) := by decide +kernel
theorem dX5_drop_14 : decode cX5_drop 14 = .ok (.iconst 3, 1) := by decide +kernel
theorem dX5_drop_15 : decode cX5_drop 15 = .ok (.iaload, 1) := by decide +kernel
theorem dX5_drop_16 : decode cX5_drop 16 = .ok (.iload_n 1, 1) := by decide +kernel
theorem dX5_drop_17 : decode cX5_drop 17 = .ok (.invokestatic 197, 3) := by decide +kernel
theorem dX5_drop_20 : decode cX5_drop 20 = .ok (.ifCond .ne 13, 3) := by decide +kernel
theorem dX5_drop_23 : decode cX5_drop 23 = .ok (.aload_n 0, 1) := by decide +kernel
theorem dX5_drop_24 : decode cX5_drop 24 = .ok (.iload_n 1, 1) := by decide +kernel
theorem dX5_drop_25 : decode cX5_drop 25 = .ok (.invokevirtual 188, 3) := by decide +kernel
theorem dX5_drop_28 : decode cX5_drop 28 = .ok (.bipush (-9), 2) := by decide +kernel
theorem dX5_drop_30 : decode cX5_drop 30 = .ok (.if_icmp .eq 6, 3) := by decide +kernel
theorem dX5_drop_33 : decode cX5_drop 33 = .ok (.bipush (-2), 2) := by decide +kernel
theorem dX5_drop_35 : decode cX5_drop 35 = .ok (.ireturn, 1) := by decide +kernel
theorem dX5_drop_36 : decode cX5_drop 36 = .ok (.aload_n 0, 1) := by decide +kernel
theorem dX5_drop_37 : decode cX5_drop 37 = .ok (.invokevirtual 241, 3) := by decide +kernel
theorem dX5_drop_40 : decode cX5_drop 40 = .ok (.iconst 4, 1) := by decide +kernel
theorem dX5_drop_41 : decode cX5_drop 41 = .ok (.if_icmp .ne 6, 3) := by decide +kernel
theorem dX5_drop_44 : decode cX5_drop 44 = .ok (.bipush (-3), 2) := by decide +kernel
theorem dX5_drop_46 : decode cX5_drop 46 = .ok (.ireturn, 1) := by decide +kernel
theorem dX5_drop_47 : decode cX5_drop 47 = .ok (.aload_n 0, 1) := by decide +kernel
theorem dX5_drop_48 : decode cX5_drop 48 = .ok (.getfield 29, 3) := by decide +kernel
theorem dX5_drop_51 : decode cX5_drop 51 = .ok (.iconst 3, 1) := by decide +kernel
theorem dX5_drop_52 : decode cX5_drop 52 = .ok (.dup2, 1) := by decide +kernel
theorem dX5_drop_53 : decode cX5_drop 53 = .ok (.iaload, 1) := by decide +kernel
theorem dX5_drop_54 : decode cX5_drop 54 = .ok (.iconst 1, 1) := by decide +kernel
theorem dX5_drop_55 : decode cX5_drop 55 = .ok (.iload_n 1, 1) := by decide +kernel
theorem dX5_drop_56 : decode cX5_drop 56 = .ok (.ishl, 1) := by decide +kernel
theorem dX5_drop_57 : decode cX5_drop 57 = .ok (.ior, 1) := by decide +kernel
theorem dX5_drop_58 : decode cX5_drop 58 = .ok (.iastore, 1) := by decide +kernel
theorem dX5_drop_59 : decode cX5_drop 59 = .ok (.aload_n 0, 1) := by decide +kernel
theorem dX5_drop_60 : decode cX5_drop 60 = .ok (.invokevirtual 241, 3) := by decide +kernel
theorem dX5_drop_63 : decode cX5_drop 63 = .ok (.ireturn, 1) := by decide +kernel
set_option maxRecDepth 20000 in
theorem ggX5_enter_X5_in : GoodIn wsX5_enter wsX5_in := goodIn_r _ [7] (by decide +kernel) (by decide +kernel)
set_option maxRecDepth 20000 in
theorem gX5_enter_X5_in : GoodIn wsX5_enter (va_wsS RX5 74 yX5_in wsX5_in) := goodIn_app (goodIn_of _ (by decide +kernel)) ggX5_enter_X5_in
set_option maxRecDepth 20000 in
theorem ggX5_enter_X5_catAt : GoodIn wsX5_enter wsX5_catAt := goodIn_r _ [11, 12, 2, 76, 77, 78, 79, 80, 81, 82, 83, 84, 85, 86, 87, 88, 89, 90, 91, 92, 93, 94, 95, 96, 97, 98, 99, 100, 101, 102, 103, 104, 105, 106, 107, 108, 109, 110, 111, 112, 113, 114, 115, 116] (by decide +kernel) (by decide +kernel)
set_option maxRecDepth 20000 in
theorem gX5_enter_X5_catAt : GoodIn wsX5_enter (wsV RX5 188 RX5 yX5_catAt wsX5_catAt) := goodIn_app (goodIn_of _ (by decide +kernel)) ggX5_enter_X5_catAt
set_option maxRecDepth 20000 in
theorem ggX5_enter_X5_passes : GoodIn wsX5_enter wsX5_passes := goodIn_r _ [16, 2, 17, 12, 18, 19, 20, 21, 22, 23, 6, 24, 25, 26, 27, 28, 29, 3, 1, 30, 31, 32, 33, 34, 35, 36, 37, 38, 39, 40, 41, 42, 43, 44, 45, 46, 47, 48, 49, 50, 51, 52, 53, 54, 55, 56, 57, 58, 59, 60, 61, 62, 63, 64, 65, 66, 67, 68, 69, 70, 71, 72, 73, 74, 75, 76, 77, 78, 79, 80, 81, 82, 83, 84, 85, 86, 87, 88, 89, 90, 91, 92, 93, 94, 95, 96, 97, 98, 99, 100, 101, 102, 103, 104, 105, 106, 107, 108, 109, 110, 111, 112, 113, 114, 115, 116] (by decide +kernel) (by decide +kernel)
set_option maxRecDepth 20000 in
theorem gX5_enter_X5_passes : GoodIn wsX5_enter (wsV RX5 238 RX5 yX5_passes wsX5_passes) := goodIn_app (goodIn_of _ (by decide +kernel)) ggX5_enter_X5_passes
theorem dX5_enter_0 : decode cX5_enter 0 = .ok (.iload_n 1, 1) := by decide +kernel
theorem dX5_enter_1 : decode cX5_enter 1 = .ok (.iconst 0, 1) := by decide +kernel
theorem dX5_enter_2 : decode cX5_enter 2 = .ok (.aload_n 0, 1) := by decide +kernel
theorem dX5_enter_3 : decode cX5_enter 3 = .ok (.getfield 7, 3) := by decide +kernel
theorem dX5_enter_6 : decode cX5_enter 6 = .ok (.iconst 1, 1) := by decide +kernel
theorem dX5_enter_7 : decode cX5_enter 7 = .ok (.isub, 1) := by decide +kernel
theorem dX5_enter_8 : decode cX5_enter 8 = .ok (.invokestatic 74, 3) := by decide +kernel
theorem dX5_enter_11 : decode cX5_enter 11 = .ok (.ifCond .ne 5, 3) := by decide +kernel
theorem dX5_enter_14 : decode cX5_enter 14 = .ok (.iconst (-1), 1) := by decide +kernel
theorem dX5_enter_15 : decode cX5_enter 15 = .ok (.ireturn, 1) := by decide +kernel
theorem dX5_enter_16 : decode cX5_enter 16 = .ok (.aload_n 0, 1) := by decide +kernel
theorem dX5_enter_17 : decode cX5_enter 17 = .ok (.getfield 29, 3) := by decide +kernel
theorem dX5_enter_20 : decode cX5_enter 20 = .ok (.iconst 1, 1) := by decide +kernel
theorem dX5_enter_21 : decode cX5_enter 21 = .ok (.iaload, 1) := by decide +kernel
theorem dX5_enter_22 : decode cX5_enter 22 = .ok (.bipush (-9), 2) := by decide +kernel
theorem dX5_enter_24 : decode cX5_enter 24 = .ok (.if_icmp .ne 30, 3) := by decide +kernel
theorem dX5_enter_27 : decode cX5_enter 27 = .ok (.aload_n 0, 1) := by decide +kernel
theorem dX5_enter_28 : decode cX5_enter 28 = .ok (.aload_n 0, 1) := by decide +kernel
theorem dX5_enter_29 : decode cX5_enter 29 = .ok (.getfield 13, 3) := by decide +kernel
theorem dX5_enter_32 : decode cX5_enter 32 = .ok (.iload_n 1, 1) := by decide +kernel
theorem dX5_enter_33 : decode cX5_enter 33 = .ok (.imul, 1) := by decide +kernel
theorem dX5_enter_34 : decode cX5_enter 34 = .ok (.invokevirtual 188, 3) := by decide +kernel
theorem dX5_enter_37 : decode cX5_enter 37 = .ok (.bipush (-9), 2) := by decide +kernel
theorem dX5_enter_39 : decode cX5_enter 39 = .ok (.if_icmp .ne 15, 3) := by decide +kernel
theorem dX5_enter_42 : decode cX5_enter 42 = .ok (.aload_n 0, 1) := by decide +kernel
theorem dX5_enter_43 : decode cX5_enter 43 = .ok (.getfield 29, 3) := by decide +kernel
theorem dX5_enter_46 : decode cX5_enter 46 = .ok (.iconst 0, 1) := by decide +kernel
theorem dX5_enter_47 : decode cX5_enter 47 = .ok (.iaload, 1) := by decide +kernel
theorem dX5_enter_48 : decode cX5_enter 48 = .ok (.sipush 199, 3) := by decide +kernel
theorem dX5_enter_51 : decode cX5_enter 51 = .ok (.if_icmp .ne 6, 3) := by decide +kernel
theorem dX5_enter_54 : decode cX5_enter 54 = .ok (.bipush (-2), 2) := by decide +kernel
theorem dX5_enter_56 : decode cX5_enter 56 = .ok (.ireturn, 1) := by decide +kernel
theorem dX5_enter_57 : decode cX5_enter 57 = .ok (.aload_n 0, 1) := by decide +kernel
theorem dX5_enter_58 : decode cX5_enter 58 = .ok (.getfield 29, 3) := by decide +kernel
theorem dX5_enter_61 : decode cX5_enter 61 = .ok (.iconst 1, 1) := by decide +kernel
theorem dX5_enter_62 : decode cX5_enter 62 = .ok (.aload_n 0, 1) := by decide +kernel
theorem dX5_enter_63 : decode cX5_enter 63 = .ok (.getfield 13, 3) := by decide +kernel
theorem dX5_enter_66 : decode cX5_enter 66 = .ok (.iload_n 1, 1) := by decide +kernel
theorem dX5_enter_67 : decode cX5_enter 67 = .ok (.imul, 1) := by decide +kernel
theorem dX5_enter_68 : decode cX5_enter 68 = .ok (.iastore, 1) := by decide +kernel
theorem dX5_enter_69 : decode cX5_enter 69 = .ok (.aload_n 0, 1) := by decide +kernel
theorem dX5_enter_70 : decode cX5_enter 70 = .ok (.iconst 1, 1) := by decide +kernel
theorem dX5_enter_71 : decode cX5_enter 71 = .ok (.invokevirtual 238, 3) := by decide +kernel
theorem dX5_enter_74 : decode cX5_enter 74 = .ok (.istore_n 2, 1) := by decide +kernel
theorem dX5_enter_75 : decode cX5_enter 75 = .ok (.aload_n 0, 1) := by decide +kernel
theorem dX5_enter_76 : decode cX5_enter 76 = .ok (.getfield 29, 3) := by decide +kernel
theorem dX5_enter_79 : decode cX5_enter 79 = .ok (.iconst 1, 1) := by decide +kernel
theorem dX5_enter_80 : decode cX5_enter 80 = .ok (.iaload, 1) := by decide +kernel
theorem dX5_enter_81 : decode cX5_enter 81 = .ok (.ireturn, 1) := by decide +kernel
theorem dX5_comesTo_0 : decode cX5_comesTo 0 = .ok (.iload_n 1, 1) := by decide +kernel
theorem dX5_comesTo_1 : decode cX5_comesTo 1 = .ok (.aload_n 0, 1) := by decide +kernel
theorem dX5_comesTo_2 : decode cX5_comesTo 2 = .ok (.getfield 13, 3) := by decide +kernel
theorem dX5_comesTo_5 : decode cX5_comesTo 5 = .ok (.idiv, 1) := by decide +kernel
theorem dX5_comesTo_6 : decode cX5_comesTo 6 = .ok (.istore_n 3, 1) := by decide +kernel
theorem dX5_comesTo_7 : decode cX5_comesTo 7 = .ok (.iload_n 1, 1) := by decide +kernel
theorem dX5_comesTo_8 : decode cX5_comesTo 8 = .ok (.aload_n 0, 1) := by decide +kernel
theorem dX5_comesTo_9 : decode cX5_comesTo 9 = .ok (.getfield 13, 3) := by decide +kernel
theorem dX5_comesTo_12 : decode cX5_comesTo 12 = .ok (.irem, 1) := by decide +kernel
theorem dX5_comesTo_13 : decode cX5_comesTo 13 = .ok (.istore 4, 2) := by decide +kernel
theorem dX5_comesTo_15 : decode cX5_comesTo 15 = .ok (.iload_n 2, 1) := by decide +kernel
theorem dX5_comesTo_16 : decode cX5_comesTo 16 = .ok (.ifCond .ne 23, 3) := by decide +kernel
theorem dX5_comesTo_19 : decode cX5_comesTo 19 = .ok (.iload 4, 2) := by decide +kernel
theorem dX5_comesTo_21 : decode cX5_comesTo 21 = .ok (.iconst 1, 1) := by decide +kernel
theorem dX5_comesTo_22 : decode cX5_comesTo 22 = .ok (.iadd, 1) := by decide +kernel
theorem dX5_comesTo_23 : decode cX5_comesTo 23 = .ok (.aload_n 0, 1) := by decide +kernel
theorem dX5_comesTo_24 : decode cX5_comesTo 24 = .ok (.getfield 13, 3) := by decide +kernel
theorem dX5_comesTo_27 : decode cX5_comesTo 27 = .ok (.if_icmp .ge 9, 3) := by decide +kernel
theorem dX5_comesTo_30 : decode cX5_comesTo 30 = .ok (.iload_n 1, 1) := by decide +kernel
theorem dX5_comesTo_31 : decode cX5_comesTo 31 = .ok (.iconst 1, 1) := by decide +kernel
theorem dX5_comesTo_32 : decode cX5_comesTo 32 = .ok (.iadd, 1) := by decide +kernel
theorem dX5_comesTo_33 : decode cX5_comesTo 33 = .ok (.goto 5, 3) := by decide +kernel
theorem dX5_comesTo_36 : decode cX5_comesTo 36 = .ok (.bipush 24, 2) := by decide +kernel
theorem dX5_comesTo_38 : decode cX5_comesTo 38 = .ok (.ireturn, 1) := by decide +kernel
theorem dX5_comesTo_39 : decode cX5_comesTo 39 = .ok (.iload_n 2, 1) := by decide +kernel
theorem dX5_comesTo_40 : decode cX5_comesTo 40 = .ok (.iconst 1, 1) := by decide +kernel
theorem dX5_comesTo_41 : decode cX5_comesTo 41 = .ok (.if_icmp .ne 19, 3) := by decide +kernel
theorem dX5_comesTo_44 : decode cX5_comesTo 44 = .ok (.iload_n 3, 1) := by decide +kernel
theorem dX5_comesTo_45 : decode cX5_comesTo 45 = .ok (.ifCond .le 12, 3) := by decide +kernel
theorem dX5_comesTo_48 : decode cX5_comesTo 48 = .ok (.iload_n 1, 1) := by decide +kernel
theorem dX5_comesTo_49 : decode cX5_comesTo 49 = .ok (.aload_n 0, 1) := by decide +kernel
theorem dX5_comesTo_50 : decode cX5_comesTo 50 = .ok (.getfield 13, 3) := by decide +kernel
theorem dX5_comesTo_53 : decode cX5_comesTo 53 = .ok (.isub, 1) := by decide +kernel
theorem dX5_comesTo_54 : decode cX5_comesTo 54 = .ok (.goto 5, 3) := by decide +kernel
theorem dX5_comesTo_57 : decode cX5_comesTo 57 = .ok (.bipush (-9), 2) := by decide +kernel
theorem dX5_comesTo_59 : decode cX5_comesTo 59 = .ok (.ireturn, 1) := by decide +kernel
theorem dX5_comesTo_60 : decode cX5_comesTo 60 = .ok (.iload_n 2, 1) := by decide +kernel
theorem dX5_comesTo_61 : decode cX5_comesTo 61 = .ok (.iconst 2, 1) := by decide +kernel
theorem dX5_comesTo_62 : decode cX5_comesTo 62 = .ok (.if_icmp .ne 25, 3) := by decide +kernel
theorem dX5_comesTo_65 : decode cX5_comesTo 65 = .ok (.iload_n 3, 1) := by decide +kernel
theorem dX5_comesTo_66 : decode cX5_comesTo 66 = .ok (.iconst 1, 1) := by decide +kernel
theorem dX5_comesTo_67 : decode cX5_comesTo 67 = .ok (.iadd, 1) := by decide +kernel
theorem dX5_comesTo_68 : decode cX5_comesTo 68 = .ok (.aload_n 0, 1) := by decide +kernel
theorem dX5_comesTo_69 : decode cX5_comesTo 69 = .ok (.getfield 7, 3) := by decide +kernel
theorem dX5_comesTo_72 : decode cX5_comesTo 72 = .ok (.if_icmp .ge 12, 3) := by decide +kernel
theorem dX5_comesTo_75 : decode cX5_comesTo 75 = .ok (.iload_n 1, 1) := by decide +kernel
theorem dX5_comesTo_76 : decode cX5_comesTo 76 = .ok (.aload_n 0, 1) := by decide +kernel
theorem dX5_comesTo_77 : decode cX5_comesTo 77 = .ok (.getfield 13, 3) := by decide +kernel
theorem dX5_comesTo_80 : decode cX5_comesTo 80 = .ok (.iadd, 1) := by decide +kernel
theorem dX5_comesTo_81 : decode cX5_comesTo 81 = .ok (.goto 5, 3) := by decide +kernel
theorem dX5_comesTo_84 : decode cX5_comesTo 84 = .ok (.bipush (-9), 2) := by decide +kernel
theorem dX5_comesTo_86 : decode cX5_comesTo 86 = .ok (.ireturn, 1) := by decide +kernel
theorem dX5_comesTo_87 : decode cX5_comesTo 87 = .ok (.iload_n 2, 1) := by decide +kernel
theorem dX5_comesTo_88 : decode cX5_comesTo 88 = .ok (.iconst 4, 1) := by decide +kernel
theorem dX5_comesTo_89 : decode cX5_comesTo 89 = .ok (.if_icmp .ne 7, 3) := by decide +kernel
theorem dX5_comesTo_92 : decode cX5_comesTo 92 = .ok (.iload_n 1, 1) := by decide +kernel
theorem dX5_comesTo_93 : decode cX5_comesTo 93 = .ok (.goto 16, 3) := by decide +kernel
theorem dX5_comesTo_96 : decode cX5_comesTo 96 = .ok (.iload 4, 2) := by decide +kernel
theorem dX5_comesTo_98 : decode cX5_comesTo 98 = .ok (.ifCond .le 9, 3) := by decide +kernel
theorem dX5_comesTo_101 : decode cX5_comesTo 101 = .ok (.iload_n 1, 1) := by decide +kernel
theorem dX5_comesTo_102 : decode cX5_comesTo 102 = .ok (.iconst 1, 1) := by decide +kernel
theorem dX5_comesTo_103 : decode cX5_comesTo 103 = .ok (.isub, 1) := by decide +kernel
theorem dX5_comesTo_104 : decode cX5_comesTo 104 = .ok (.goto 5, 3) := by decide +kernel
theorem dX5_comesTo_107 : decode cX5_comesTo 107 = .ok (.bipush 24, 2) := by decide +kernel
theorem dX5_comesTo_109 : decode cX5_comesTo 109 = .ok (.ireturn, 1) := by decide +kernel
set_option maxRecDepth 20000 in
theorem ggX5_move_X5_in : GoodIn wsX5_move wsX5_in := goodIn_r _ [5] (by decide +kernel) (by decide +kernel)
set_option maxRecDepth 20000 in
theorem gX5_move_X5_in : GoodIn wsX5_move (va_wsS RX5 74 yX5_in wsX5_in) := goodIn_app (goodIn_of _ (by decide +kernel)) ggX5_move_X5_in
set_option maxRecDepth 20000 in
theorem ggX5_move_X5_comesTo : GoodIn wsX5_move wsX5_comesTo := goodIn_r _ [9, 10, 11, 80, 81, 82, 83, 84, 85, 86, 87, 88, 89, 90, 91, 92, 93, 94, 95, 96, 97, 98, 99, 100, 101, 102, 103, 104, 105, 106, 107, 108, 109, 110, 111, 112, 113, 114, 115, 116, 117, 118, 119, 120] (by decide +kernel) (by decide +kernel)
set_option maxRecDepth 20000 in
theorem gX5_move_X5_comesTo : GoodIn wsX5_move (wsV RX5 244 RX5 yX5_comesTo wsX5_comesTo) := goodIn_app (goodIn_of _ (by decide +kernel)) ggX5_move_X5_comesTo
set_option maxRecDepth 20000 in
theorem ggX5_move_X5_catAt : GoodIn wsX5_move wsX5_catAt := goodIn_r _ [15, 16, 1, 80, 81, 82, 83, 84, 85, 86, 87, 88, 89, 90, 91, 92, 93, 94, 95, 96, 97, 98, 99, 100, 101, 102, 103, 104, 105, 106, 107, 108, 109, 110, 111, 112, 113, 114, 115, 116, 117, 118, 119, 120] (by decide +kernel) (by decide +kernel)
set_option maxRecDepth 20000 in
theorem gX5_move_X5_catAt : GoodIn wsX5_move (wsV RX5 188 RX5 yX5_catAt wsX5_catAt) := goodIn_app (goodIn_of _ (by decide +kernel)) ggX5_move_X5_catAt
set_option maxRecDepth 20000 in
theorem ggX5_move_X5_passes : GoodIn wsX5_move wsX5_passes := goodIn_r _ [20, 1, 21, 16, 22, 23, 24, 25, 26, 27, 4, 28, 29, 30, 31, 32, 33, 10, 11, 34, 35, 36, 37, 38, 39, 40, 41, 42, 43, 44, 45, 46, 47, 48, 49, 50, 51, 52, 53, 54, 55, 56, 57, 58, 59, 60, 61, 62, 63, 64, 65, 66, 67, 68, 69, 70, 71, 72, 73, 74, 75, 76, 77, 78, 79, 80, 81, 82, 83, 84, 85, 86, 87, 88, 89, 90, 91, 92, 93, 94, 95, 96, 97, 98, 99, 100, 101, 102, 103, 104, 105, 106, 107, 108, 109, 110, 111, 112, 113, 114, 115, 116, 117, 118, 119, 120] (by decide +kernel) (by decide +kernel)
set_option maxRecDepth 20000 in
theorem gX5_move_X5_passes : GoodIn wsX5_move (wsV RX5 238 RX5 yX5_passes wsX5_passes) := goodIn_app (goodIn_of _ (by decide +kernel)) ggX5_move_X5_passes
theorem dX5_move_0 : decode cX5_move 0 = .ok (.iload_n 1, 1) := by decide +kernel
theorem dX5_move_1 : decode cX5_move 1 = .ok (.iconst 0, 1) := by decide +kernel
theorem dX5_move_2 : decode cX5_move 2 = .ok (.iconst 4, 1) := by decide +kernel
theorem dX5_move_3 : decode cX5_move 3 = .ok (.invokestatic 74, 3) := by decide +kernel
theorem dX5_move_6 : decode cX5_move 6 = .ok (.ifCond .ne 5, 3) := by decide +kernel
theorem dX5_move_9 : decode cX5_move 9 = .ok (.iconst (-1), 1) := by decide +kernel
theorem dX5_move_10 : decode cX5_move 10 = .ok (.ireturn, 1) := by decide +kernel
theorem dX5_move_11 : decode cX5_move 11 = .ok (.aload_n 0, 1) := by decide +kernel
theorem dX5_move_12 : decode cX5_move 12 = .ok (.getfield 29, 3) := by decide +kernel
theorem dX5_move_15 : decode cX5_move 15 = .ok (.iconst 1, 1) := by decide +kernel
theorem dX5_move_16 : decode cX5_move 16 = .ok (.iaload, 1) := by decide +kernel
theorem dX5_move_17 : decode cX5_move 17 = .ok (.bipush (-9), 2) := by decide +kernel
theorem dX5_move_19 : decode cX5_move 19 = .ok (.if_icmp .eq 15, 3) := by decide +kernel
theorem dX5_move_22 : decode cX5_move 22 = .ok (.aload_n 0, 1) := by decide +kernel
theorem dX5_move_23 : decode cX5_move 23 = .ok (.getfield 29, 3) := by decide +kernel
theorem dX5_move_26 : decode cX5_move 26 = .ok (.iconst 0, 1) := by decide +kernel
theorem dX5_move_27 : decode cX5_move 27 = .ok (.iaload, 1) := by decide +kernel
theorem dX5_move_28 : decode cX5_move 28 = .ok (.sipush 199, 3) := by decide +kernel
theorem dX5_move_31 : decode cX5_move 31 = .ok (.if_icmp .ne 6, 3) := by decide +kernel
theorem dX5_move_34 : decode cX5_move 34 = .ok (.bipush (-2), 2) := by decide +kernel
theorem dX5_move_36 : decode cX5_move 36 = .ok (.ireturn, 1) := by decide +kernel
theorem dX5_move_37 : decode cX5_move 37 = .ok (.aload_n 0, 1) := by decide +kernel
theorem dX5_move_38 : decode cX5_move 38 = .ok (.aload_n 0, 1) := by decide +kernel
theorem dX5_move_39 : decode cX5_move 39 = .ok (.getfield 29, 3) := by decide +kernel
theorem dX5_move_42 : decode cX5_move 42 = .ok (.iconst 1, 1) := by decide +kernel
theorem dX5_move_43 : decode cX5_move 43 = .ok (.iaload, 1) := by decide +kernel
theorem dX5_move_44 : decode cX5_move 44 = .ok (.iload_n 1, 1) := by decide +kernel
theorem dX5_move_45 : decode cX5_move 45 = .ok (.invokevirtual 244, 3) := by decide +kernel
theorem dX5_move_48 : decode cX5_move 48 = .ok (.istore_n 2, 1) := by decide +kernel
theorem dX5_move_49 : decode cX5_move 49 = .ok (.iload_n 2, 1) := by decide +kernel
theorem dX5_move_50 : decode cX5_move 50 = .ok (.bipush (-9), 2) := by decide +kernel
theorem dX5_move_52 : decode cX5_move 52 = .ok (.if_icmp .eq 19, 3) := by decide +kernel
theorem dX5_move_55 : decode cX5_move 55 = .ok (.iload_n 2, 1) := by decide +kernel
theorem dX5_move_56 : decode cX5_move 56 = .ok (.bipush 24, 2) := by decide +kernel
theorem dX5_move_58 : decode cX5_move 58 = .ok (.if_icmp .eq 16, 3) := by decide +kernel
theorem dX5_move_61 : decode cX5_move 61 = .ok (.aload_n 0, 1) := by decide +kernel
theorem dX5_move_62 : decode cX5_move 62 = .ok (.iload_n 2, 1) := by decide +kernel
theorem dX5_move_63 : decode cX5_move 63 = .ok (.invokevirtual 188, 3) := by decide +kernel
theorem dX5_move_66 : decode cX5_move 66 = .ok (.bipush (-9), 2) := by decide +kernel
theorem dX5_move_68 : decode cX5_move 68 = .ok (.if_icmp .eq 6, 3) := by decide +kernel
theorem dX5_move_71 : decode cX5_move 71 = .ok (.bipush (-2), 2) := by decide +kernel
theorem dX5_move_73 : decode cX5_move 73 = .ok (.ireturn, 1) := by decide +kernel
theorem dX5_move_74 : decode cX5_move 74 = .ok (.aload_n 0, 1) := by decide +kernel
theorem dX5_move_75 : decode cX5_move 75 = .ok (.getfield 29, 3) := by decide +kernel
theorem dX5_move_78 : decode cX5_move 78 = .ok (.iconst 2, 1) := by decide +kernel
theorem dX5_move_79 : decode cX5_move 79 = .ok (.dup2, 1) := by decide +kernel
theorem dX5_move_80 : decode cX5_move 80 = .ok (.iaload, 1) := by decide +kernel
theorem dX5_move_81 : decode cX5_move 81 = .ok (.iload_n 2, 1) := by decide +kernel
theorem dX5_move_82 : decode cX5_move 82 = .ok (.bipush 24, 2) := by decide +kernel
theorem dX5_move_84 : decode cX5_move 84 = .ok (.if_icmp .ne 11, 3) := by decide +kernel
theorem dX5_move_87 : decode cX5_move 87 = .ok (.iload_n 1, 1) := by decide +kernel
theorem dX5_move_88 : decode cX5_move 88 = .ok (.ifCond .ne 7, 3) := by decide +kernel
theorem dX5_move_91 : decode cX5_move 91 = .ok (.iconst 1, 1) := by decide +kernel
theorem dX5_move_92 : decode cX5_move 92 = .ok (.goto 4, 3) := by decide +kernel
theorem dX5_move_95 : decode cX5_move 95 = .ok (.iconst 0, 1) := by decide +kernel
theorem dX5_move_96 : decode cX5_move 96 = .ok (.iadd, 1) := by decide +kernel
theorem dX5_move_97 : decode cX5_move 97 = .ok (.iastore, 1) := by decide +kernel
theorem dX5_move_98 : decode cX5_move 98 = .ok (.aload_n 0, 1) := by decide +kernel
theorem dX5_move_99 : decode cX5_move 99 = .ok (.getfield 29, 3) := by decide +kernel
theorem dX5_move_102 : decode cX5_move 102 = .ok (.iconst 1, 1) := by decide +kernel
theorem dX5_move_103 : decode cX5_move 103 = .ok (.iload_n 2, 1) := by decide +kernel
theorem dX5_move_104 : decode cX5_move 104 = .ok (.bipush 24, 2) := by decide +kernel
theorem dX5_move_106 : decode cX5_move 106 = .ok (.if_icmp .ne 8, 3) := by decide +kernel
theorem dX5_move_109 : decode cX5_move 109 = .ok (.bipush (-9), 2) := by decide +kernel
theorem dX5_move_111 : decode cX5_move 111 = .ok (.goto 4, 3) := by decide +kernel
theorem dX5_move_114 : decode cX5_move 114 = .ok (.iload_n 2, 1) := by decide +kernel
theorem dX5_move_115 : decode cX5_move 115 = .ok (.iastore, 1) := by decide +kernel
theorem dX5_move_116 : decode cX5_move 116 = .ok (.aload_n 0, 1) := by decide +kernel
theorem dX5_move_117 : decode cX5_move 117 = .ok (.iconst 1, 1) := by decide +kernel
theorem dX5_move_118 : decode cX5_move 118 = .ok (.invokevirtual 238, 3) := by decide +kernel
theorem dX5_move_121 : decode cX5_move 121 = .ok (.istore_n 3, 1) := by decide +kernel
theorem dX5_move_122 : decode cX5_move 122 = .ok (.aload_n 0, 1) := by decide +kernel
theorem dX5_move_123 : decode cX5_move 123 = .ok (.getfield 29, 3) := by decide +kernel
theorem dX5_move_126 : decode cX5_move 126 = .ok (.iconst 1, 1) := by decide +kernel
theorem dX5_move_127 : decode cX5_move 127 = .ok (.iaload, 1) := by decide +kernel
theorem dX5_move_128 : decode cX5_move 128 = .ok (.ireturn, 1) := by decide +kernel
set_option maxRecDepth 20000 in
theorem ggX5_findTaken_X5_stands : GoodIn wsX5_findTaken wsX5_stands := goodIn_r _ [9, 10, 1, 2, 4, 11, 12, 13, 14, 15, 16, 8, 17, 18, 19, 20, 21, 22, 66, 67, 68, 69, 70, 71, 72, 73, 74, 75, 76, 77, 78, 79, 80, 81, 82, 83, 84, 85, 86, 87, 88, 89, 90, 91, 92, 93, 94, 95, 96, 97, 98, 99, 100, 101, 102, 103, 104, 105, 106] (by decide +kernel) (by decide +kernel)
set_option maxRecDepth 20000 in
theorem gX5_findTaken_X5_stands : GoodIn wsX5_findTaken (wsV RX5 232 RX5 yX5_stands wsX5_stands) := goodIn_app (goodIn_of _ (by decide +kernel)) ggX5_findTaken_X5_stands
set_option maxRecDepth 20000 in
theorem ggX5_findTaken_X5_goesOn : GoodIn wsX5_findTaken wsX5_goesOn := goodIn_r _ [26, 1, 18, 2, 27, 11, 13, 28, 29, 30, 8, 31, 32, 33, 34, 35, 36, 37, 10, 38, 39, 40, 41, 42, 43, 44, 45, 46, 47, 48, 49, 12, 50, 51, 52, 53, 54, 14, 15, 16, 17, 19, 20, 21, 22, 55, 56, 57, 58, 59, 60, 61, 62, 63, 64, 65, 66, 67, 68, 69, 70, 71, 72, 73, 74, 75, 76, 77, 78, 79, 80, 81, 82, 83, 84, 85, 86, 87, 88, 89, 90, 91, 92, 93, 94, 95, 96, 97, 98, 99, 100, 101, 102, 103, 104, 105, 106] (by decide +kernel) (by decide +kernel)
set_option maxRecDepth 20000 in
theorem gX5_findTaken_X5_goesOn : GoodIn wsX5_findTaken (wsV RX5 235 RX5 yX5_goesOn wsX5_goesOn) := goodIn_app (goodIn_of _ (by decide +kernel)) ggX5_findTaken_X5_goesOn
theorem dX5_findTaken_0 : decode cX5_findTaken 0 = .ok (.aload_n 0, 1) := by decide +kernel
theorem dX5_findTaken_1 : decode cX5_findTaken 1 = .ok (.iload_n 1, 1) := by decide +kernel
theorem dX5_findTaken_2 : decode cX5_findTaken 2 = .ok (.iload_n 2, 1) := by decide +kernel
theorem dX5_findTaken_3 : decode cX5_findTaken 3 = .ok (.invokevirtual 232, 3) := by decide +kernel
theorem dX5_findTaken_6 : decode cX5_findTaken 6 = .ok (.iconst 0, 1) := by decide +kernel
theorem dX5_findTaken_7 : decode cX5_findTaken 7 = .ok (.istore_n 3, 1) := by decide +kernel
theorem dX5_findTaken_8 : decode cX5_findTaken 8 = .ok (.iload_n 3, 1) := by decide +kernel
theorem dX5_findTaken_9 : decode cX5_findTaken 9 = .ok (.bipush 40, 2) := by decide +kernel
theorem dX5_findTaken_11 : decode cX5_findTaken 11 = .ok (.if_icmp .gt 66, 3) := by decide +kernel
theorem dX5_findTaken_14 : decode cX5_findTaken 14 = .ok (.iconst 0, 1) := by decide +kernel
theorem dX5_findTaken_15 : decode cX5_findTaken 15 = .ok (.istore 4, 2) := by decide +kernel
theorem dX5_findTaken_17 : decode cX5_findTaken 17 = .ok (.iconst 0, 1) := by decide +kernel
theorem dX5_findTaken_18 : decode cX5_findTaken 18 = .ok (.istore 5, 2) := by decide +kernel
theorem dX5_findTaken_20 : decode cX5_findTaken 20 = .ok (.iload 5, 2) := by decide +kernel
theorem dX5_findTaken_22 : decode cX5_findTaken 22 = .ok (.aload_n 0, 1) := by decide +kernel
theorem dX5_findTaken_23 : decode cX5_findTaken 23 = .ok (.getfield 194, 3) := by decide +kernel
theorem dX5_findTaken_26 : decode cX5_findTaken 26 = .ok (.if_icmp .ge 23, 3) := by decide +kernel
theorem dX5_findTaken_29 : decode cX5_findTaken 29 = .ok (.iload 4, 2) := by decide +kernel
theorem dX5_findTaken_31 : decode cX5_findTaken 31 = .ok (.iconst 1, 1) := by decide +kernel
theorem dX5_findTaken_32 : decode cX5_findTaken 32 = .ok (.aload_n 0, 1) := by decide +kernel
theorem dX5_findTaken_33 : decode cX5_findTaken 33 = .ok (.getfield 51, 3) := by decide +kernel
theorem dX5_findTaken_36 : decode cX5_findTaken 36 = .ok (.iload 5, 2) := by decide +kernel
theorem dX5_findTaken_38 : decode cX5_findTaken 38 = .ok (.iaload, 1) := by decide +kernel
theorem dX5_findTaken_39 : decode cX5_findTaken 39 = .ok (.ishl, 1) := by decide +kernel
theorem dX5_findTaken_40 : decode cX5_findTaken 40 = .ok (.ior, 1) := by decide +kernel
theorem dX5_findTaken_41 : decode cX5_findTaken 41 = .ok (.istore 4, 2) := by decide +kernel
theorem dX5_findTaken_43 : decode cX5_findTaken 43 = .ok (.iinc 5 1, 3) := by decide +kernel
theorem dX5_findTaken_46 : decode cX5_findTaken 46 = .ok (.goto (-26), 3) := by decide +kernel
theorem dX5_findTaken_49 : decode cX5_findTaken 49 = .ok (.aload_n 0, 1) := by decide +kernel
theorem dX5_findTaken_50 : decode cX5_findTaken 50 = .ok (.getfield 57, 3) := by decide +kernel
theorem dX5_findTaken_53 : decode cX5_findTaken 53 = .ok (.iload_n 3, 1) := by decide +kernel
theorem dX5_findTaken_54 : decode cX5_findTaken 54 = .ok (.iload 4, 2) := by decide +kernel
theorem dX5_findTaken_56 : decode cX5_findTaken 56 = .ok (.iastore, 1) := by decide +kernel
theorem dX5_findTaken_57 : decode cX5_findTaken 57 = .ok (.aload_n 0, 1) := by decide +kernel
theorem dX5_findTaken_58 : decode cX5_findTaken 58 = .ok (.aload_n 0, 1) := by decide +kernel
theorem dX5_findTaken_59 : decode cX5_findTaken 59 = .ok (.getfield 29, 3) := by decide +kernel
theorem dX5_findTaken_62 : decode cX5_findTaken 62 = .ok (.iconst 0, 1) := by decide +kernel
theorem dX5_findTaken_63 : decode cX5_findTaken 63 = .ok (.iaload, 1) := by decide +kernel
theorem dX5_findTaken_64 : decode cX5_findTaken 64 = .ok (.iload_n 3, 1) := by decide +kernel
theorem dX5_findTaken_65 : decode cX5_findTaken 65 = .ok (.iadd, 1) := by decide +kernel
theorem dX5_findTaken_66 : decode cX5_findTaken 66 = .ok (.invokevirtual 235, 3) := by decide +kernel
theorem dX5_findTaken_69 : decode cX5_findTaken 69 = .ok (.istore 5, 2) := by decide +kernel
theorem dX5_findTaken_71 : decode cX5_findTaken 71 = .ok (.iinc 3 1, 3) := by decide +kernel
theorem dX5_findTaken_74 : decode cX5_findTaken 74 = .ok (.goto (-66), 3) := by decide +kernel
theorem dX5_findTaken_77 : decode cX5_findTaken 77 = .ok (.return_, 1) := by decide +kernel
set_option maxRecDepth 20000 in
theorem ggX5_at_X5_isCat : GoodIn wsX5_at wsX5_isCat := goodIn_r _ [7, 8, 9, 10, 6, 11, 72, 73, 74, 75, 76, 77, 78, 79, 80, 81, 82, 83, 84, 85, 86, 87, 88, 89, 90, 91, 92, 93, 94, 95, 96, 97, 98, 99, 100, 101, 102, 103, 104, 105, 106, 107, 108, 109, 110, 111, 112] (by decide +kernel) (by decide +kernel)
set_option maxRecDepth 20000 in
theorem gX5_at_X5_isCat : GoodIn wsX5_at (wsV RX5 182 RX5 yX5_isCat wsX5_isCat) := goodIn_app (goodIn_of _ (by decide +kernel)) ggX5_at_X5_isCat
set_option maxRecDepth 20000 in
theorem ggX5_at_X5_in : GoodIn wsX5_at wsX5_in := goodIn_r _ [11] (by decide +kernel) (by decide +kernel)
set_option maxRecDepth 20000 in
theorem gX5_at_X5_in : GoodIn wsX5_at (va_wsS RX5 74 yX5_in wsX5_in) := goodIn_app (goodIn_of _ (by decide +kernel)) ggX5_at_X5_in
set_option maxRecDepth 20000 in
theorem ggX5_at_X5_stands : GoodIn wsX5_at wsX5_stands := goodIn_r _ [15, 8, 16, 2, 1, 17, 18, 19, 20, 21, 22, 6, 23, 24, 25, 26, 27, 28, 72, 73, 74, 75, 76, 77, 78, 79, 80, 81, 82, 83, 84, 85, 86, 87, 88, 89, 90, 91, 92, 93, 94, 95, 96, 97, 98, 99, 100, 101, 102, 103, 104, 105, 106, 107, 108, 109, 110, 111, 112] (by decide +kernel) (by decide +kernel)
set_option maxRecDepth 20000 in
theorem gX5_at_X5_stands : GoodIn wsX5_at (wsV RX5 232 RX5 yX5_stands wsX5_stands) := goodIn_app (goodIn_of _ (by decide +kernel)) ggX5_at_X5_stands
set_option maxRecDepth 20000 in
theorem ggX5_at_X5_goesOn : GoodIn wsX5_at wsX5_goesOn := goodIn_r _ [32, 16, 24, 2, 33, 17, 19, 34, 35, 36, 6, 37, 38, 39, 40, 41, 42, 43, 8, 44, 45, 46, 47, 48, 49, 50, 51, 52, 53, 54, 55, 18, 56, 57, 58, 59, 60, 20, 21, 22, 23, 25, 26, 27, 28, 61, 62, 63, 64, 65, 66, 67, 68, 69, 70, 71, 72, 73, 74, 75, 76, 77, 78, 79, 80, 81, 82, 83, 84, 85, 86, 87, 88, 89, 90, 91, 92, 93, 94, 95, 96, 97, 98, 99, 100, 101, 102, 103, 104, 105, 106, 107, 108, 109, 110, 111, 112] (by decide +kernel) (by decide +kernel)
set_option maxRecDepth 20000 in
theorem gX5_at_X5_goesOn : GoodIn wsX5_at (wsV RX5 235 RX5 yX5_goesOn wsX5_goesOn) := goodIn_app (goodIn_of _ (by decide +kernel)) ggX5_at_X5_goesOn
theorem dX5_at_0 : decode cX5_at 0 = .ok (.aload_n 0, 1) := by decide +kernel
theorem dX5_at_1 : decode cX5_at 1 = .ok (.iload_n 1, 1) := by decide +kernel
theorem dX5_at_2 : decode cX5_at 2 = .ok (.invokevirtual 182, 3) := by decide +kernel
theorem dX5_at_5 : decode cX5_at 5 = .ok (.ifCond .eq 13, 3) := by decide +kernel
theorem dX5_at_8 : decode cX5_at 8 = .ok (.iload_n 2, 1) := by decide +kernel
theorem dX5_at_9 : decode cX5_at 9 = .ok (.iconst 0, 1) := by decide +kernel
theorem dX5_at_10 : decode cX5_at 10 = .ok (.bipush 40, 2) := by decide +kernel
theorem dX5_at_12 : decode cX5_at 12 = .ok (.invokestatic 74, 3) := by decide +kernel
theorem dX5_at_15 : decode cX5_at 15 = .ok (.ifCond .ne 5, 3) := by decide +kernel
theorem dX5_at_18 : decode cX5_at 18 = .ok (.iconst (-1), 1) := by decide +kernel
theorem dX5_at_19 : decode cX5_at 19 = .ok (.ireturn, 1) := by decide +kernel
theorem dX5_at_20 : decode cX5_at 20 = .ok (.aload_n 0, 1) := by decide +kernel
theorem dX5_at_21 : decode cX5_at 21 = .ok (.iconst 0, 1) := by decide +kernel
theorem dX5_at_22 : decode cX5_at 22 = .ok (.iconst 0, 1) := by decide +kernel
theorem dX5_at_23 : decode cX5_at 23 = .ok (.invokevirtual 232, 3) := by decide +kernel
theorem dX5_at_26 : decode cX5_at 26 = .ok (.iconst 0, 1) := by decide +kernel
theorem dX5_at_27 : decode cX5_at 27 = .ok (.istore_n 3, 1) := by decide +kernel
theorem dX5_at_28 : decode cX5_at 28 = .ok (.iload_n 3, 1) := by decide +kernel
theorem dX5_at_29 : decode cX5_at 29 = .ok (.iload_n 2, 1) := by decide +kernel
theorem dX5_at_30 : decode cX5_at 30 = .ok (.if_icmp .ge 23, 3) := by decide +kernel
theorem dX5_at_33 : decode cX5_at 33 = .ok (.aload_n 0, 1) := by decide +kernel
theorem dX5_at_34 : decode cX5_at 34 = .ok (.aload_n 0, 1) := by decide +kernel
theorem dX5_at_35 : decode cX5_at 35 = .ok (.getfield 29, 3) := by decide +kernel
theorem dX5_at_38 : decode cX5_at 38 = .ok (.iconst 0, 1) := by decide +kernel
theorem dX5_at_39 : decode cX5_at 39 = .ok (.iaload, 1) := by decide +kernel
theorem dX5_at_40 : decode cX5_at 40 = .ok (.iload_n 3, 1) := by decide +kernel
theorem dX5_at_41 : decode cX5_at 41 = .ok (.iadd, 1) := by decide +kernel
theorem dX5_at_42 : decode cX5_at 42 = .ok (.invokevirtual 235, 3) := by decide +kernel
theorem dX5_at_45 : decode cX5_at 45 = .ok (.istore 4, 2) := by decide +kernel
theorem dX5_at_47 : decode cX5_at 47 = .ok (.iinc 3 1, 3) := by decide +kernel
theorem dX5_at_50 : decode cX5_at 50 = .ok (.goto (-22), 3) := by decide +kernel
theorem dX5_at_53 : decode cX5_at 53 = .ok (.aload_n 0, 1) := by decide +kernel
theorem dX5_at_54 : decode cX5_at 54 = .ok (.getfield 51, 3) := by decide +kernel
theorem dX5_at_57 : decode cX5_at 57 = .ok (.iload_n 1, 1) := by decide +kernel
theorem dX5_at_58 : decode cX5_at 58 = .ok (.iaload, 1) := by decide +kernel
theorem dX5_at_59 : decode cX5_at 59 = .ok (.ireturn, 1) := by decide +kernel
set_option maxRecDepth 20000 in
theorem ggX5_mayCome_X5_has : GoodIn wsX5_mayCome wsX5_has := goodIn_r _ [5] (by decide +kernel) (by decide +kernel)
set_option maxRecDepth 20000 in
theorem gX5_mayCome_X5_has : GoodIn wsX5_mayCome (va_wsS RX5 197 yX5_has wsX5_has) := goodIn_app (goodIn_of _ (by decide +kernel)) ggX5_mayCome_X5_has
theorem dX5_mayCome_0 : decode cX5_mayCome 0 = .ok (.aload_n 0, 1) := by decide +kernel
theorem dX5_mayCome_1 : decode cX5_mayCome 1 = .ok (.getfield 57, 3) := by decide +kernel
theorem dX5_mayCome_4 : decode cX5_mayCome 4 = .ok (.iload_n 1, 1) := by decide +kernel
theorem dX5_mayCome_5 : decode cX5_mayCome 5 = .ok (.iaload, 1) := by decide +kernel
theorem dX5_mayCome_6 : decode cX5_mayCome 6 = .ok (.aload_n 0, 1) := by decide +kernel
theorem dX5_mayCome_7 : decode cX5_mayCome 7 = .ok (.getfield 57, 3) := by decide +kernel
theorem dX5_mayCome_10 : decode cX5_mayCome 10 = .ok (.iload_n 1, 1) := by decide +kernel
theorem dX5_mayCome_11 : decode cX5_mayCome 11 = .ok (.iconst 1, 1) := by decide +kernel
theorem dX5_mayCome_12 : decode cX5_mayCome 12 = .ok (.iadd, 1) := by decide +kernel
theorem dX5_mayCome_13 : decode cX5_mayCome 13 = .ok (.iaload, 1) := by decide +kernel
theorem dX5_mayCome_14 : decode cX5_mayCome 14 = .ok (.ior, 1) := by decide +kernel
theorem dX5_mayCome_15 : decode cX5_mayCome 15 = .ok (.iload_n 2, 1) := by decide +kernel
theorem dX5_mayCome_16 : decode cX5_mayCome 16 = .ok (.invokestatic 197, 3) := by decide +kernel
theorem dX5_mayCome_19 : decode cX5_mayCome 19 = .ok (.ifCond .ne 7, 3) := by decide +kernel
theorem dX5_mayCome_22 : decode cX5_mayCome 22 = .ok (.iconst 1, 1) := by decide +kernel
theorem dX5_mayCome_23 : decode cX5_mayCome 23 = .ok (.goto 4, 3) := by decide +kernel
theorem dX5_mayCome_26 : decode cX5_mayCome 26 = .ok (.iconst 0, 1) := by decide +kernel
theorem dX5_mayCome_27 : decode cX5_mayCome 27 = .ok (.ireturn, 1) := by decide +kernel
set_option maxRecDepth 20000 in
theorem ggX5_leftBy_X5_in : GoodIn wsX5_leftBy wsX5_in := goodIn_r _ [7] (by decide +kernel) (by decide +kernel)
set_option maxRecDepth 20000 in
theorem gX5_leftBy_X5_in : GoodIn wsX5_leftBy (va_wsS RX5 74 yX5_in wsX5_in) := goodIn_app (goodIn_of _ (by decide +kernel)) ggX5_leftBy_X5_in
set_option maxRecDepth 20000 in
theorem ggX5_leftBy_X5_comesTo : GoodIn wsX5_leftBy wsX5_comesTo := goodIn_r _ [11, 2, 1, 20, 21, 22, 23, 24, 25, 26, 27, 28, 29, 30, 31, 32, 33, 34, 35, 36, 37, 38, 39, 40, 41, 42, 43, 44, 45, 46, 47, 48, 49, 50, 51, 52, 53, 54, 55, 56, 57, 58, 59, 60] (by decide +kernel) (by decide +kernel)
set_option maxRecDepth 20000 in
theorem gX5_leftBy_X5_comesTo : GoodIn wsX5_leftBy (wsV RX5 244 RX5 yX5_comesTo wsX5_comesTo) := goodIn_app (goodIn_of _ (by decide +kernel)) ggX5_leftBy_X5_comesTo
set_option maxRecDepth 20000 in
theorem ggX5_leftBy_X5_mayCome : GoodIn wsX5_leftBy wsX5_mayCome := goodIn_r _ [15, 16, 17, 18, 6, 19, 20, 21, 22, 23, 24, 25, 26, 27, 28, 29, 30, 31, 32, 33, 34, 35, 36, 37, 38, 39, 40, 41, 42, 43, 44, 45, 46, 47, 48, 49, 50, 51, 52, 53, 54, 55, 56, 57, 58, 59, 60] (by decide +kernel) (by decide +kernel)
set_option maxRecDepth 20000 in
theorem gX5_leftBy_X5_mayCome : GoodIn wsX5_leftBy (wsV RX5 247 RX5 yX5_mayCome wsX5_mayCome) := goodIn_app (goodIn_of _ (by decide +kernel)) ggX5_leftBy_X5_mayCome
theorem dX5_leftBy_0 : decode cX5_leftBy 0 = .ok (.iload_n 2, 1) := by decide +kernel
theorem dX5_leftBy_1 : decode cX5_leftBy 1 = .ok (.bipush 24, 2) := by decide +kernel
theorem dX5_leftBy_3 : decode cX5_leftBy 3 = .ok (.if_icmp .ne 44, 3) := by decide +kernel
theorem dX5_leftBy_6 : decode cX5_leftBy 6 = .ok (.iload_n 3, 1) := by decide +kernel
theorem dX5_leftBy_7 : decode cX5_leftBy 7 = .ok (.bipush 8, 2) := by decide +kernel
theorem dX5_leftBy_9 : decode cX5_leftBy 9 = .ok (.if_icmp .ne 8, 3) := by decide +kernel
theorem dX5_leftBy_12 : decode cX5_leftBy 12 = .ok (.bipush 24, 2) := by decide +kernel
theorem dX5_leftBy_14 : decode cX5_leftBy 14 = .ok (.goto 53, 3) := by decide +kernel
theorem dX5_leftBy_17 : decode cX5_leftBy 17 = .ok (.iload_n 3, 1) := by decide +kernel
theorem dX5_leftBy_18 : decode cX5_leftBy 18 = .ok (.iconst 5, 1) := by decide +kernel
theorem dX5_leftBy_19 : decode cX5_leftBy 19 = .ok (.iconst 4, 1) := by decide +kernel
theorem dX5_leftBy_20 : decode cX5_leftBy 20 = .ok (.aload_n 0, 1) := by decide +kernel
theorem dX5_leftBy_21 : decode cX5_leftBy 21 = .ok (.getfield 7, 3) := by decide +kernel
theorem dX5_leftBy_24 : decode cX5_leftBy 24 = .ok (.iadd, 1) := by decide +kernel
theorem dX5_leftBy_25 : decode cX5_leftBy 25 = .ok (.invokestatic 74, 3) := by decide +kernel
theorem dX5_leftBy_28 : decode cX5_leftBy 28 = .ok (.ifCond .eq 14, 3) := by decide +kernel
theorem dX5_leftBy_31 : decode cX5_leftBy 31 = .ok (.aload_n 0, 1) := by decide +kernel
theorem dX5_leftBy_32 : decode cX5_leftBy 32 = .ok (.getfield 13, 3) := by decide +kernel
theorem dX5_leftBy_35 : decode cX5_leftBy 35 = .ok (.iload_n 3, 1) := by decide +kernel
theorem dX5_leftBy_36 : decode cX5_leftBy 36 = .ok (.iconst 5, 1) := by decide +kernel
theorem dX5_leftBy_37 : decode cX5_leftBy 37 = .ok (.isub, 1) := by decide +kernel
theorem dX5_leftBy_38 : decode cX5_leftBy 38 = .ok (.imul, 1) := by decide +kernel
theorem dX5_leftBy_39 : decode cX5_leftBy 39 = .ok (.goto 28, 3) := by decide +kernel
theorem dX5_leftBy_42 : decode cX5_leftBy 42 = .ok (.bipush (-9), 2) := by decide +kernel
theorem dX5_leftBy_44 : decode cX5_leftBy 44 = .ok (.goto 23, 3) := by decide +kernel
theorem dX5_leftBy_47 : decode cX5_leftBy 47 = .ok (.iload_n 3, 1) := by decide +kernel
theorem dX5_leftBy_48 : decode cX5_leftBy 48 = .ok (.iconst 0, 1) := by decide +kernel
theorem dX5_leftBy_49 : decode cX5_leftBy 49 = .ok (.iconst 4, 1) := by decide +kernel
theorem dX5_leftBy_50 : decode cX5_leftBy 50 = .ok (.invokestatic 74, 3) := by decide +kernel
theorem dX5_leftBy_53 : decode cX5_leftBy 53 = .ok (.ifCond .eq 12, 3) := by decide +kernel
theorem dX5_leftBy_56 : decode cX5_leftBy 56 = .ok (.aload_n 0, 1) := by decide +kernel
theorem dX5_leftBy_57 : decode cX5_leftBy 57 = .ok (.iload_n 2, 1) := by decide +kernel
theorem dX5_leftBy_58 : decode cX5_leftBy 58 = .ok (.iload_n 3, 1) := by decide +kernel
theorem dX5_leftBy_59 : decode cX5_leftBy 59 = .ok (.invokevirtual 244, 3) := by decide +kernel
theorem dX5_leftBy_62 : decode cX5_leftBy 62 = .ok (.goto 5, 3) := by decide +kernel
theorem dX5_leftBy_65 : decode cX5_leftBy 65 = .ok (.bipush (-9), 2) := by decide +kernel
theorem dX5_leftBy_67 : decode cX5_leftBy 67 = .ok (.istore 4, 2) := by decide +kernel
theorem dX5_leftBy_69 : decode cX5_leftBy 69 = .ok (.iload 4, 2) := by decide +kernel
theorem dX5_leftBy_71 : decode cX5_leftBy 71 = .ok (.bipush (-9), 2) := by decide +kernel
theorem dX5_leftBy_73 : decode cX5_leftBy 73 = .ok (.if_icmp .eq 21, 3) := by decide +kernel
theorem dX5_leftBy_76 : decode cX5_leftBy 76 = .ok (.iload_n 2, 1) := by decide +kernel
theorem dX5_leftBy_77 : decode cX5_leftBy 77 = .ok (.bipush 24, 2) := by decide +kernel
theorem dX5_leftBy_79 : decode cX5_leftBy 79 = .ok (.if_icmp .eq 19, 3) := by decide +kernel
theorem dX5_leftBy_82 : decode cX5_leftBy 82 = .ok (.iload 4, 2) := by decide +kernel
theorem dX5_leftBy_84 : decode cX5_leftBy 84 = .ok (.bipush 24, 2) := by decide +kernel
theorem dX5_leftBy_86 : decode cX5_leftBy 86 = .ok (.if_icmp .ne 12, 3) := by decide +kernel
theorem dX5_leftBy_89 : decode cX5_leftBy 89 = .ok (.iload_n 3, 1) := by decide +kernel
theorem dX5_leftBy_90 : decode cX5_leftBy 90 = .ok (.iconst 3, 1) := by decide +kernel
theorem dX5_leftBy_91 : decode cX5_leftBy 91 = .ok (.if_icmp .ne 7, 3) := by decide +kernel
theorem dX5_leftBy_94 : decode cX5_leftBy 94 = .ok (.sipush 1000, 3) := by decide +kernel
theorem dX5_leftBy_97 : decode cX5_leftBy 97 = .ok (.ireturn, 1) := by decide +kernel
theorem dX5_leftBy_98 : decode cX5_leftBy 98 = .ok (.iload 4, 2) := by decide +kernel
theorem dX5_leftBy_100 : decode cX5_leftBy 100 = .ok (.bipush 24, 2) := by decide +kernel
theorem dX5_leftBy_102 : decode cX5_leftBy 102 = .ok (.if_icmp .ne 30, 3) := by decide +kernel
theorem dX5_leftBy_105 : decode cX5_leftBy 105 = .ok (.iload_n 2, 1) := by decide +kernel
theorem dX5_leftBy_106 : decode cX5_leftBy 106 = .ok (.bipush 24, 2) := by decide +kernel
theorem dX5_leftBy_108 : decode cX5_leftBy 108 = .ok (.if_icmp .ne 22, 3) := by decide +kernel
theorem dX5_leftBy_111 : decode cX5_leftBy 111 = .ok (.iconst 1, 1) := by decide +kernel
theorem dX5_leftBy_112 : decode cX5_leftBy 112 = .ok (.aload_n 0, 1) := by decide +kernel
theorem dX5_leftBy_113 : decode cX5_leftBy 113 = .ok (.getfield 60, 3) := by decide +kernel
theorem dX5_leftBy_116 : decode cX5_leftBy 116 = .ok (.bipush 25, 2) := by decide +kernel
theorem dX5_leftBy_118 : decode cX5_leftBy 118 = .ok (.iload_n 1, 1) := by decide +kernel
theorem dX5_leftBy_119 : decode cX5_leftBy 119 = .ok (.iconst 1, 1) := by decide +kernel
theorem dX5_leftBy_120 : decode cX5_leftBy 120 = .ok (.iadd, 1) := by decide +kernel
theorem dX5_leftBy_121 : decode cX5_leftBy 121 = .ok (.imul, 1) := by decide +kernel
theorem dX5_leftBy_122 : decode cX5_leftBy 122 = .ok (.bipush 24, 2) := by decide +kernel
theorem dX5_leftBy_124 : decode cX5_leftBy 124 = .ok (.iadd, 1) := by decide +kernel
theorem dX5_leftBy_125 : decode cX5_leftBy 125 = .ok (.iaload, 1) := by decide +kernel
theorem dX5_leftBy_126 : decode cX5_leftBy 126 = .ok (.iadd, 1) := by decide +kernel
theorem dX5_leftBy_127 : decode cX5_leftBy 127 = .ok (.goto 4, 3) := by decide +kernel
theorem dX5_leftBy_130 : decode cX5_leftBy 130 = .ok (.iconst 1, 1) := by decide +kernel
theorem dX5_leftBy_131 : decode cX5_leftBy 131 = .ok (.ireturn, 1) := by decide +kernel
theorem dX5_leftBy_132 : decode cX5_leftBy 132 = .ok (.aload_n 0, 1) := by decide +kernel
theorem dX5_leftBy_133 : decode cX5_leftBy 133 = .ok (.iload_n 1, 1) := by decide +kernel
theorem dX5_leftBy_134 : decode cX5_leftBy 134 = .ok (.iload 4, 2) := by decide +kernel
theorem dX5_leftBy_136 : decode cX5_leftBy 136 = .ok (.invokevirtual 247, 3) := by decide +kernel
theorem dX5_leftBy_139 : decode cX5_leftBy 139 = .ok (.ifCond .eq 22, 3) := by decide +kernel
theorem dX5_leftBy_142 : decode cX5_leftBy 142 = .ok (.iconst 1, 1) := by decide +kernel
theorem dX5_leftBy_143 : decode cX5_leftBy 143 = .ok (.aload_n 0, 1) := by decide +kernel
theorem dX5_leftBy_144 : decode cX5_leftBy 144 = .ok (.getfield 60, 3) := by decide +kernel
