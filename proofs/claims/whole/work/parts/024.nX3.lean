theorem dX3_init_0 : decode cX3_init 0 = .ok (.aload_n 0, 1) := by decide +kernel
theorem dX3_init_1 : decode cX3_init 1 = .ok (.invokespecial 3, 3) := by decide +kernel
theorem dX3_init_4 : decode cX3_init 4 = .ok (.aload_n 0, 1) := by decide +kernel
theorem dX3_init_5 : decode cX3_init 5 = .ok (.bipush 41, 2) := by decide +kernel
theorem dX3_init_7 : decode cX3_init 7 = .ok (.newarray .int, 2) := by decide +kernel
theorem dX3_init_9 : decode cX3_init 9 = .ok (.putfield 9, 3) := by decide +kernel
theorem dX3_init_12 : decode cX3_init 12 = .ok (.aload_n 0, 1) := by decide +kernel
theorem dX3_init_13 : decode cX3_init 13 = .ok (.bipush 41, 2) := by decide +kernel
theorem dX3_init_15 : decode cX3_init 15 = .ok (.newarray .int, 2) := by decide +kernel
theorem dX3_init_17 : decode cX3_init 17 = .ok (.putfield 15, 3) := by decide +kernel
theorem dX3_init_20 : decode cX3_init 20 = .ok (.aload_n 0, 1) := by decide +kernel
theorem dX3_init_21 : decode cX3_init 21 = .ok (.sipush 384, 3) := by decide +kernel
theorem dX3_init_24 : decode cX3_init 24 = .ok (.newarray .long, 2) := by decide +kernel
theorem dX3_init_26 : decode cX3_init 26 = .ok (.putfield 18, 3) := by decide +kernel
theorem dX3_init_29 : decode cX3_init 29 = .ok (.aload_n 0, 1) := by decide +kernel
theorem dX3_init_30 : decode cX3_init 30 = .ok (.sipush 384, 3) := by decide +kernel
theorem dX3_init_33 : decode cX3_init 33 = .ok (.newarray .long, 2) := by decide +kernel
theorem dX3_init_35 : decode cX3_init 35 = .ok (.putfield 22, 3) := by decide +kernel
theorem dX3_init_38 : decode cX3_init 38 = .ok (.return_, 1) := by decide +kernel
set_option maxRecDepth 20000 in
theorem ggX3_soonestFrom_X0_columnCells : GoodIn wsX3_soonestFrom wsX0_columnCells := goodIn_r _ [7, 8, 9, 103, 104, 105, 106, 107, 108, 109, 110, 111, 112, 113, 114] (by decide +kernel) (by decide +kernel)
set_option maxRecDepth 20000 in
theorem gX3_soonestFrom_X0_columnCells : GoodIn wsX3_soonestFrom (wsV RX3 25 RX0 yX0_columnCells wsX0_columnCells) := goodIn_app (goodIn_of _ (by decide +kernel)) ggX3_soonestFrom_X0_columnCells
set_option maxRecDepth 20000 in
theorem ggX3_soonestFrom_X2_passMinute : GoodIn wsX3_soonestFrom wsX2_passMinute := goodIn_r _ [14, 15, 16, 17, 18, 19, 20, 21, 22, 13, 23, 24, 25, 26, 27, 28, 29, 30, 31, 32, 33, 6, 34, 35, 36, 37, 38, 39, 40, 9, 41, 42, 43, 44, 45, 46, 47, 48, 49, 50, 51, 52, 53, 54, 55, 56, 57, 58, 59, 60, 61, 62, 63, 64, 65, 66, 67, 68, 69, 70, 71, 72, 73, 74, 75, 76, 77, 78, 79, 80, 81, 82, 83, 84, 85, 86, 87, 88, 89, 115, 116, 117, 118, 119, 120, 121, 122, 103, 104, 105, 106, 107, 108, 109, 110, 111, 112, 113, 114] (by decide +kernel) (by decide +kernel)
set_option maxRecDepth 20000 in
theorem gX3_soonestFrom_X2_passMinute : GoodIn wsX3_soonestFrom (wsV RX3 39 RX2 yX2_passMinute wsX2_passMinute) := goodIn_app (goodIn_of _ (by decide +kernel)) ggX3_soonestFrom_X2_passMinute
set_option maxRecDepth 20000 in
theorem ggX3_soonestFrom_X0_spread : GoodIn wsX3_soonestFrom wsX0_spread := goodIn_r _ [93, 9, 94, 4, 5, 6, 7, 8, 95, 96, 97, 98, 99, 100, 101, 102, 103, 104, 105, 106, 107, 108, 109, 110, 111, 112, 113, 114] (by decide +kernel) (by decide +kernel)
set_option maxRecDepth 20000 in
theorem gX3_soonestFrom_X0_spread : GoodIn wsX3_soonestFrom (wsV RX3 43 RX0 yX0_spread wsX0_spread) := goodIn_app (goodIn_of _ (by decide +kernel)) ggX3_soonestFrom_X0_spread
theorem dX3_soonestFrom_0 : decode cX3_soonestFrom 0 = .ok (.aload_n 0, 1) := by decide +kernel
theorem dX3_soonestFrom_1 : decode cX3_soonestFrom 1 = .ok (.iconst 0, 1) := by decide +kernel
theorem dX3_soonestFrom_2 : decode cX3_soonestFrom 2 = .ok (.invokevirtual 25, 3) := by decide +kernel
theorem dX3_soonestFrom_5 : decode cX3_soonestFrom 5 = .ok (.istore_n 2, 1) := by decide +kernel
theorem dX3_soonestFrom_6 : decode cX3_soonestFrom 6 = .ok (.aload_n 0, 1) := by decide +kernel
theorem dX3_soonestFrom_7 : decode cX3_soonestFrom 7 = .ok (.aload_n 0, 1) := by decide +kernel
theorem dX3_soonestFrom_8 : decode cX3_soonestFrom 8 = .ok (.getfield 31, 3) := by decide +kernel
theorem dX3_soonestFrom_11 : decode cX3_soonestFrom 11 = .ok (.iconst 1, 1) := by decide +kernel
theorem dX3_soonestFrom_12 : decode cX3_soonestFrom 12 = .ok (.isub, 1) := by decide +kernel
theorem dX3_soonestFrom_13 : decode cX3_soonestFrom 13 = .ok (.invokevirtual 25, 3) := by decide +kernel
theorem dX3_soonestFrom_16 : decode cX3_soonestFrom 16 = .ok (.istore_n 3, 1) := by decide +kernel
theorem dX3_soonestFrom_17 : decode cX3_soonestFrom 17 = .ok (.iconst 0, 1) := by decide +kernel
theorem dX3_soonestFrom_18 : decode cX3_soonestFrom 18 = .ok (.istore 4, 2) := by decide +kernel
theorem dX3_soonestFrom_20 : decode cX3_soonestFrom 20 = .ok (.iconst 0, 1) := by decide +kernel
theorem dX3_soonestFrom_21 : decode cX3_soonestFrom 21 = .ok (.istore 5, 2) := by decide +kernel
theorem dX3_soonestFrom_23 : decode cX3_soonestFrom 23 = .ok (.iload 5, 2) := by decide +kernel
theorem dX3_soonestFrom_25 : decode cX3_soonestFrom 25 = .ok (.bipush 40, 2) := by decide +kernel
theorem dX3_soonestFrom_27 : decode cX3_soonestFrom 27 = .ok (.if_icmp .ge 55, 3) := by decide +kernel
theorem dX3_soonestFrom_30 : decode cX3_soonestFrom 30 = .ok (.iload 4, 2) := by decide +kernel
theorem dX3_soonestFrom_32 : decode cX3_soonestFrom 32 = .ok (.iload_n 3, 1) := by decide +kernel
theorem dX3_soonestFrom_33 : decode cX3_soonestFrom 33 = .ok (.iand, 1) := by decide +kernel
theorem dX3_soonestFrom_34 : decode cX3_soonestFrom 34 = .ok (.ifCond .eq 8, 3) := by decide +kernel
theorem dX3_soonestFrom_37 : decode cX3_soonestFrom 37 = .ok (.iload 5, 2) := by decide +kernel
theorem dX3_soonestFrom_39 : decode cX3_soonestFrom 39 = .ok (.iconst 1, 1) := by decide +kernel
theorem dX3_soonestFrom_40 : decode cX3_soonestFrom 40 = .ok (.iadd, 1) := by decide +kernel
theorem dX3_soonestFrom_41 : decode cX3_soonestFrom 41 = .ok (.ireturn, 1) := by decide +kernel
theorem dX3_soonestFrom_42 : decode cX3_soonestFrom 42 = .ok (.aload_n 1, 1) := by decide +kernel
theorem dX3_soonestFrom_43 : decode cX3_soonestFrom 43 = .ok (.getfield 35, 3) := by decide +kernel
theorem dX3_soonestFrom_46 : decode cX3_soonestFrom 46 = .ok (.istore 6, 2) := by decide +kernel
theorem dX3_soonestFrom_48 : decode cX3_soonestFrom 48 = .ok (.aload_n 1, 1) := by decide +kernel
theorem dX3_soonestFrom_49 : decode cX3_soonestFrom 49 = .ok (.aload_n 0, 1) := by decide +kernel
theorem dX3_soonestFrom_50 : decode cX3_soonestFrom 50 = .ok (.invokevirtual 39, 3) := by decide +kernel
theorem dX3_soonestFrom_53 : decode cX3_soonestFrom 53 = .ok (.pop, 1) := by decide +kernel
theorem dX3_soonestFrom_54 : decode cX3_soonestFrom 54 = .ok (.aload_n 0, 1) := by decide +kernel
theorem dX3_soonestFrom_55 : decode cX3_soonestFrom 55 = .ok (.iload 4, 2) := by decide +kernel
theorem dX3_soonestFrom_57 : decode cX3_soonestFrom 57 = .ok (.invokevirtual 43, 3) := by decide +kernel
theorem dX3_soonestFrom_60 : decode cX3_soonestFrom 60 = .ok (.iload_n 2, 1) := by decide +kernel
theorem dX3_soonestFrom_61 : decode cX3_soonestFrom 61 = .ok (.ior, 1) := by decide +kernel
theorem dX3_soonestFrom_62 : decode cX3_soonestFrom 62 = .ok (.iload 6, 2) := by decide +kernel
theorem dX3_soonestFrom_64 : decode cX3_soonestFrom 64 = .ok (.iconst (-1), 1) := by decide +kernel
theorem dX3_soonestFrom_65 : decode cX3_soonestFrom 65 = .ok (.ixor, 1) := by decide +kernel
theorem dX3_soonestFrom_66 : decode cX3_soonestFrom 66 = .ok (.iand, 1) := by decide +kernel
theorem dX3_soonestFrom_67 : decode cX3_soonestFrom 67 = .ok (.aload_n 1, 1) := by decide +kernel
theorem dX3_soonestFrom_68 : decode cX3_soonestFrom 68 = .ok (.getfield 35, 3) := by decide +kernel
theorem dX3_soonestFrom_71 : decode cX3_soonestFrom 71 = .ok (.iconst (-1), 1) := by decide +kernel
theorem dX3_soonestFrom_72 : decode cX3_soonestFrom 72 = .ok (.ixor, 1) := by decide +kernel
theorem dX3_soonestFrom_73 : decode cX3_soonestFrom 73 = .ok (.iand, 1) := by decide +kernel
theorem dX3_soonestFrom_74 : decode cX3_soonestFrom 74 = .ok (.istore 4, 2) := by decide +kernel
theorem dX3_soonestFrom_76 : decode cX3_soonestFrom 76 = .ok (.iinc 5 1, 3) := by decide +kernel
theorem dX3_soonestFrom_79 : decode cX3_soonestFrom 79 = .ok (.goto (-56), 3) := by decide +kernel
theorem dX3_soonestFrom_82 : decode cX3_soonestFrom 82 = .ok (.bipush (-9), 2) := by decide +kernel
theorem dX3_soonestFrom_84 : decode cX3_soonestFrom 84 = .ok (.ireturn, 1) := by decide +kernel
set_option maxRecDepth 20000 in
theorem ggX3_firstWay_X3_lookBack : GoodIn wsX3_firstWay wsX3_lookBack := goodIn_r _ [6, 7, 8, 9, 1, 10, 11, 12, 13, 14, 15, 16, 17, 18, 19, 20, 21, 22, 23, 24, 25, 26, 27, 28, 29, 30, 31, 32, 33, 34, 35, 36, 37, 38, 39, 40, 41, 42, 43, 44, 45, 46, 47, 48, 49, 50, 51, 52, 53, 54, 55, 56, 57, 58, 59, 60, 61, 62, 63, 64, 65, 66, 67, 68, 69, 70, 71, 72, 73, 74, 75, 76, 77, 78, 79, 80, 81, 82, 83, 84, 85, 86, 87, 88, 89, 90, 91, 92, 93, 94, 95, 96, 97, 98, 99, 100, 101, 102, 103, 104, 105, 106, 107, 108, 109, 139, 140, 141, 142, 143, 144, 145, 146, 147, 148, 149, 150, 127, 128, 129, 130, 131, 132, 133, 134, 135, 136, 137, 138] (by decide +kernel) (by decide +kernel)
set_option maxRecDepth 20000 in
theorem gX3_firstWay_X3_lookBack : GoodIn wsX3_firstWay (wsV RX3 46 RX3 yX3_lookBack wsX3_lookBack) := goodIn_app (goodIn_of _ (by decide +kernel)) ggX3_firstWay_X3_lookBack
set_option maxRecDepth 20000 in
theorem ggX3_firstWay_X3_firstEntry : GoodIn wsX3_firstWay wsX3_firstEntry := goodIn_r _ [113, 114, 1, 115, 116, 117, 5, 118, 9, 7, 27, 11, 28, 64, 65, 127, 128, 129, 130, 131, 132, 133, 134, 135, 136, 137, 138, 139, 140, 141, 142] (by decide +kernel) (by decide +kernel)
set_option maxRecDepth 20000 in
theorem gX3_firstWay_X3_firstEntry : GoodIn wsX3_firstWay (wsV RX3 50 RX3 yX3_firstEntry wsX3_firstEntry) := goodIn_app (goodIn_of _ (by decide +kernel)) ggX3_firstWay_X3_firstEntry
set_option maxRecDepth 20000 in
theorem ggX3_firstWay_X3_firstMove : GoodIn wsX3_firstWay wsX3_firstMove := goodIn_r _ [122, 123, 124, 125, 36, 126, 44, 51, 52, 53, 54, 106, 107, 108, 109, 96, 115, 116, 117, 5, 118, 9, 7, 27, 11, 28, 64, 65, 127, 128, 129, 130, 131, 132, 133, 134, 135, 136, 137, 138, 139, 140, 141, 142] (by decide +kernel) (by decide +kernel)
set_option maxRecDepth 20000 in
theorem gX3_firstWay_X3_firstMove : GoodIn wsX3_firstWay (wsV RX3 54 RX3 yX3_firstMove wsX3_firstMove) := goodIn_app (goodIn_of _ (by decide +kernel)) ggX3_firstWay_X3_firstMove
set_option maxRecDepth 20000 in
theorem ggX3_firstWay_X0_cellBy : GoodIn wsX3_firstWay wsX0_cellBy := goodIn_r _ [126, 44, 51, 52, 53, 36, 54, 106, 107, 108, 109, 96, 127, 128, 129, 130, 131, 132, 133, 134, 135, 136, 137, 138] (by decide +kernel) (by decide +kernel)
set_option maxRecDepth 20000 in
theorem gX3_firstWay_X0_cellBy : GoodIn wsX3_firstWay (wsV RX3 58 RX0 yX0_cellBy wsX0_cellBy) := goodIn_app (goodIn_of _ (by decide +kernel)) ggX3_firstWay_X0_cellBy
theorem dX3_firstWay_0 : decode cX3_firstWay 0 = .ok (.aload_n 0, 1) := by decide +kernel
theorem dX3_firstWay_1 : decode cX3_firstWay 1 = .ok (.aload_n 1, 1) := by decide +kernel
theorem dX3_firstWay_2 : decode cX3_firstWay 2 = .ok (.aload_n 2, 1) := by decide +kernel
theorem dX3_firstWay_3 : decode cX3_firstWay 3 = .ok (.iload_n 3, 1) := by decide +kernel
theorem dX3_firstWay_4 : decode cX3_firstWay 4 = .ok (.invokevirtual 46, 3) := by decide +kernel
theorem dX3_firstWay_7 : decode cX3_firstWay 7 = .ok (.bipush (-9), 2) := by decide +kernel
theorem dX3_firstWay_9 : decode cX3_firstWay 9 = .ok (.istore 5, 2) := by decide +kernel
theorem dX3_firstWay_11 : decode cX3_firstWay 11 = .ok (.bipush 8, 2) := by decide +kernel
theorem dX3_firstWay_13 : decode cX3_firstWay 13 = .ok (.istore 6, 2) := by decide +kernel
theorem dX3_firstWay_15 : decode cX3_firstWay 15 = .ok (.iconst 0, 1) := by decide +kernel
theorem dX3_firstWay_16 : decode cX3_firstWay 16 = .ok (.istore 7, 2) := by decide +kernel
theorem dX3_firstWay_18 : decode cX3_firstWay 18 = .ok (.iload 7, 2) := by decide +kernel
theorem dX3_firstWay_20 : decode cX3_firstWay 20 = .ok (.iload 4, 2) := by decide +kernel
theorem dX3_firstWay_22 : decode cX3_firstWay 22 = .ok (.if_icmp .gt 87, 3) := by decide +kernel
theorem dX3_firstWay_25 : decode cX3_firstWay 25 = .ok (.iload 7, 2) := by decide +kernel
theorem dX3_firstWay_27 : decode cX3_firstWay 27 = .ok (.iload_n 3, 1) := by decide +kernel
theorem dX3_firstWay_28 : decode cX3_firstWay 28 = .ok (.if_icmp .ge 81, 3) := by decide +kernel
theorem dX3_firstWay_31 : decode cX3_firstWay 31 = .ok (.iload 5, 2) := by decide +kernel
theorem dX3_firstWay_33 : decode cX3_firstWay 33 = .ok (.bipush (-9), 2) := by decide +kernel
theorem dX3_firstWay_35 : decode cX3_firstWay 35 = .ok (.if_icmp .ne 13, 3) := by decide +kernel
theorem dX3_firstWay_38 : decode cX3_firstWay 38 = .ok (.aload_n 0, 1) := by decide +kernel
theorem dX3_firstWay_39 : decode cX3_firstWay 39 = .ok (.aload_n 1, 1) := by decide +kernel
theorem dX3_firstWay_40 : decode cX3_firstWay 40 = .ok (.iload 7, 2) := by decide +kernel
theorem dX3_firstWay_42 : decode cX3_firstWay 42 = .ok (.invokevirtual 50, 3) := by decide +kernel
theorem dX3_firstWay_45 : decode cX3_firstWay 45 = .ok (.goto 13, 3) := by decide +kernel
theorem dX3_firstWay_48 : decode cX3_firstWay 48 = .ok (.aload_n 0, 1) := by decide +kernel
theorem dX3_firstWay_49 : decode cX3_firstWay 49 = .ok (.aload_n 1, 1) := by decide +kernel
theorem dX3_firstWay_50 : decode cX3_firstWay 50 = .ok (.iload 5, 2) := by decide +kernel
theorem dX3_firstWay_52 : decode cX3_firstWay 52 = .ok (.iload 7, 2) := by decide +kernel
theorem dX3_firstWay_54 : decode cX3_firstWay 54 = .ok (.iload_n 3, 1) := by decide +kernel
theorem dX3_firstWay_55 : decode cX3_firstWay 55 = .ok (.invokevirtual 54, 3) := by decide +kernel
theorem dX3_firstWay_58 : decode cX3_firstWay 58 = .ok (.istore 6, 2) := by decide +kernel
theorem dX3_firstWay_60 : decode cX3_firstWay 60 = .ok (.iload 6, 2) := by decide +kernel
theorem dX3_firstWay_62 : decode cX3_firstWay 62 = .ok (.iconst 5, 1) := by decide +kernel
theorem dX3_firstWay_63 : decode cX3_firstWay 63 = .ok (.if_icmp .lt 24, 3) := by decide +kernel
theorem dX3_firstWay_66 : decode cX3_firstWay 66 = .ok (.iload 6, 2) := by decide +kernel
theorem dX3_firstWay_68 : decode cX3_firstWay 68 = .ok (.bipush 8, 2) := by decide +kernel
theorem dX3_firstWay_70 : decode cX3_firstWay 70 = .ok (.if_icmp .ge 17, 3) := by decide +kernel
theorem dX3_firstWay_73 : decode cX3_firstWay 73 = .ok (.iload 6, 2) := by decide +kernel
theorem dX3_firstWay_75 : decode cX3_firstWay 75 = .ok (.iconst 5, 1) := by decide +kernel
theorem dX3_firstWay_76 : decode cX3_firstWay 76 = .ok (.isub, 1) := by decide +kernel
theorem dX3_firstWay_77 : decode cX3_firstWay 77 = .ok (.aload_n 1, 1) := by decide +kernel
theorem dX3_firstWay_78 : decode cX3_firstWay 78 = .ok (.getfield 31, 3) := by decide +kernel
theorem dX3_firstWay_81 : decode cX3_firstWay 81 = .ok (.imul, 1) := by decide +kernel
theorem dX3_firstWay_82 : decode cX3_firstWay 82 = .ok (.istore 5, 2) := by decide +kernel
theorem dX3_firstWay_84 : decode cX3_firstWay 84 = .ok (.goto 19, 3) := by decide +kernel
theorem dX3_firstWay_87 : decode cX3_firstWay 87 = .ok (.iload 6, 2) := by decide +kernel
theorem dX3_firstWay_89 : decode cX3_firstWay 89 = .ok (.iconst 4, 1) := by decide +kernel
theorem dX3_firstWay_90 : decode cX3_firstWay 90 = .ok (.if_icmp .gt 13, 3) := by decide +kernel
theorem dX3_firstWay_93 : decode cX3_firstWay 93 = .ok (.aload_n 1, 1) := by decide +kernel
theorem dX3_firstWay_94 : decode cX3_firstWay 94 = .ok (.iload 5, 2) := by decide +kernel
theorem dX3_firstWay_96 : decode cX3_firstWay 96 = .ok (.iload 6, 2) := by decide +kernel
theorem dX3_firstWay_98 : decode cX3_firstWay 98 = .ok (.invokevirtual 58, 3) := by decide +kernel
theorem dX3_firstWay_101 : decode cX3_firstWay 101 = .ok (.istore 5, 2) := by decide +kernel
theorem dX3_firstWay_103 : decode cX3_firstWay 103 = .ok (.iinc 7 1, 3) := by decide +kernel
theorem dX3_firstWay_106 : decode cX3_firstWay 106 = .ok (.goto (-88), 3) := by decide +kernel
theorem dX3_firstWay_109 : decode cX3_firstWay 109 = .ok (.iload 6, 2) := by decide +kernel
theorem dX3_firstWay_111 : decode cX3_firstWay 111 = .ok (.ireturn, 1) := by decide +kernel
set_option maxRecDepth 20000 in
theorem ggX3_lookBack_X4_put : GoodIn wsX3_lookBack wsX4_put := goodIn_r _ [7] (by decide +kernel) (by decide +kernel)
set_option maxRecDepth 20000 in
theorem gX3_lookBack_X4_put_n62 : GoodIn wsX3_lookBack (wsX4_put) := ggX3_lookBack_X4_put
set_option maxRecDepth 20000 in
theorem ggX3_lookBack_X2_passMinute : GoodIn wsX3_lookBack wsX2_passMinute := goodIn_r _ [12, 13, 14, 15, 16, 17, 18, 19, 20, 11, 21, 22, 6, 23, 24, 25, 26, 27, 28, 29, 30, 31, 32, 33, 34, 35, 36, 37, 38, 39, 40, 41, 42, 43, 44, 45, 46, 47, 48, 49, 50, 51, 52, 53, 54, 55, 56, 57, 58, 59, 60, 61, 62, 63, 64, 65, 66, 67, 68, 69, 70, 71, 72, 73, 74, 75, 76, 77, 5, 7, 78, 79, 80, 81, 82, 83, 84, 85, 86, 109, 110, 111, 112, 113, 114, 115, 116, 117, 118, 119, 120, 121, 122, 123, 124, 125, 126, 127, 128] (by decide +kernel) (by decide +kernel)
set_option maxRecDepth 20000 in
theorem gX3_lookBack_X2_passMinute : GoodIn wsX3_lookBack (wsV RX3 39 RX2 yX2_passMinute wsX2_passMinute) := goodIn_app (goodIn_of _ (by decide +kernel)) ggX3_lookBack_X2_passMinute
set_option maxRecDepth 20000 in
theorem ggX3_lookBack_X0_columnCells : GoodIn wsX3_lookBack wsX0_columnCells := goodIn_r _ [90, 91, 39, 117, 118, 119, 120, 121, 122, 123, 124, 125, 126, 127, 128] (by decide +kernel) (by decide +kernel)
set_option maxRecDepth 20000 in
theorem gX3_lookBack_X0_columnCells : GoodIn wsX3_lookBack (wsV RX3 25 RX0 yX0_columnCells wsX0_columnCells) := goodIn_app (goodIn_of _ (by decide +kernel)) ggX3_lookBack_X0_columnCells
set_option maxRecDepth 20000 in
theorem ggX3_lookBack_X4_entry : GoodIn wsX3_lookBack wsX4_entry := goodIn_r _ [23] (by decide +kernel) (by decide +kernel)
set_option maxRecDepth 20000 in
theorem gX3_lookBack_X4_entry_n66 : GoodIn wsX3_lookBack (wsX4_entry) := ggX3_lookBack_X4_entry
set_option maxRecDepth 20000 in
theorem ggX3_lookBack_X0_spread : GoodIn wsX3_lookBack wsX0_spread := goodIn_r _ [95, 39, 96, 88, 89, 31, 90, 91, 97, 98, 99, 100, 101, 102, 103, 104, 117, 118, 119, 120, 121, 122, 123, 124, 125, 126, 127, 128] (by decide +kernel) (by decide +kernel)
set_option maxRecDepth 20000 in
theorem gX3_lookBack_X0_spread : GoodIn wsX3_lookBack (wsV RX3 43 RX0 yX0_spread wsX0_spread) := goodIn_app (goodIn_of _ (by decide +kernel)) ggX3_lookBack_X0_spread
theorem dX3_lookBack_0 : decode cX3_lookBack 0 = .ok (.iconst 0, 1) := by decide +kernel
theorem dX3_lookBack_1 : decode cX3_lookBack 1 = .ok (.istore 4, 2) := by decide +kernel
theorem dX3_lookBack_3 : decode cX3_lookBack 3 = .ok (.iload 4, 2) := by decide +kernel
theorem dX3_lookBack_5 : decode cX3_lookBack 5 = .ok (.iload_n 3, 1) := by decide +kernel
theorem dX3_lookBack_6 : decode cX3_lookBack 6 = .ok (.if_icmp .ge 28, 3) := by decide +kernel
theorem dX3_lookBack_9 : decode cX3_lookBack 9 = .ok (.aload_n 0, 1) := by decide +kernel
theorem dX3_lookBack_10 : decode cX3_lookBack 10 = .ok (.getfield 9, 3) := by decide +kernel
theorem dX3_lookBack_13 : decode cX3_lookBack 13 = .ok (.iload 4, 2) := by decide +kernel
theorem dX3_lookBack_15 : decode cX3_lookBack 15 = .ok (.aload_n 2, 1) := by decide +kernel
theorem dX3_lookBack_16 : decode cX3_lookBack 16 = .ok (.getfield 35, 3) := by decide +kernel
theorem dX3_lookBack_19 : decode cX3_lookBack 19 = .ok (.invokestatic 62, 3) := by decide +kernel
theorem dX3_lookBack_22 : decode cX3_lookBack 22 = .ok (.aload_n 2, 1) := by decide +kernel
theorem dX3_lookBack_23 : decode cX3_lookBack 23 = .ok (.aload_n 1, 1) := by decide +kernel
theorem dX3_lookBack_24 : decode cX3_lookBack 24 = .ok (.invokevirtual 39, 3) := by decide +kernel
theorem dX3_lookBack_27 : decode cX3_lookBack 27 = .ok (.pop, 1) := by decide +kernel
theorem dX3_lookBack_28 : decode cX3_lookBack 28 = .ok (.iinc 4 1, 3) := by decide +kernel
theorem dX3_lookBack_31 : decode cX3_lookBack 31 = .ok (.goto (-28), 3) := by decide +kernel
theorem dX3_lookBack_34 : decode cX3_lookBack 34 = .ok (.aload_n 0, 1) := by decide +kernel
theorem dX3_lookBack_35 : decode cX3_lookBack 35 = .ok (.getfield 15, 3) := by decide +kernel
theorem dX3_lookBack_38 : decode cX3_lookBack 38 = .ok (.iload_n 3, 1) := by decide +kernel
theorem dX3_lookBack_39 : decode cX3_lookBack 39 = .ok (.iconst 1, 1) := by decide +kernel
theorem dX3_lookBack_40 : decode cX3_lookBack 40 = .ok (.isub, 1) := by decide +kernel
theorem dX3_lookBack_41 : decode cX3_lookBack 41 = .ok (.aload_n 1, 1) := by decide +kernel
theorem dX3_lookBack_42 : decode cX3_lookBack 42 = .ok (.aload_n 1, 1) := by decide +kernel
theorem dX3_lookBack_43 : decode cX3_lookBack 43 = .ok (.getfield 31, 3) := by decide +kernel
theorem dX3_lookBack_46 : decode cX3_lookBack 46 = .ok (.iconst 1, 1) := by decide +kernel
theorem dX3_lookBack_47 : decode cX3_lookBack 47 = .ok (.isub, 1) := by decide +kernel
theorem dX3_lookBack_48 : decode cX3_lookBack 48 = .ok (.invokevirtual 25, 3) := by decide +kernel
theorem dX3_lookBack_51 : decode cX3_lookBack 51 = .ok (.invokestatic 62, 3) := by decide +kernel
theorem dX3_lookBack_54 : decode cX3_lookBack 54 = .ok (.iload_n 3, 1) := by decide +kernel
theorem dX3_lookBack_55 : decode cX3_lookBack 55 = .ok (.iconst 2, 1) := by decide +kernel
theorem dX3_lookBack_56 : decode cX3_lookBack 56 = .ok (.isub, 1) := by decide +kernel
theorem dX3_lookBack_57 : decode cX3_lookBack 57 = .ok (.istore 4, 2) := by decide +kernel
theorem dX3_lookBack_59 : decode cX3_lookBack 59 = .ok (.iload 4, 2) := by decide +kernel
theorem dX3_lookBack_61 : decode cX3_lookBack 61 = .ok (.ifCond .lt 63, 3) := by decide +kernel
theorem dX3_lookBack_64 : decode cX3_lookBack 64 = .ok (.aload_n 0, 1) := by decide +kernel
theorem dX3_lookBack_65 : decode cX3_lookBack 65 = .ok (.getfield 15, 3) := by decide +kernel
theorem dX3_lookBack_68 : decode cX3_lookBack 68 = .ok (.iload 4, 2) := by decide +kernel
theorem dX3_lookBack_70 : decode cX3_lookBack 70 = .ok (.iconst 1, 1) := by decide +kernel
theorem dX3_lookBack_71 : decode cX3_lookBack 71 = .ok (.iadd, 1) := by decide +kernel
theorem dX3_lookBack_72 : decode cX3_lookBack 72 = .ok (.invokestatic 66, 3) := by decide +kernel
theorem dX3_lookBack_75 : decode cX3_lookBack 75 = .ok (.aload_n 0, 1) := by decide +kernel
theorem dX3_lookBack_76 : decode cX3_lookBack 76 = .ok (.getfield 9, 3) := by decide +kernel
theorem dX3_lookBack_79 : decode cX3_lookBack 79 = .ok (.iload 4, 2) := by decide +kernel
theorem dX3_lookBack_81 : decode cX3_lookBack 81 = .ok (.invokestatic 66, 3) := by decide +kernel
theorem dX3_lookBack_84 : decode cX3_lookBack 84 = .ok (.iconst (-1), 1) := by decide +kernel
theorem dX3_lookBack_85 : decode cX3_lookBack 85 = .ok (.ixor, 1) := by decide +kernel
theorem dX3_lookBack_86 : decode cX3_lookBack 86 = .ok (.iand, 1) := by decide +kernel
theorem dX3_lookBack_87 : decode cX3_lookBack 87 = .ok (.aload_n 0, 1) := by decide +kernel
theorem dX3_lookBack_88 : decode cX3_lookBack 88 = .ok (.getfield 9, 3) := by decide +kernel
theorem dX3_lookBack_91 : decode cX3_lookBack 91 = .ok (.iload 4, 2) := by decide +kernel
theorem dX3_lookBack_93 : decode cX3_lookBack 93 = .ok (.iconst 1, 1) := by decide +kernel
theorem dX3_lookBack_94 : decode cX3_lookBack 94 = .ok (.iadd, 1) := by decide +kernel
theorem dX3_lookBack_95 : decode cX3_lookBack 95 = .ok (.invokestatic 66, 3) := by decide +kernel
theorem dX3_lookBack_98 : decode cX3_lookBack 98 = .ok (.iconst (-1), 1) := by decide +kernel
theorem dX3_lookBack_99 : decode cX3_lookBack 99 = .ok (.ixor, 1) := by decide +kernel
theorem dX3_lookBack_100 : decode cX3_lookBack 100 = .ok (.iand, 1) := by decide +kernel
theorem dX3_lookBack_101 : decode cX3_lookBack 101 = .ok (.istore 5, 2) := by decide +kernel
theorem dX3_lookBack_103 : decode cX3_lookBack 103 = .ok (.aload_n 0, 1) := by decide +kernel
theorem dX3_lookBack_104 : decode cX3_lookBack 104 = .ok (.getfield 15, 3) := by decide +kernel
theorem dX3_lookBack_107 : decode cX3_lookBack 107 = .ok (.iload 4, 2) := by decide +kernel
theorem dX3_lookBack_109 : decode cX3_lookBack 109 = .ok (.aload_n 1, 1) := by decide +kernel
theorem dX3_lookBack_110 : decode cX3_lookBack 110 = .ok (.iload 5, 2) := by decide +kernel
theorem dX3_lookBack_112 : decode cX3_lookBack 112 = .ok (.invokevirtual 43, 3) := by decide +kernel
theorem dX3_lookBack_115 : decode cX3_lookBack 115 = .ok (.invokestatic 62, 3) := by decide +kernel
theorem dX3_lookBack_118 : decode cX3_lookBack 118 = .ok (.iinc 4 (-1), 3) := by decide +kernel
theorem dX3_lookBack_121 : decode cX3_lookBack 121 = .ok (.goto (-62), 3) := by decide +kernel
theorem dX3_lookBack_124 : decode cX3_lookBack 124 = .ok (.return_, 1) := by decide +kernel
set_option maxRecDepth 20000 in
theorem ggX3_firstEntry_X3_isHopeful : GoodIn wsX3_firstEntry wsX3_isHopeful := goodIn_r _ [7, 8, 9, 10, 11, 12, 13, 14, 27, 28, 29, 30] (by decide +kernel) (by decide +kernel)
set_option maxRecDepth 20000 in
theorem gX3_firstEntry_X3_isHopeful : GoodIn wsX3_firstEntry (wsV RX3 73 RX3 yX3_isHopeful wsX3_isHopeful) := goodIn_app (goodIn_of _ (by decide +kernel)) ggX3_firstEntry_X3_isHopeful
theorem dX3_firstEntry_0 : decode cX3_firstEntry 0 = .ok (.iconst 0, 1) := by decide +kernel
theorem dX3_firstEntry_1 : decode cX3_firstEntry 1 = .ok (.istore_n 3, 1) := by decide +kernel
theorem dX3_firstEntry_2 : decode cX3_firstEntry 2 = .ok (.iload_n 3, 1) := by decide +kernel
theorem dX3_firstEntry_3 : decode cX3_firstEntry 3 = .ok (.aload_n 1, 1) := by decide +kernel
theorem dX3_firstEntry_4 : decode cX3_firstEntry 4 = .ok (.getfield 70, 3) := by decide +kernel
theorem dX3_firstEntry_7 : decode cX3_firstEntry 7 = .ok (.if_icmp .ge 27, 3) := by decide +kernel
theorem dX3_firstEntry_10 : decode cX3_firstEntry 10 = .ok (.aload_n 0, 1) := by decide +kernel
theorem dX3_firstEntry_11 : decode cX3_firstEntry 11 = .ok (.iload_n 3, 1) := by decide +kernel
theorem dX3_firstEntry_12 : decode cX3_firstEntry 12 = .ok (.aload_n 1, 1) := by decide +kernel
theorem dX3_firstEntry_13 : decode cX3_firstEntry 13 = .ok (.getfield 31, 3) := by decide +kernel
theorem dX3_firstEntry_16 : decode cX3_firstEntry 16 = .ok (.imul, 1) := by decide +kernel
theorem dX3_firstEntry_17 : decode cX3_firstEntry 17 = .ok (.iload_n 2, 1) := by decide +kernel
theorem dX3_firstEntry_18 : decode cX3_firstEntry 18 = .ok (.invokevirtual 73, 3) := by decide +kernel
theorem dX3_firstEntry_21 : decode cX3_firstEntry 21 = .ok (.ifCond .eq 7, 3) := by decide +kernel
theorem dX3_firstEntry_24 : decode cX3_firstEntry 24 = .ok (.iconst 5, 1) := by decide +kernel
theorem dX3_firstEntry_25 : decode cX3_firstEntry 25 = .ok (.iload_n 3, 1) := by decide +kernel
theorem dX3_firstEntry_26 : decode cX3_firstEntry 26 = .ok (.iadd, 1) := by decide +kernel
theorem dX3_firstEntry_27 : decode cX3_firstEntry 27 = .ok (.ireturn, 1) := by decide +kernel
theorem dX3_firstEntry_28 : decode cX3_firstEntry 28 = .ok (.iinc 3 1, 3) := by decide +kernel
theorem dX3_firstEntry_31 : decode cX3_firstEntry 31 = .ok (.goto (-29), 3) := by decide +kernel
theorem dX3_firstEntry_34 : decode cX3_firstEntry 34 = .ok (.bipush 8, 2) := by decide +kernel
theorem dX3_firstEntry_36 : decode cX3_firstEntry 36 = .ok (.ireturn, 1) := by decide +kernel
set_option maxRecDepth 20000 in
theorem ggX3_firstMove_X0_cellBy : GoodIn wsX3_firstMove wsX0_cellBy := goodIn_r _ [5, 6, 7, 8, 9, 4, 10, 11, 12, 13, 14, 15, 28, 29, 30, 31, 32, 33, 34, 35, 36, 37, 38, 39] (by decide +kernel) (by decide +kernel)
set_option maxRecDepth 20000 in
theorem gX3_firstMove_X0_cellBy : GoodIn wsX3_firstMove (wsV RX3 58 RX0 yX0_cellBy wsX0_cellBy) := goodIn_app (goodIn_of _ (by decide +kernel)) ggX3_firstMove_X0_cellBy
set_option maxRecDepth 20000 in
theorem ggX3_firstMove_X3_isHopeful : GoodIn wsX3_firstMove wsX3_isHopeful := goodIn_r _ [20, 21, 22, 23, 24, 25, 26, 27, 40, 41, 42, 43] (by decide +kernel) (by decide +kernel)
set_option maxRecDepth 20000 in
theorem gX3_firstMove_X3_isHopeful : GoodIn wsX3_firstMove (wsV RX3 73 RX3 yX3_isHopeful wsX3_isHopeful) := goodIn_app (goodIn_of _ (by decide +kernel)) ggX3_firstMove_X3_isHopeful
theorem dX3_firstMove_0 : decode cX3_firstMove 0 = .ok (.iload_n 3, 1) := by decide +kernel
theorem dX3_firstMove_1 : decode cX3_firstMove 1 = .ok (.iconst 1, 1) := by decide +kernel
theorem dX3_firstMove_2 : decode cX3_firstMove 2 = .ok (.iadd, 1) := by decide +kernel
theorem dX3_firstMove_3 : decode cX3_firstMove 3 = .ok (.iload 4, 2) := by decide +kernel
theorem dX3_firstMove_5 : decode cX3_firstMove 5 = .ok (.if_icmp .lt 5, 3) := by decide +kernel
theorem dX3_firstMove_8 : decode cX3_firstMove 8 = .ok (.iconst 0, 1) := by decide +kernel
theorem dX3_firstMove_9 : decode cX3_firstMove 9 = .ok (.ireturn, 1) := by decide +kernel
theorem dX3_firstMove_10 : decode cX3_firstMove 10 = .ok (.iconst 0, 1) := by decide +kernel
theorem dX3_firstMove_11 : decode cX3_firstMove 11 = .ok (.istore 5, 2) := by decide +kernel
theorem dX3_firstMove_13 : decode cX3_firstMove 13 = .ok (.iload 5, 2) := by decide +kernel
theorem dX3_firstMove_15 : decode cX3_firstMove 15 = .ok (.iconst 4, 1) := by decide +kernel
theorem dX3_firstMove_16 : decode cX3_firstMove 16 = .ok (.if_icmp .ge 27, 3) := by decide +kernel
theorem dX3_firstMove_19 : decode cX3_firstMove 19 = .ok (.aload_n 0, 1) := by decide +kernel
theorem dX3_firstMove_20 : decode cX3_firstMove 20 = .ok (.aload_n 1, 1) := by decide +kernel
theorem dX3_firstMove_21 : decode cX3_firstMove 21 = .ok (.iload_n 2, 1) := by decide +kernel
theorem dX3_firstMove_22 : decode cX3_firstMove 22 = .ok (.iload 5, 2) := by decide +kernel
theorem dX3_firstMove_24 : decode cX3_firstMove 24 = .ok (.invokevirtual 58, 3) := by decide +kernel
theorem dX3_firstMove_27 : decode cX3_firstMove 27 = .ok (.iload_n 3, 1) := by decide +kernel
theorem dX3_firstMove_28 : decode cX3_firstMove 28 = .ok (.invokevirtual 73, 3) := by decide +kernel
theorem dX3_firstMove_31 : decode cX3_firstMove 31 = .ok (.ifCond .eq 6, 3) := by decide +kernel
theorem dX3_firstMove_34 : decode cX3_firstMove 34 = .ok (.iload 5, 2) := by decide +kernel
theorem dX3_firstMove_36 : decode cX3_firstMove 36 = .ok (.ireturn, 1) := by decide +kernel
theorem dX3_firstMove_37 : decode cX3_firstMove 37 = .ok (.iinc 5 1, 3) := by decide +kernel
theorem dX3_firstMove_40 : decode cX3_firstMove 40 = .ok (.goto (-27), 3) := by decide +kernel
theorem dX3_firstMove_43 : decode cX3_firstMove 43 = .ok (.iconst 4, 1) := by decide +kernel
theorem dX3_firstMove_44 : decode cX3_firstMove 44 = .ok (.ireturn, 1) := by decide +kernel
set_option maxRecDepth 20000 in
theorem ggX3_isHopeful_X4_entry : GoodIn wsX3_isHopeful wsX4_entry := goodIn_r _ [5] (by decide +kernel) (by decide +kernel)
set_option maxRecDepth 20000 in
theorem gX3_isHopeful_X4_entry_n66 : GoodIn wsX3_isHopeful (wsX4_entry) := ggX3_isHopeful_X4_entry
set_option maxRecDepth 20000 in
theorem ggX3_isHopeful_X4_hasBit : GoodIn wsX3_isHopeful wsX4_hasBit := goodIn_r _ [7] (by decide +kernel) (by decide +kernel)
set_option maxRecDepth 20000 in
theorem gX3_isHopeful_X4_hasBit_n77 : GoodIn wsX3_isHopeful (wsX4_hasBit) := ggX3_isHopeful_X4_hasBit
theorem dX3_isHopeful_0 : decode cX3_isHopeful 0 = .ok (.aload_n 0, 1) := by decide +kernel
theorem dX3_isHopeful_1 : decode cX3_isHopeful 1 = .ok (.getfield 15, 3) := by decide +kernel
theorem dX3_isHopeful_4 : decode cX3_isHopeful 4 = .ok (.iload_n 2, 1) := by decide +kernel
theorem dX3_isHopeful_5 : decode cX3_isHopeful 5 = .ok (.iconst 1, 1) := by decide +kernel
theorem dX3_isHopeful_6 : decode cX3_isHopeful 6 = .ok (.iadd, 1) := by decide +kernel
theorem dX3_isHopeful_7 : decode cX3_isHopeful 7 = .ok (.invokestatic 66, 3) := by decide +kernel
theorem dX3_isHopeful_10 : decode cX3_isHopeful 10 = .ok (.aload_n 0, 1) := by decide +kernel
theorem dX3_isHopeful_11 : decode cX3_isHopeful 11 = .ok (.getfield 9, 3) := by decide +kernel
theorem dX3_isHopeful_14 : decode cX3_isHopeful 14 = .ok (.iload_n 2, 1) := by decide +kernel
theorem dX3_isHopeful_15 : decode cX3_isHopeful 15 = .ok (.invokestatic 66, 3) := by decide +kernel
theorem dX3_isHopeful_18 : decode cX3_isHopeful 18 = .ok (.iconst (-1), 1) := by decide +kernel
theorem dX3_isHopeful_19 : decode cX3_isHopeful 19 = .ok (.ixor, 1) := by decide +kernel
theorem dX3_isHopeful_20 : decode cX3_isHopeful 20 = .ok (.iand, 1) := by decide +kernel
theorem dX3_isHopeful_21 : decode cX3_isHopeful 21 = .ok (.aload_n 0, 1) := by decide +kernel
theorem dX3_isHopeful_22 : decode cX3_isHopeful 22 = .ok (.getfield 9, 3) := by decide +kernel
theorem dX3_isHopeful_25 : decode cX3_isHopeful 25 = .ok (.iload_n 2, 1) := by decide +kernel
theorem dX3_isHopeful_26 : decode cX3_isHopeful 26 = .ok (.iconst 1, 1) := by decide +kernel
theorem dX3_isHopeful_27 : decode cX3_isHopeful 27 = .ok (.iadd, 1) := by decide +kernel
theorem dX3_isHopeful_28 : decode cX3_isHopeful 28 = .ok (.invokestatic 66, 3) := by decide +kernel
theorem dX3_isHopeful_31 : decode cX3_isHopeful 31 = .ok (.iconst (-1), 1) := by decide +kernel
theorem dX3_isHopeful_32 : decode cX3_isHopeful 32 = .ok (.ixor, 1) := by decide +kernel
theorem dX3_isHopeful_33 : decode cX3_isHopeful 33 = .ok (.iand, 1) := by decide +kernel
theorem dX3_isHopeful_34 : decode cX3_isHopeful 34 = .ok (.iload_n 1, 1) := by decide +kernel
theorem dX3_isHopeful_35 : decode cX3_isHopeful 35 = .ok (.invokestatic 77, 3) := by decide +kernel
theorem dX3_isHopeful_38 : decode cX3_isHopeful 38 = .ok (.ireturn, 1) := by decide +kernel
set_option maxRecDepth 20000 in
theorem ggX3_countThrough_J7_fill_d0a16 : GoodIn wsX3_countThrough wsJ7_fill_d0a16 := goodIn_r _ [8] (by decide +kernel) (by decide +kernel)
set_option maxRecDepth 20000 in
theorem gX3_countThrough_J7_fill_d0a16 : GoodIn wsX3_countThrough (va_wsS RX3 80 yJ7_fill_d0a16 wsJ7_fill_d0a16) := goodIn_app (goodIn_of _ (by decide +kernel)) ggX3_countThrough_J7_fill_d0a16
set_option maxRecDepth 20000 in
theorem ggX3_countThrough_X2_passMinute : GoodIn wsX3_countThrough wsX2_passMinute := goodIn_r _ [13, 14, 15, 16, 17, 18, 19, 20, 21, 12, 22, 23, 24, 25, 26, 27, 28, 29, 30, 31, 32, 33, 34, 35, 36, 37, 38, 39, 40, 41, 42, 43, 44, 45, 46, 47, 48, 49, 50, 51, 52, 53, 54, 55, 56, 57, 58, 59, 60, 61, 62, 63, 64, 65, 66, 67, 68, 69, 70, 71, 72, 73, 74, 75, 76, 77, 78, 79, 80, 81, 82, 83, 84, 85, 86, 87, 88, 89, 90, 131, 132, 133, 134, 135, 136, 137, 138, 139, 140, 141, 142, 143, 144, 145, 146, 147, 148, 149, 150] (by decide +kernel) (by decide +kernel)
set_option maxRecDepth 20000 in
theorem gX3_countThrough_X2_passMinute : GoodIn wsX3_countThrough (wsV RX3 39 RX2 yX2_passMinute wsX2_passMinute) := goodIn_app (goodIn_of _ (by decide +kernel)) ggX3_countThrough_X2_passMinute
set_option maxRecDepth 20000 in
theorem ggX3_countThrough_X3_countMinute : GoodIn wsX3_countThrough wsX3_countMinute := goodIn_r _ [95, 96, 1, 5, 6, 7, 8, 97, 98, 99, 100, 101, 102, 103, 104, 105, 106, 33, 107, 41, 108, 61, 24, 62, 109, 110, 111, 94, 112, 113, 49, 50, 51, 114, 115, 116, 117, 48, 118, 119, 120, 121, 122, 123, 124, 125, 126, 127, 128, 129, 130, 139, 140, 141, 142, 143, 144, 145, 146, 147, 148, 149, 150] (by decide +kernel) (by decide +kernel)
set_option maxRecDepth 20000 in
theorem gX3_countThrough_X3_countMinute : GoodIn wsX3_countThrough (wsV RX3 86 RX3 yX3_countMinute wsX3_countMinute) := goodIn_app (goodIn_of _ (by decide +kernel)) ggX3_countThrough_X3_countMinute
set_option maxRecDepth 20000 in
theorem ggX3_countThrough_J6_bitCount_0f7a4 : GoodIn wsX3_countThrough wsJ6_bitCount_0f7a4 := goodIn_r _ [100, 101, 102, 103] (by decide +kernel) (by decide +kernel)
set_option maxRecDepth 20000 in
theorem gX3_countThrough_J6_bitCount_0f7a4 : GoodIn wsX3_countThrough (va_wsS RX3 90 yJ6_bitCount_0f7a4 wsJ6_bitCount_0f7a4) := goodIn_app (goodIn_of _ (by decide +kernel)) ggX3_countThrough_J6_bitCount_0f7a4
set_option maxRecDepth 20000 in
theorem ggX3_countThrough_X3_countAt : GoodIn wsX3_countThrough wsX3_countAt := goodIn_r _ [122, 1, 123, 24, 124, 127, 128, 129, 130] (by decide +kernel) (by decide +kernel)
set_option maxRecDepth 20000 in
theorem gX3_countThrough_X3_countAt : GoodIn wsX3_countThrough (wsV RX3 95 RX3 yX3_countAt wsX3_countAt) := goodIn_app (goodIn_of _ (by decide +kernel)) ggX3_countThrough_X3_countAt
theorem dX3_countThrough_0 : decode cX3_countThrough 0 = .ok (.aload_n 0, 1) := by decide +kernel
theorem dX3_countThrough_1 : decode cX3_countThrough 1 = .ok (.getfield 18, 3) := by decide +kernel
theorem dX3_countThrough_4 : decode cX3_countThrough 4 = .ok (.lconst 0, 1) := by decide +kernel
theorem dX3_countThrough_5 : decode cX3_countThrough 5 = .ok (.invokestatic 80, 3) := by decide +kernel
theorem dX3_countThrough_8 : decode cX3_countThrough 8 = .ok (.iconst 1, 1) := by decide +kernel
theorem dX3_countThrough_9 : decode cX3_countThrough 9 = .ok (.istore 5, 2) := by decide +kernel
theorem dX3_countThrough_11 : decode cX3_countThrough 11 = .ok (.iload 5, 2) := by decide +kernel
theorem dX3_countThrough_13 : decode cX3_countThrough 13 = .ok (.iload 4, 2) := by decide +kernel
theorem dX3_countThrough_15 : decode cX3_countThrough 15 = .ok (.if_icmp .ge 33, 3) := by decide +kernel
theorem dX3_countThrough_18 : decode cX3_countThrough 18 = .ok (.aload_n 2, 1) := by decide +kernel
theorem dX3_countThrough_19 : decode cX3_countThrough 19 = .ok (.getfield 35, 3) := by decide +kernel
theorem dX3_countThrough_22 : decode cX3_countThrough 22 = .ok (.istore 6, 2) := by decide +kernel
theorem dX3_countThrough_24 : decode cX3_countThrough 24 = .ok (.aload_n 2, 1) := by decide +kernel
theorem dX3_countThrough_25 : decode cX3_countThrough 25 = .ok (.aload_n 1, 1) := by decide +kernel
theorem dX3_countThrough_26 : decode cX3_countThrough 26 = .ok (.invokevirtual 39, 3) := by decide +kernel
theorem dX3_countThrough_29 : decode cX3_countThrough 29 = .ok (.pop, 1) := by decide +kernel
theorem dX3_countThrough_30 : decode cX3_countThrough 30 = .ok (.aload_n 0, 1) := by decide +kernel
theorem dX3_countThrough_31 : decode cX3_countThrough 31 = .ok (.aload_n 1, 1) := by decide +kernel
theorem dX3_countThrough_32 : decode cX3_countThrough 32 = .ok (.iload_n 3, 1) := by decide +kernel
theorem dX3_countThrough_33 : decode cX3_countThrough 33 = .ok (.iload 6, 2) := by decide +kernel
theorem dX3_countThrough_35 : decode cX3_countThrough 35 = .ok (.aload_n 2, 1) := by decide +kernel
theorem dX3_countThrough_36 : decode cX3_countThrough 36 = .ok (.getfield 35, 3) := by decide +kernel
theorem dX3_countThrough_39 : decode cX3_countThrough 39 = .ok (.invokevirtual 86, 3) := by decide +kernel
theorem dX3_countThrough_42 : decode cX3_countThrough 42 = .ok (.iinc 5 1, 3) := by decide +kernel
theorem dX3_countThrough_45 : decode cX3_countThrough 45 = .ok (.goto (-34), 3) := by decide +kernel
theorem dX3_countThrough_48 : decode cX3_countThrough 48 = .ok (.iconst 1, 1) := by decide +kernel
theorem dX3_countThrough_49 : decode cX3_countThrough 49 = .ok (.iload_n 3, 1) := by decide +kernel
theorem dX3_countThrough_50 : decode cX3_countThrough 50 = .ok (.invokestatic 90, 3) := by decide +kernel
theorem dX3_countThrough_53 : decode cX3_countThrough 53 = .ok (.ishl, 1) := by decide +kernel
theorem dX3_countThrough_54 : decode cX3_countThrough 54 = .ok (.iconst 1, 1) := by decide +kernel
theorem dX3_countThrough_55 : decode cX3_countThrough 55 = .ok (.isub, 1) := by decide +kernel
theorem dX3_countThrough_56 : decode cX3_countThrough 56 = .ok (.istore 5, 2) := by decide +kernel
theorem dX3_countThrough_58 : decode cX3_countThrough 58 = .ok (.lconst 0, 1) := by decide +kernel
theorem dX3_countThrough_59 : decode cX3_countThrough 59 = .ok (.lstore 6, 2) := by decide +kernel
theorem dX3_countThrough_61 : decode cX3_countThrough 61 = .ok (.iconst 0, 1) := by decide +kernel
theorem dX3_countThrough_62 : decode cX3_countThrough 62 = .ok (.istore 8, 2) := by decide +kernel
theorem dX3_countThrough_64 : decode cX3_countThrough 64 = .ok (.iload 8, 2) := by decide +kernel
theorem dX3_countThrough_66 : decode cX3_countThrough 66 = .ok (.aload_n 1, 1) := by decide +kernel
theorem dX3_countThrough_67 : decode cX3_countThrough 67 = .ok (.getfield 70, 3) := by decide +kernel
theorem dX3_countThrough_70 : decode cX3_countThrough 70 = .ok (.if_icmp .ge 34, 3) := by decide +kernel
theorem dX3_countThrough_73 : decode cX3_countThrough 73 = .ok (.lload 6, 2) := by decide +kernel
theorem dX3_countThrough_75 : decode cX3_countThrough 75 = .ok (.aload_n 0, 1) := by decide +kernel
theorem dX3_countThrough_76 : decode cX3_countThrough 76 = .ok (.iload 8, 2) := by decide +kernel
theorem dX3_countThrough_78 : decode cX3_countThrough 78 = .ok (.aload_n 1, 1) := by decide +kernel
theorem dX3_countThrough_79 : decode cX3_countThrough 79 = .ok (.getfield 31, 3) := by decide +kernel
theorem dX3_countThrough_82 : decode cX3_countThrough 82 = .ok (.imul, 1) := by decide +kernel
theorem dX3_countThrough_83 : decode cX3_countThrough 83 = .ok (.aload_n 1, 1) := by decide +kernel
theorem dX3_countThrough_84 : decode cX3_countThrough 84 = .ok (.getfield 31, 3) := by decide +kernel
theorem dX3_countThrough_87 : decode cX3_countThrough 87 = .ok (.iadd, 1) := by decide +kernel
theorem dX3_countThrough_88 : decode cX3_countThrough 88 = .ok (.iconst 1, 1) := by decide +kernel
theorem dX3_countThrough_89 : decode cX3_countThrough 89 = .ok (.isub, 1) := by decide +kernel
theorem dX3_countThrough_90 : decode cX3_countThrough 90 = .ok (.iload 5, 2) := by decide +kernel
theorem dX3_countThrough_92 : decode cX3_countThrough 92 = .ok (.invokevirtual 95, 3) := by decide +kernel
theorem dX3_countThrough_95 : decode cX3_countThrough 95 = .ok (.ladd, 1) := by decide +kernel
theorem dX3_countThrough_96 : decode cX3_countThrough 96 = .ok (.lstore 6, 2) := by decide +kernel
theorem dX3_countThrough_98 : decode cX3_countThrough 98 = .ok (.iinc 8 1, 3) := by decide +kernel
theorem dX3_countThrough_101 : decode cX3_countThrough 101 = .ok (.goto (-37), 3) := by decide +kernel
theorem dX3_countThrough_104 : decode cX3_countThrough 104 = .ok (.lload 6, 2) := by decide +kernel
theorem dX3_countThrough_106 : decode cX3_countThrough 106 = .ok (.lreturn, 1) := by decide +kernel
set_option maxRecDepth 20000 in
theorem ggX3_countMinute_J7_fill_d0a16 : GoodIn wsX3_countMinute wsJ7_fill_d0a16 := goodIn_r _ [6] (by decide +kernel) (by decide +kernel)
set_option maxRecDepth 20000 in
theorem gX3_countMinute_J7_fill_d0a16 : GoodIn wsX3_countMinute (va_wsS RX3 80 yJ7_fill_d0a16 wsJ7_fill_d0a16) := goodIn_app (goodIn_of _ (by decide +kernel)) ggX3_countMinute_J7_fill_d0a16
set_option maxRecDepth 20000 in
theorem ggX3_countMinute_J6_bitCount_0f7a4 : GoodIn wsX3_countMinute wsJ6_bitCount_0f7a4 := goodIn_r _ [10, 11, 12, 13] (by decide +kernel) (by decide +kernel)
set_option maxRecDepth 20000 in
theorem gX3_countMinute_J6_bitCount_0f7a4 : GoodIn wsX3_countMinute (va_wsS RX3 90 yJ6_bitCount_0f7a4 wsJ6_bitCount_0f7a4) := goodIn_app (goodIn_of _ (by decide +kernel)) ggX3_countMinute_J6_bitCount_0f7a4
set_option maxRecDepth 20000 in
theorem ggX3_countMinute_X0_cells : GoodIn wsX3_countMinute wsX0_cells := goodIn_r _ [18, 19, 20, 51, 52, 53, 54, 55, 56, 57, 58, 59, 60, 61, 62] (by decide +kernel) (by decide +kernel)
set_option maxRecDepth 20000 in
theorem gX3_countMinute_X0_cells : GoodIn wsX3_countMinute (wsV RX3 99 RX0 yX0_cells wsX0_cells) := goodIn_app (goodIn_of _ (by decide +kernel)) ggX3_countMinute_X0_cells
set_option maxRecDepth 20000 in
theorem ggX3_countMinute_X4_hasBit : GoodIn wsX3_countMinute wsX4_hasBit := goodIn_r _ [23] (by decide +kernel) (by decide +kernel)
set_option maxRecDepth 20000 in
theorem gX3_countMinute_X4_hasBit_n77 : GoodIn wsX3_countMinute (wsX4_hasBit) := ggX3_countMinute_X4_hasBit
set_option maxRecDepth 20000 in
theorem ggX3_countMinute_X3_countComing : GoodIn wsX3_countMinute wsX3_countComing := goodIn_r _ [28, 29, 30, 31, 17, 32, 19, 33, 34, 35, 36, 37, 38, 15, 16, 18, 20, 39, 40, 41, 27, 42, 2, 43, 22, 44, 51, 52, 53, 54, 55, 56, 57, 58, 59, 60, 61, 62, 47, 48, 49, 50] (by decide +kernel) (by decide +kernel)
set_option maxRecDepth 20000 in
theorem gX3_countMinute_X3_countComing : GoodIn wsX3_countMinute (wsV RX3 103 RX3 yX3_countComing wsX3_countComing) := goodIn_app (goodIn_of _ (by decide +kernel)) ggX3_countMinute_X3_countComing
set_option maxRecDepth 20000 in
theorem ggX3_countMinute_X4_add : GoodIn wsX3_countMinute wsX4_add := goodIn_r _ [46] (by decide +kernel) (by decide +kernel)
set_option maxRecDepth 20000 in
theorem gX3_countMinute_X4_add_n107 : GoodIn wsX3_countMinute (wsX4_add) := ggX3_countMinute_X4_add
theorem dX3_countMinute_0 : decode cX3_countMinute 0 = .ok (.aload_n 0, 1) := by decide +kernel
theorem dX3_countMinute_1 : decode cX3_countMinute 1 = .ok (.getfield 22, 3) := by decide +kernel
theorem dX3_countMinute_4 : decode cX3_countMinute 4 = .ok (.lconst 0, 1) := by decide +kernel
theorem dX3_countMinute_5 : decode cX3_countMinute 5 = .ok (.invokestatic 80, 3) := by decide +kernel
theorem dX3_countMinute_8 : decode cX3_countMinute 8 = .ok (.iconst 1, 1) := by decide +kernel
theorem dX3_countMinute_9 : decode cX3_countMinute 9 = .ok (.iload_n 2, 1) := by decide +kernel
theorem dX3_countMinute_10 : decode cX3_countMinute 10 = .ok (.invokestatic 90, 3) := by decide +kernel
theorem dX3_countMinute_13 : decode cX3_countMinute 13 = .ok (.ishl, 1) := by decide +kernel
theorem dX3_countMinute_14 : decode cX3_countMinute 14 = .ok (.istore 5, 2) := by decide +kernel
theorem dX3_countMinute_16 : decode cX3_countMinute 16 = .ok (.iconst 0, 1) := by decide +kernel
theorem dX3_countMinute_17 : decode cX3_countMinute 17 = .ok (.istore 6, 2) := by decide +kernel
theorem dX3_countMinute_19 : decode cX3_countMinute 19 = .ok (.iload 6, 2) := by decide +kernel
theorem dX3_countMinute_21 : decode cX3_countMinute 21 = .ok (.aload_n 1, 1) := by decide +kernel
theorem dX3_countMinute_22 : decode cX3_countMinute 22 = .ok (.invokevirtual 99, 3) := by decide +kernel
theorem dX3_countMinute_25 : decode cX3_countMinute 25 = .ok (.if_icmp .ge 92, 3) := by decide +kernel
theorem dX3_countMinute_28 : decode cX3_countMinute 28 = .ok (.iload_n 3, 1) := by decide +kernel
theorem dX3_countMinute_29 : decode cX3_countMinute 29 = .ok (.iload 4, 2) := by decide +kernel
theorem dX3_countMinute_31 : decode cX3_countMinute 31 = .ok (.ior, 1) := by decide +kernel
theorem dX3_countMinute_32 : decode cX3_countMinute 32 = .ok (.iload 6, 2) := by decide +kernel
theorem dX3_countMinute_34 : decode cX3_countMinute 34 = .ok (.invokestatic 77, 3) := by decide +kernel
theorem dX3_countMinute_37 : decode cX3_countMinute 37 = .ok (.ifCond .ne 74, 3) := by decide +kernel
theorem dX3_countMinute_40 : decode cX3_countMinute 40 = .ok (.iload_n 2, 1) := by decide +kernel
theorem dX3_countMinute_41 : decode cX3_countMinute 41 = .ok (.iload 6, 2) := by decide +kernel
theorem dX3_countMinute_43 : decode cX3_countMinute 43 = .ok (.invokestatic 77, 3) := by decide +kernel
theorem dX3_countMinute_46 : decode cX3_countMinute 46 = .ok (.ifCond .eq 19, 3) := by decide +kernel
theorem dX3_countMinute_49 : decode cX3_countMinute 49 = .ok (.iconst 1, 1) := by decide +kernel
theorem dX3_countMinute_50 : decode cX3_countMinute 50 = .ok (.iload_n 2, 1) := by decide +kernel
theorem dX3_countMinute_51 : decode cX3_countMinute 51 = .ok (.iconst 1, 1) := by decide +kernel
theorem dX3_countMinute_52 : decode cX3_countMinute 52 = .ok (.iload 6, 2) := by decide +kernel
theorem dX3_countMinute_54 : decode cX3_countMinute 54 = .ok (.ishl, 1) := by decide +kernel
theorem dX3_countMinute_55 : decode cX3_countMinute 55 = .ok (.iconst 1, 1) := by decide +kernel
theorem dX3_countMinute_56 : decode cX3_countMinute 56 = .ok (.isub, 1) := by decide +kernel
theorem dX3_countMinute_57 : decode cX3_countMinute 57 = .ok (.iand, 1) := by decide +kernel
theorem dX3_countMinute_58 : decode cX3_countMinute 58 = .ok (.invokestatic 90, 3) := by decide +kernel
theorem dX3_countMinute_61 : decode cX3_countMinute 61 = .ok (.ishl, 1) := by decide +kernel
theorem dX3_countMinute_62 : decode cX3_countMinute 62 = .ok (.goto 4, 3) := by decide +kernel
theorem dX3_countMinute_65 : decode cX3_countMinute 65 = .ok (.iconst 0, 1) := by decide +kernel
theorem dX3_countMinute_66 : decode cX3_countMinute 66 = .ok (.istore 7, 2) := by decide +kernel
theorem dX3_countMinute_68 : decode cX3_countMinute 68 = .ok (.iconst 0, 1) := by decide +kernel
theorem dX3_countMinute_69 : decode cX3_countMinute 69 = .ok (.istore 8, 2) := by decide +kernel
theorem dX3_countMinute_71 : decode cX3_countMinute 71 = .ok (.iload 8, 2) := by decide +kernel
theorem dX3_countMinute_73 : decode cX3_countMinute 73 = .ok (.iload 5, 2) := by decide +kernel
theorem dX3_countMinute_75 : decode cX3_countMinute 75 = .ok (.if_icmp .ge 36, 3) := by decide +kernel
theorem dX3_countMinute_78 : decode cX3_countMinute 78 = .ok (.aload_n 0, 1) := by decide +kernel
theorem dX3_countMinute_79 : decode cX3_countMinute 79 = .ok (.getfield 22, 3) := by decide +kernel
theorem dX3_countMinute_82 : decode cX3_countMinute 82 = .ok (.iload 6, 2) := by decide +kernel
theorem dX3_countMinute_84 : decode cX3_countMinute 84 = .ok (.bipush 16, 2) := by decide +kernel
theorem dX3_countMinute_86 : decode cX3_countMinute 86 = .ok (.imul, 1) := by decide +kernel
theorem dX3_countMinute_87 : decode cX3_countMinute 87 = .ok (.iload 8, 2) := by decide +kernel
theorem dX3_countMinute_89 : decode cX3_countMinute 89 = .ok (.iload 7, 2) := by decide +kernel
theorem dX3_countMinute_91 : decode cX3_countMinute 91 = .ok (.ior, 1) := by decide +kernel
theorem dX3_countMinute_92 : decode cX3_countMinute 92 = .ok (.iadd, 1) := by decide +kernel
theorem dX3_countMinute_93 : decode cX3_countMinute 93 = .ok (.aload_n 0, 1) := by decide +kernel
theorem dX3_countMinute_94 : decode cX3_countMinute 94 = .ok (.aload_n 1, 1) := by decide +kernel
theorem dX3_countMinute_95 : decode cX3_countMinute 95 = .ok (.iload 6, 2) := by decide +kernel
theorem dX3_countMinute_97 : decode cX3_countMinute 97 = .ok (.iload 8, 2) := by decide +kernel
theorem dX3_countMinute_99 : decode cX3_countMinute 99 = .ok (.invokevirtual 103, 3) := by decide +kernel
theorem dX3_countMinute_102 : decode cX3_countMinute 102 = .ok (.invokestatic 107, 3) := by decide +kernel
theorem dX3_countMinute_105 : decode cX3_countMinute 105 = .ok (.iinc 8 1, 3) := by decide +kernel
theorem dX3_countMinute_108 : decode cX3_countMinute 108 = .ok (.goto (-37), 3) := by decide +kernel
theorem dX3_countMinute_111 : decode cX3_countMinute 111 = .ok (.iinc 6 1, 3) := by decide +kernel
theorem dX3_countMinute_114 : decode cX3_countMinute 114 = .ok (.goto (-95), 3) := by decide +kernel
theorem dX3_countMinute_117 : decode cX3_countMinute 117 = .ok (.aload_n 0, 1) := by decide +kernel
theorem dX3_countMinute_118 : decode cX3_countMinute 118 = .ok (.getfield 18, 3) := by decide +kernel
theorem dX3_countMinute_121 : decode cX3_countMinute 121 = .ok (.astore 6, 2) := by decide +kernel
theorem dX3_countMinute_123 : decode cX3_countMinute 123 = .ok (.aload_n 0, 1) := by decide +kernel
theorem dX3_countMinute_124 : decode cX3_countMinute 124 = .ok (.aload_n 0, 1) := by decide +kernel
theorem dX3_countMinute_125 : decode cX3_countMinute 125 = .ok (.getfield 22, 3) := by decide +kernel
theorem dX3_countMinute_128 : decode cX3_countMinute 128 = .ok (.putfield 18, 3) := by decide +kernel
theorem dX3_countMinute_131 : decode cX3_countMinute 131 = .ok (.aload_n 0, 1) := by decide +kernel
theorem dX3_countMinute_132 : decode cX3_countMinute 132 = .ok (.aload 6, 2) := by decide +kernel
theorem dX3_countMinute_134 : decode cX3_countMinute 134 = .ok (.putfield 22, 3) := by decide +kernel
theorem dX3_countMinute_137 : decode cX3_countMinute 137 = .ok (.return_, 1) := by decide +kernel
set_option maxRecDepth 20000 in
theorem ggX3_countComing_X0_columnOf : GoodIn wsX3_countComing wsX0_columnOf := goodIn_r _ [5, 6, 26, 27, 28, 29, 30, 31, 32, 33, 34, 35, 36, 37] (by decide +kernel) (by decide +kernel)
set_option maxRecDepth 20000 in
theorem gX3_countComing_X0_columnOf : GoodIn wsX3_countComing (wsV RX3 111 RX0 yX0_columnOf wsX0_columnOf) := goodIn_app (goodIn_of _ (by decide +kernel)) ggX3_countComing_X0_columnOf
set_option maxRecDepth 20000 in
theorem ggX3_countComing_X0_cellBy : GoodIn wsX3_countComing wsX0_cellBy := goodIn_r _ [10, 6, 11, 2, 3, 4, 5, 12, 13, 14, 15, 16, 26, 27, 28, 29, 30, 31, 32, 33, 34, 35, 36, 37] (by decide +kernel) (by decide +kernel)
set_option maxRecDepth 20000 in
theorem gX3_countComing_X0_cellBy : GoodIn wsX3_countComing (wsV RX3 58 RX0 yX0_cellBy wsX0_cellBy) := goodIn_app (goodIn_of _ (by decide +kernel)) ggX3_countComing_X0_cellBy
set_option maxRecDepth 20000 in
theorem ggX3_countComing_X3_countAt : GoodIn wsX3_countComing wsX3_countAt := goodIn_r _ [21, 22, 23, 24, 25, 38, 39, 40, 41] (by decide +kernel) (by decide +kernel)
set_option maxRecDepth 20000 in
theorem gX3_countComing_X3_countAt : GoodIn wsX3_countComing (wsV RX3 95 RX3 yX3_countAt wsX3_countAt) := goodIn_app (goodIn_of _ (by decide +kernel)) ggX3_countComing_X3_countAt
theorem dX3_countComing_0 : decode cX3_countComing 0 = .ok (.iload_n 3, 1) := by decide +kernel
theorem dX3_countComing_1 : decode cX3_countComing 1 = .ok (.ifCond .ne 15, 3) := by decide +kernel
theorem dX3_countComing_4 : decode cX3_countComing 4 = .ok (.aload_n 1, 1) := by decide +kernel
theorem dX3_countComing_5 : decode cX3_countComing 5 = .ok (.iload_n 2, 1) := by decide +kernel
theorem dX3_countComing_6 : decode cX3_countComing 6 = .ok (.invokevirtual 111, 3) := by decide +kernel
theorem dX3_countComing_9 : decode cX3_countComing 9 = .ok (.ifCond .ne 7, 3) := by decide +kernel
theorem dX3_countComing_12 : decode cX3_countComing 12 = .ok (.lconst 1, 1) := by decide +kernel
theorem dX3_countComing_13 : decode cX3_countComing 13 = .ok (.goto 4, 3) := by decide +kernel
theorem dX3_countComing_16 : decode cX3_countComing 16 = .ok (.lconst 0, 1) := by decide +kernel
theorem dX3_countComing_17 : decode cX3_countComing 17 = .ok (.lstore 4, 2) := by decide +kernel
theorem dX3_countComing_19 : decode cX3_countComing 19 = .ok (.iconst 0, 1) := by decide +kernel
theorem dX3_countComing_20 : decode cX3_countComing 20 = .ok (.istore 6, 2) := by decide +kernel
theorem dX3_countComing_22 : decode cX3_countComing 22 = .ok (.iload 6, 2) := by decide +kernel
theorem dX3_countComing_24 : decode cX3_countComing 24 = .ok (.iconst 4, 1) := by decide +kernel
theorem dX3_countComing_25 : decode cX3_countComing 25 = .ok (.if_icmp .gt 26, 3) := by decide +kernel
theorem dX3_countComing_28 : decode cX3_countComing 28 = .ok (.lload 4, 2) := by decide +kernel
theorem dX3_countComing_30 : decode cX3_countComing 30 = .ok (.aload_n 0, 1) := by decide +kernel
theorem dX3_countComing_31 : decode cX3_countComing 31 = .ok (.aload_n 1, 1) := by decide +kernel
theorem dX3_countComing_32 : decode cX3_countComing 32 = .ok (.iload_n 2, 1) := by decide +kernel
theorem dX3_countComing_33 : decode cX3_countComing 33 = .ok (.iload 6, 2) := by decide +kernel
theorem dX3_countComing_35 : decode cX3_countComing 35 = .ok (.invokevirtual 58, 3) := by decide +kernel
theorem dX3_countComing_38 : decode cX3_countComing 38 = .ok (.iload_n 3, 1) := by decide +kernel
theorem dX3_countComing_39 : decode cX3_countComing 39 = .ok (.invokevirtual 95, 3) := by decide +kernel
theorem dX3_countComing_42 : decode cX3_countComing 42 = .ok (.ladd, 1) := by decide +kernel
theorem dX3_countComing_43 : decode cX3_countComing 43 = .ok (.lstore 4, 2) := by decide +kernel
theorem dX3_countComing_45 : decode cX3_countComing 45 = .ok (.iinc 6 1, 3) := by decide +kernel
theorem dX3_countComing_48 : decode cX3_countComing 48 = .ok (.goto (-26), 3) := by decide +kernel
theorem dX3_countComing_51 : decode cX3_countComing 51 = .ok (.lload 4, 2) := by decide +kernel
theorem dX3_countComing_53 : decode cX3_countComing 53 = .ok (.lreturn, 1) := by decide +kernel
set_option maxRecDepth 20000 in
theorem ggX3_countAt_X4_entry_ : GoodIn wsX3_countAt wsX4_entry_ := goodIn_r _ [4] (by decide +kernel) (by decide +kernel)
set_option maxRecDepth 20000 in
theorem gX3_countAt_X4_entry__n114 : GoodIn wsX3_countAt (wsX4_entry_) := ggX3_countAt_X4_entry_
theorem dX3_countAt_0 : decode cX3_countAt 0 = .ok (.aload_n 0, 1) := by decide +kernel
theorem dX3_countAt_1 : decode cX3_countAt 1 = .ok (.getfield 18, 3) := by decide +kernel
theorem dX3_countAt_4 : decode cX3_countAt 4 = .ok (.iload_n 1, 1) := by decide +kernel
theorem dX3_countAt_5 : decode cX3_countAt 5 = .ok (.bipush 16, 2) := by decide +kernel
theorem dX3_countAt_7 : decode cX3_countAt 7 = .ok (.imul, 1) := by decide +kernel
theorem dX3_countAt_8 : decode cX3_countAt 8 = .ok (.iload_n 2, 1) := by decide +kernel
theorem dX3_countAt_9 : decode cX3_countAt 9 = .ok (.iadd, 1) := by decide +kernel
theorem dX3_countAt_10 : decode cX3_countAt 10 = .ok (.invokestatic 114, 3) := by decide +kernel
theorem dX3_countAt_13 : decode cX3_countAt 13 = .ok (.lreturn, 1) := by decide +kernel
