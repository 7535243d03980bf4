theorem dX1_init_0 : decode cX1_init 0 = .ok (.aload_n 0, 1) := by decide +kernel
theorem dX1_init_1 : decode cX1_init 1 = .ok (.invokespecial 3, 3) := by decide +kernel
theorem dX1_init_4 : decode cX1_init 4 = .ok (.return_, 1) := by decide +kernel
set_option maxRecDepth 20000 in
theorem ggX1_readAll_X1_takeToken : GoodIn wsX1_readAll wsX1_takeToken := goodIn_r _ [14, 7, 15, 6, 9, 2, 3, 4, 5, 16, 17, 18, 13, 19, 1, 20, 21, 22, 144, 145, 146, 147, 148, 149] (by decide +kernel) (by decide +kernel)
set_option maxRecDepth 20000 in
theorem gX1_readAll_X1_takeToken : GoodIn wsX1_readAll (wsV RX1 31 RX1 yX1_takeToken wsX1_takeToken) := goodIn_app (goodIn_of _ (by decide +kernel)) ggX1_readAll_X1_takeToken
set_option maxRecDepth 20000 in
theorem ggX1_readAll_X1_readItem : GoodIn wsX1_readAll wsX1_readItem := goodIn_r _ [26, 27, 28, 29, 30, 31, 32, 33, 34, 35, 36, 37, 13, 38, 39, 40, 41, 42, 9, 7, 15, 43, 44, 45, 46, 47, 48, 49, 50, 51, 52, 53, 54, 16, 17, 18, 19, 1, 55, 56, 57, 58, 59, 60, 61, 62, 63, 64, 65, 66, 67, 68, 69, 70, 71, 72, 73, 74, 75, 76, 77, 78, 79, 80, 81, 82, 83, 84, 85, 86, 87, 88, 89, 90, 91, 92, 93, 94, 95, 96, 97, 98, 99, 8, 10, 11, 12, 14, 6, 2, 3, 4, 5, 20, 21, 22, 100, 101, 102, 103, 104, 105, 106, 107, 108, 109, 110, 111, 112, 113, 114, 115, 116, 117, 118, 119, 120, 121, 122, 123, 124, 125, 126, 127, 128, 129, 130, 131, 132, 133, 134, 135, 136, 137, 138, 139, 140, 141, 142, 143, 150, 151, 152, 153, 154, 155, 156, 157, 158, 159, 160, 161, 144, 145, 146, 147, 148, 149] (by decide +kernel) (by decide +kernel)
set_option maxRecDepth 20000 in
theorem gX1_readAll_X1_readItem : GoodIn wsX1_readAll (wsV RX1 37 RX1 yX1_readItem wsX1_readItem) := goodIn_app (goodIn_of _ (by decide +kernel)) ggX1_readAll_X1_readItem
theorem dX1_readAll_0 : decode cX1_readAll 0 = .ok (.aload_n 0, 1) := by decide +kernel
theorem dX1_readAll_1 : decode cX1_readAll 1 = .ok (.aload_n 1, 1) := by decide +kernel
theorem dX1_readAll_2 : decode cX1_readAll 2 = .ok (.putfield 9, 3) := by decide +kernel
theorem dX1_readAll_5 : decode cX1_readAll 5 = .ok (.aload_n 0, 1) := by decide +kernel
theorem dX1_readAll_6 : decode cX1_readAll 6 = .ok (.aload_n 1, 1) := by decide +kernel
theorem dX1_readAll_7 : decode cX1_readAll 7 = .ok (.ifnonnull 7, 3) := by decide +kernel
theorem dX1_readAll_10 : decode cX1_readAll 10 = .ok (.iconst 0, 1) := by decide +kernel
theorem dX1_readAll_11 : decode cX1_readAll 11 = .ok (.goto 9, 3) := by decide +kernel
theorem dX1_readAll_14 : decode cX1_readAll 14 = .ok (.iload_n 2, 1) := by decide +kernel
theorem dX1_readAll_15 : decode cX1_readAll 15 = .ok (.aload_n 1, 1) := by decide +kernel
theorem dX1_readAll_16 : decode cX1_readAll 16 = .ok (.arraylength, 1) := by decide +kernel
theorem dX1_readAll_17 : decode cX1_readAll 17 = .ok (.invokestatic 15, 3) := by decide +kernel
theorem dX1_readAll_20 : decode cX1_readAll 20 = .ok (.putfield 21, 3) := by decide +kernel
theorem dX1_readAll_23 : decode cX1_readAll 23 = .ok (.aload_n 0, 1) := by decide +kernel
theorem dX1_readAll_24 : decode cX1_readAll 24 = .ok (.iconst 0, 1) := by decide +kernel
theorem dX1_readAll_25 : decode cX1_readAll 25 = .ok (.putfield 25, 3) := by decide +kernel
theorem dX1_readAll_28 : decode cX1_readAll 28 = .ok (.aload_n 0, 1) := by decide +kernel
theorem dX1_readAll_29 : decode cX1_readAll 29 = .ok (.iconst (-1), 1) := by decide +kernel
theorem dX1_readAll_30 : decode cX1_readAll 30 = .ok (.putfield 28, 3) := by decide +kernel
theorem dX1_readAll_33 : decode cX1_readAll 33 = .ok (.aload_n 0, 1) := by decide +kernel
theorem dX1_readAll_34 : decode cX1_readAll 34 = .ok (.invokevirtual 31, 3) := by decide +kernel
theorem dX1_readAll_37 : decode cX1_readAll 37 = .ok (.iconst 0, 1) := by decide +kernel
theorem dX1_readAll_38 : decode cX1_readAll 38 = .ok (.istore 4, 2) := by decide +kernel
theorem dX1_readAll_40 : decode cX1_readAll 40 = .ok (.iconst 0, 1) := by decide +kernel
theorem dX1_readAll_41 : decode cX1_readAll 41 = .ok (.istore 5, 2) := by decide +kernel
theorem dX1_readAll_43 : decode cX1_readAll 43 = .ok (.iload 5, 2) := by decide +kernel
theorem dX1_readAll_45 : decode cX1_readAll 45 = .ok (.aload_n 0, 1) := by decide +kernel
theorem dX1_readAll_46 : decode cX1_readAll 46 = .ok (.getfield 21, 3) := by decide +kernel
theorem dX1_readAll_49 : decode cX1_readAll 49 = .ok (.if_icmp .gt 32, 3) := by decide +kernel
theorem dX1_readAll_52 : decode cX1_readAll 52 = .ok (.aload_n 0, 1) := by decide +kernel
theorem dX1_readAll_53 : decode cX1_readAll 53 = .ok (.getfield 34, 3) := by decide +kernel
theorem dX1_readAll_56 : decode cX1_readAll 56 = .ok (.ifCond .eq 25, 3) := by decide +kernel
theorem dX1_readAll_59 : decode cX1_readAll 59 = .ok (.aload_n 0, 1) := by decide +kernel
theorem dX1_readAll_60 : decode cX1_readAll 60 = .ok (.getfield 28, 3) := by decide +kernel
theorem dX1_readAll_63 : decode cX1_readAll 63 = .ok (.iconst (-1), 1) := by decide +kernel
theorem dX1_readAll_64 : decode cX1_readAll 64 = .ok (.if_icmp .ne 17, 3) := by decide +kernel
theorem dX1_readAll_67 : decode cX1_readAll 67 = .ok (.aload_n 0, 1) := by decide +kernel
theorem dX1_readAll_68 : decode cX1_readAll 68 = .ok (.aload_n 3, 1) := by decide +kernel
theorem dX1_readAll_69 : decode cX1_readAll 69 = .ok (.invokevirtual 37, 3) := by decide +kernel
theorem dX1_readAll_72 : decode cX1_readAll 72 = .ok (.iinc 4 1, 3) := by decide +kernel
theorem dX1_readAll_75 : decode cX1_readAll 75 = .ok (.iinc 5 1, 3) := by decide +kernel
theorem dX1_readAll_78 : decode cX1_readAll 78 = .ok (.goto (-35), 3) := by decide +kernel
theorem dX1_readAll_81 : decode cX1_readAll 81 = .ok (.aload_n 0, 1) := by decide +kernel
theorem dX1_readAll_82 : decode cX1_readAll 82 = .ok (.getfield 28, 3) := by decide +kernel
theorem dX1_readAll_85 : decode cX1_readAll 85 = .ok (.iconst (-1), 1) := by decide +kernel
theorem dX1_readAll_86 : decode cX1_readAll 86 = .ok (.if_icmp .ne 8, 3) := by decide +kernel
theorem dX1_readAll_89 : decode cX1_readAll 89 = .ok (.iload 4, 2) := by decide +kernel
theorem dX1_readAll_91 : decode cX1_readAll 91 = .ok (.goto 10, 3) := by decide +kernel
theorem dX1_readAll_94 : decode cX1_readAll 94 = .ok (.bipush (-10), 2) := by decide +kernel
theorem dX1_readAll_96 : decode cX1_readAll 96 = .ok (.aload_n 0, 1) := by decide +kernel
theorem dX1_readAll_97 : decode cX1_readAll 97 = .ok (.getfield 28, 3) := by decide +kernel
theorem dX1_readAll_100 : decode cX1_readAll 100 = .ok (.isub, 1) := by decide +kernel
theorem dX1_readAll_101 : decode cX1_readAll 101 = .ok (.ireturn, 1) := by decide +kernel
set_option maxRecDepth 20000 in
theorem ggX1_readItem_X1_wordHere : GoodIn wsX1_readItem wsX1_wordHere := goodIn_r _ [13, 14, 15, 16, 12, 17, 18, 19, 20, 21, 22, 23, 24, 25, 26, 27, 28, 29, 30, 31, 32, 33, 34, 35, 36, 37, 38, 39, 40, 41, 42, 43, 44, 45, 46, 47, 48, 49, 50, 51, 52, 53, 54, 55, 56, 57, 58, 59, 60, 61, 62, 63, 64, 65, 66, 67, 68, 69, 70, 71, 72, 73, 74, 152, 153, 154, 155, 156, 157] (by decide +kernel) (by decide +kernel)
set_option maxRecDepth 20000 in
theorem gX1_readItem_X1_wordHere : GoodIn wsX1_readItem (wsV RX1 41 RX1 yX1_wordHere wsX1_wordHere) := goodIn_app (goodIn_of _ (by decide +kernel)) ggX1_readItem_X1_wordHere
set_option maxRecDepth 20000 in
theorem ggX1_readItem_X1_mayBegin : GoodIn wsX1_readItem wsX1_mayBegin := goodIn_r _ [77, 1, 4, 7, 78, 140, 141, 142, 143, 144, 145, 146, 147, 148, 149, 150, 151] (by decide +kernel) (by decide +kernel)
set_option maxRecDepth 20000 in
theorem gX1_readItem_X1_mayBegin : GoodIn wsX1_readItem (va_wsS RX1 45 yX1_mayBegin wsX1_mayBegin) := goodIn_app (goodIn_of _ (by decide +kernel)) ggX1_readItem_X1_mayBegin
set_option maxRecDepth 20000 in
theorem ggX1_readItem_X1_fail : GoodIn wsX1_readItem wsX1_fail := goodIn_r _ [82, 83, 20, 152, 153, 154, 155, 156, 157] (by decide +kernel) (by decide +kernel)
set_option maxRecDepth 20000 in
theorem gX1_readItem_X1_fail : GoodIn wsX1_readItem (wsV RX1 49 RX1 yX1_fail wsX1_fail) := goodIn_app (goodIn_of _ (by decide +kernel)) ggX1_readItem_X1_fail
set_option maxRecDepth 20000 in
theorem ggX1_readItem_X1_takeToken : GoodIn wsX1_readItem wsX1_takeToken := goodIn_r _ [87, 19, 20, 88, 18, 89, 90, 91, 92, 33, 34, 35, 12, 36, 37, 93, 94, 95, 152, 153, 154, 155, 156, 157] (by decide +kernel) (by decide +kernel)
set_option maxRecDepth 20000 in
theorem gX1_readItem_X1_takeToken : GoodIn wsX1_readItem (wsV RX1 31 RX1 yX1_takeToken wsX1_takeToken) := goodIn_app (goodIn_of _ (by decide +kernel)) ggX1_readItem_X1_takeToken
set_option maxRecDepth 20000 in
theorem ggX1_readItem_X1_takeNumber : GoodIn wsX1_readItem wsX1_takeNumber := goodIn_r _ [99, 83, 100, 101, 102, 12, 103, 19, 20, 18, 33, 34, 35, 36, 37, 79, 80, 81, 82, 84, 85, 86, 87, 88, 89, 90, 91, 92, 93, 94, 95, 152, 153, 154, 155, 156, 157] (by decide +kernel) (by decide +kernel)
set_option maxRecDepth 20000 in
theorem gX1_readItem_X1_takeNumber : GoodIn wsX1_readItem (wsV RX1 58 RX1 yX1_takeNumber wsX1_takeNumber) := goodIn_app (goodIn_of _ (by decide +kernel)) ggX1_readItem_X1_takeNumber
set_option maxRecDepth 20000 in
theorem ggX1_readItem_X1_readCat : GoodIn wsX1_readItem wsX1_readCat := goodIn_r _ [107, 78, 100, 101, 102, 12, 103, 19, 20, 18, 33, 34, 35, 36, 37, 108, 109, 110, 111, 112, 113, 114, 115, 116, 117, 118, 119, 120, 121, 79, 80, 81, 82, 83, 122, 123, 124, 125, 126, 127, 96, 97, 98, 99, 84, 85, 86, 87, 88, 89, 90, 91, 92, 93, 94, 95, 128, 129, 130, 131, 132, 133, 134, 135, 140, 141, 142, 143, 144, 145, 146, 147, 148, 149, 150, 151, 152, 153, 154, 155, 156, 157] (by decide +kernel) (by decide +kernel)
set_option maxRecDepth 20000 in
theorem gX1_readItem_X1_readCat : GoodIn wsX1_readItem (wsV RX1 82 RX1 yX1_readCat wsX1_readCat) := goodIn_app (goodIn_of _ (by decide +kernel)) ggX1_readItem_X1_readCat
set_option maxRecDepth 20000 in
theorem ggX1_readItem_X1_takeStop : GoodIn wsX1_readItem wsX1_takeStop := goodIn_r _ [139, 18, 83, 79, 80, 81, 12, 82, 20, 84, 85, 86, 87, 19, 88, 89, 90, 91, 92, 33, 34, 35, 36, 37, 93, 94, 95, 152, 153, 154, 155, 156, 157] (by decide +kernel) (by decide +kernel)
set_option maxRecDepth 20000 in
theorem gX1_readItem_X1_takeStop : GoodIn wsX1_readItem (wsV RX1 86 RX1 yX1_takeStop wsX1_takeStop) := goodIn_app (goodIn_of _ (by decide +kernel)) ggX1_readItem_X1_takeStop
theorem dX1_readItem_0 : decode cX1_readItem 0 = .ok (.aload_n 0, 1) := by decide +kernel
theorem dX1_readItem_1 : decode cX1_readItem 1 = .ok (.invokevirtual 41, 3) := by decide +kernel
theorem dX1_readItem_4 : decode cX1_readItem 4 = .ok (.istore_n 2, 1) := by decide +kernel
theorem dX1_readItem_5 : decode cX1_readItem 5 = .ok (.aload_n 1, 1) := by decide +kernel
theorem dX1_readItem_6 : decode cX1_readItem 6 = .ok (.iload_n 2, 1) := by decide +kernel
theorem dX1_readItem_7 : decode cX1_readItem 7 = .ok (.invokestatic 45, 3) := by decide +kernel
theorem dX1_readItem_10 : decode cX1_readItem 10 = .ok (.ifCond .ne 8, 3) := by decide +kernel
theorem dX1_readItem_13 : decode cX1_readItem 13 = .ok (.aload_n 0, 1) := by decide +kernel
theorem dX1_readItem_14 : decode cX1_readItem 14 = .ok (.invokevirtual 49, 3) := by decide +kernel
theorem dX1_readItem_17 : decode cX1_readItem 17 = .ok (.return_, 1) := by decide +kernel
theorem dX1_readItem_18 : decode cX1_readItem 18 = .ok (.aload_n 0, 1) := by decide +kernel
theorem dX1_readItem_19 : decode cX1_readItem 19 = .ok (.invokevirtual 31, 3) := by decide +kernel
theorem dX1_readItem_22 : decode cX1_readItem 22 = .ok (.aload_n 1, 1) := by decide +kernel
theorem dX1_readItem_23 : decode cX1_readItem 23 = .ok (.iconst 0, 1) := by decide +kernel
theorem dX1_readItem_24 : decode cX1_readItem 24 = .ok (.putfield 52, 3) := by decide +kernel
theorem dX1_readItem_27 : decode cX1_readItem 27 = .ok (.iload_n 2, 1) := by decide +kernel
theorem dX1_readItem_28 : decode cX1_readItem 28 = .ok (.tableswitch 101 4 6 #[28, 52, 82], 28) := by decide +kernel
theorem dX1_readItem_56 : decode cX1_readItem 56 = .ok (.aload_n 1, 1) := by decide +kernel
theorem dX1_readItem_57 : decode cX1_readItem 57 = .ok (.aload_n 0, 1) := by decide +kernel
theorem dX1_readItem_58 : decode cX1_readItem 58 = .ok (.iconst 1, 1) := by decide +kernel
theorem dX1_readItem_59 : decode cX1_readItem 59 = .ok (.bipush 8, 2) := by decide +kernel
theorem dX1_readItem_61 : decode cX1_readItem 61 = .ok (.invokevirtual 58, 3) := by decide +kernel
theorem dX1_readItem_64 : decode cX1_readItem 64 = .ok (.putfield 61, 3) := by decide +kernel
theorem dX1_readItem_67 : decode cX1_readItem 67 = .ok (.aload_n 1, 1) := by decide +kernel
theorem dX1_readItem_68 : decode cX1_readItem 68 = .ok (.aload_n 0, 1) := by decide +kernel
theorem dX1_readItem_69 : decode cX1_readItem 69 = .ok (.iconst 1, 1) := by decide +kernel
theorem dX1_readItem_70 : decode cX1_readItem 70 = .ok (.iconst 3, 1) := by decide +kernel
theorem dX1_readItem_71 : decode cX1_readItem 71 = .ok (.invokevirtual 58, 3) := by decide +kernel
theorem dX1_readItem_74 : decode cX1_readItem 74 = .ok (.putfield 64, 3) := by decide +kernel
theorem dX1_readItem_77 : decode cX1_readItem 77 = .ok (.goto 58, 3) := by decide +kernel
theorem dX1_readItem_80 : decode cX1_readItem 80 = .ok (.aload_n 1, 1) := by decide +kernel
theorem dX1_readItem_81 : decode cX1_readItem 81 = .ok (.iconst 0, 1) := by decide +kernel
theorem dX1_readItem_82 : decode cX1_readItem 82 = .ok (.putfield 67, 3) := by decide +kernel
theorem dX1_readItem_85 : decode cX1_readItem 85 = .ok (.aload_n 1, 1) := by decide +kernel
theorem dX1_readItem_86 : decode cX1_readItem 86 = .ok (.aload_n 0, 1) := by decide +kernel
theorem dX1_readItem_87 : decode cX1_readItem 87 = .ok (.iconst 0, 1) := by decide +kernel
theorem dX1_readItem_88 : decode cX1_readItem 88 = .ok (.bipush 7, 2) := by decide +kernel
theorem dX1_readItem_90 : decode cX1_readItem 90 = .ok (.invokevirtual 58, 3) := by decide +kernel
theorem dX1_readItem_93 : decode cX1_readItem 93 = .ok (.putfield 70, 3) := by decide +kernel
theorem dX1_readItem_96 : decode cX1_readItem 96 = .ok (.aload_n 1, 1) := by decide +kernel
theorem dX1_readItem_97 : decode cX1_readItem 97 = .ok (.aload_n 0, 1) := by decide +kernel
theorem dX1_readItem_98 : decode cX1_readItem 98 = .ok (.iconst 1, 1) := by decide +kernel
theorem dX1_readItem_99 : decode cX1_readItem 99 = .ok (.bipush 9, 2) := by decide +kernel
theorem dX1_readItem_101 : decode cX1_readItem 101 = .ok (.invokevirtual 58, 3) := by decide +kernel
theorem dX1_readItem_104 : decode cX1_readItem 104 = .ok (.putfield 73, 3) := by decide +kernel
theorem dX1_readItem_107 : decode cX1_readItem 107 = .ok (.goto 28, 3) := by decide +kernel
theorem dX1_readItem_110 : decode cX1_readItem 110 = .ok (.aload_n 1, 1) := by decide +kernel
theorem dX1_readItem_111 : decode cX1_readItem 111 = .ok (.iconst 0, 1) := by decide +kernel
theorem dX1_readItem_112 : decode cX1_readItem 112 = .ok (.putfield 76, 3) := by decide +kernel
theorem dX1_readItem_115 : decode cX1_readItem 115 = .ok (.aload_n 1, 1) := by decide +kernel
theorem dX1_readItem_116 : decode cX1_readItem 116 = .ok (.aload_n 0, 1) := by decide +kernel
theorem dX1_readItem_117 : decode cX1_readItem 117 = .ok (.iconst 0, 1) := by decide +kernel
theorem dX1_readItem_118 : decode cX1_readItem 118 = .ok (.bipush 9, 2) := by decide +kernel
theorem dX1_readItem_120 : decode cX1_readItem 120 = .ok (.invokevirtual 58, 3) := by decide +kernel
theorem dX1_readItem_123 : decode cX1_readItem 123 = .ok (.putfield 79, 3) := by decide +kernel
theorem dX1_readItem_126 : decode cX1_readItem 126 = .ok (.goto 9, 3) := by decide +kernel
theorem dX1_readItem_129 : decode cX1_readItem 129 = .ok (.aload_n 0, 1) := by decide +kernel
theorem dX1_readItem_130 : decode cX1_readItem 130 = .ok (.aload_n 1, 1) := by decide +kernel
theorem dX1_readItem_131 : decode cX1_readItem 131 = .ok (.iload_n 2, 1) := by decide +kernel
theorem dX1_readItem_132 : decode cX1_readItem 132 = .ok (.invokevirtual 82, 3) := by decide +kernel
theorem dX1_readItem_135 : decode cX1_readItem 135 = .ok (.aload_n 0, 1) := by decide +kernel
theorem dX1_readItem_136 : decode cX1_readItem 136 = .ok (.invokevirtual 86, 3) := by decide +kernel
theorem dX1_readItem_139 : decode cX1_readItem 139 = .ok (.return_, 1) := by decide +kernel
set_option maxRecDepth 20000 in
theorem ggX1_readCat_X1_numberHere : GoodIn wsX1_readCat wsX1_numberHere := goodIn_r _ [6, 7, 8, 9, 10, 11, 12, 5, 13, 14, 76, 77, 78, 79, 80, 81] (by decide +kernel) (by decide +kernel)
set_option maxRecDepth 20000 in
theorem gX1_readCat_X1_numberHere : GoodIn wsX1_readCat (wsV RX1 89 RX1 yX1_numberHere wsX1_numberHere) := goodIn_app (goodIn_of _ (by decide +kernel)) ggX1_readCat_X1_numberHere
set_option maxRecDepth 20000 in
theorem ggX1_readCat_X0_tellsCatIn : GoodIn wsX1_readCat wsX0_tellsCatIn := goodIn_r _ [19, 20, 21, 22, 23, 18, 24, 25, 26, 27, 28, 64, 65, 66, 67, 68, 69, 70, 71, 72, 73, 74, 75] (by decide +kernel) (by decide +kernel)
set_option maxRecDepth 20000 in
theorem gX1_readCat_X0_tellsCatIn : GoodIn wsX1_readCat (wsV RX1 92 RX0 yX0_tellsCatIn wsX0_tellsCatIn) := goodIn_app (goodIn_of _ (by decide +kernel)) ggX1_readCat_X0_tellsCatIn
set_option maxRecDepth 20000 in
theorem ggX1_readCat_X1_fail : GoodIn wsX1_readCat wsX1_fail := goodIn_r _ [32, 33, 8, 76, 77, 78, 79, 80, 81] (by decide +kernel) (by decide +kernel)
set_option maxRecDepth 20000 in
theorem gX1_readCat_X1_fail : GoodIn wsX1_readCat (wsV RX1 49 RX1 yX1_fail wsX1_fail) := goodIn_app (goodIn_of _ (by decide +kernel)) ggX1_readCat_X1_fail
set_option maxRecDepth 20000 in
theorem ggX1_readCat_X0_cells : GoodIn wsX1_readCat wsX0_cells := goodIn_r _ [37, 38, 39, 64, 65, 66, 67, 68, 69, 70, 71, 72, 73, 74, 75] (by decide +kernel) (by decide +kernel)
set_option maxRecDepth 20000 in
theorem gX1_readCat_X0_cells : GoodIn wsX1_readCat (wsV RX1 96 RX0 yX0_cells wsX0_cells) := goodIn_app (goodIn_of _ (by decide +kernel)) ggX1_readCat_X0_cells
set_option maxRecDepth 20000 in
theorem ggX1_readCat_X1_takeNumber : GoodIn wsX1_readCat wsX1_takeNumber := goodIn_r _ [43, 33, 2, 3, 4, 5, 6, 7, 8, 9, 10, 11, 12, 13, 14, 29, 30, 31, 32, 44, 45, 46, 47, 48, 49, 50, 51, 52, 53, 54, 55, 76, 77, 78, 79, 80, 81] (by decide +kernel) (by decide +kernel)
set_option maxRecDepth 20000 in
theorem gX1_readCat_X1_takeNumber : GoodIn wsX1_readCat (wsV RX1 58 RX1 yX1_takeNumber wsX1_takeNumber) := goodIn_app (goodIn_of _ (by decide +kernel)) ggX1_readCat_X1_takeNumber
set_option maxRecDepth 20000 in
theorem ggX1_readCat_X0_addCat : GoodIn wsX1_readCat wsX0_addCat := goodIn_r _ [59, 20, 25, 60, 61, 62, 27, 63, 64, 65, 66, 67, 68, 69, 70, 71, 72, 73, 74, 75] (by decide +kernel) (by decide +kernel)
set_option maxRecDepth 20000 in
theorem gX1_readCat_X0_addCat : GoodIn wsX1_readCat (wsV RX1 102 RX0 yX0_addCat wsX0_addCat) := goodIn_app (goodIn_of _ (by decide +kernel)) ggX1_readCat_X0_addCat
theorem dX1_readCat_0 : decode cX1_readCat 0 = .ok (.aload_n 1, 1) := by decide +kernel
theorem dX1_readCat_1 : decode cX1_readCat 1 = .ok (.aload_n 0, 1) := by decide +kernel
theorem dX1_readCat_2 : decode cX1_readCat 2 = .ok (.invokevirtual 89, 3) := by decide +kernel
theorem dX1_readCat_5 : decode cX1_readCat 5 = .ok (.invokevirtual 92, 3) := by decide +kernel
theorem dX1_readCat_8 : decode cX1_readCat 8 = .ok (.ifCond .eq 7, 3) := by decide +kernel
theorem dX1_readCat_11 : decode cX1_readCat 11 = .ok (.aload_n 0, 1) := by decide +kernel
theorem dX1_readCat_12 : decode cX1_readCat 12 = .ok (.invokevirtual 49, 3) := by decide +kernel
theorem dX1_readCat_15 : decode cX1_readCat 15 = .ok (.aload_n 0, 1) := by decide +kernel
theorem dX1_readCat_16 : decode cX1_readCat 16 = .ok (.iconst 0, 1) := by decide +kernel
theorem dX1_readCat_17 : decode cX1_readCat 17 = .ok (.aload_n 1, 1) := by decide +kernel
theorem dX1_readCat_18 : decode cX1_readCat 18 = .ok (.invokevirtual 96, 3) := by decide +kernel
theorem dX1_readCat_21 : decode cX1_readCat 21 = .ok (.iconst 1, 1) := by decide +kernel
theorem dX1_readCat_22 : decode cX1_readCat 22 = .ok (.isub, 1) := by decide +kernel
theorem dX1_readCat_23 : decode cX1_readCat 23 = .ok (.invokevirtual 58, 3) := by decide +kernel
theorem dX1_readCat_26 : decode cX1_readCat 26 = .ok (.istore_n 3, 1) := by decide +kernel
theorem dX1_readCat_27 : decode cX1_readCat 27 = .ok (.iload_n 2, 1) := by decide +kernel
theorem dX1_readCat_28 : decode cX1_readCat 28 = .ok (.iconst 3, 1) := by decide +kernel
theorem dX1_readCat_29 : decode cX1_readCat 29 = .ok (.if_icmp .ne 17, 3) := by decide +kernel
theorem dX1_readCat_32 : decode cX1_readCat 32 = .ok (.aload_n 0, 1) := by decide +kernel
theorem dX1_readCat_33 : decode cX1_readCat 33 = .ok (.iconst 0, 1) := by decide +kernel
theorem dX1_readCat_34 : decode cX1_readCat 34 = .ok (.aload_n 1, 1) := by decide +kernel
theorem dX1_readCat_35 : decode cX1_readCat 35 = .ok (.getfield 99, 3) := by decide +kernel
theorem dX1_readCat_38 : decode cX1_readCat 38 = .ok (.iconst 1, 1) := by decide +kernel
theorem dX1_readCat_39 : decode cX1_readCat 39 = .ok (.isub, 1) := by decide +kernel
theorem dX1_readCat_40 : decode cX1_readCat 40 = .ok (.invokevirtual 58, 3) := by decide +kernel
theorem dX1_readCat_43 : decode cX1_readCat 43 = .ok (.goto 5, 3) := by decide +kernel
theorem dX1_readCat_46 : decode cX1_readCat 46 = .ok (.bipush (-9), 2) := by decide +kernel
theorem dX1_readCat_48 : decode cX1_readCat 48 = .ok (.istore 4, 2) := by decide +kernel
theorem dX1_readCat_50 : decode cX1_readCat 50 = .ok (.aload_n 1, 1) := by decide +kernel
theorem dX1_readCat_51 : decode cX1_readCat 51 = .ok (.iload_n 3, 1) := by decide +kernel
theorem dX1_readCat_52 : decode cX1_readCat 52 = .ok (.iload_n 2, 1) := by decide +kernel
theorem dX1_readCat_53 : decode cX1_readCat 53 = .ok (.iload 4, 2) := by decide +kernel
theorem dX1_readCat_55 : decode cX1_readCat 55 = .ok (.invokevirtual 102, 3) := by decide +kernel
theorem dX1_readCat_58 : decode cX1_readCat 58 = .ok (.return_, 1) := by decide +kernel
theorem dX1_mayBegin_0 : decode cX1_mayBegin 0 = .ok (.iload_n 1, 1) := by decide +kernel
theorem dX1_mayBegin_1 : decode cX1_mayBegin 1 = .ok (.tableswitch 48 4 7 #[31, 36, 41, 46], 31) := by decide +kernel
theorem dX1_mayBegin_32 : decode cX1_mayBegin 32 = .ok (.aload_n 0, 1) := by decide +kernel
theorem dX1_mayBegin_33 : decode cX1_mayBegin 33 = .ok (.getfield 52, 3) := by decide +kernel
theorem dX1_mayBegin_36 : decode cX1_mayBegin 36 = .ok (.ireturn, 1) := by decide +kernel
theorem dX1_mayBegin_37 : decode cX1_mayBegin 37 = .ok (.aload_n 0, 1) := by decide +kernel
theorem dX1_mayBegin_38 : decode cX1_mayBegin 38 = .ok (.getfield 67, 3) := by decide +kernel
theorem dX1_mayBegin_41 : decode cX1_mayBegin 41 = .ok (.ireturn, 1) := by decide +kernel
theorem dX1_mayBegin_42 : decode cX1_mayBegin 42 = .ok (.aload_n 0, 1) := by decide +kernel
theorem dX1_mayBegin_43 : decode cX1_mayBegin 43 = .ok (.getfield 76, 3) := by decide +kernel
theorem dX1_mayBegin_46 : decode cX1_mayBegin 46 = .ok (.ireturn, 1) := by decide +kernel
theorem dX1_mayBegin_47 : decode cX1_mayBegin 47 = .ok (.iconst 0, 1) := by decide +kernel
theorem dX1_mayBegin_48 : decode cX1_mayBegin 48 = .ok (.ireturn, 1) := by decide +kernel
theorem dX1_mayBegin_49 : decode cX1_mayBegin 49 = .ok (.aload_n 0, 1) := by decide +kernel
theorem dX1_mayBegin_50 : decode cX1_mayBegin 50 = .ok (.getfield 99, 3) := by decide +kernel
theorem dX1_mayBegin_53 : decode cX1_mayBegin 53 = .ok (.iconst 5, 1) := by decide +kernel
theorem dX1_mayBegin_54 : decode cX1_mayBegin 54 = .ok (.if_icmp .ge 7, 3) := by decide +kernel
theorem dX1_mayBegin_57 : decode cX1_mayBegin 57 = .ok (.iconst 1, 1) := by decide +kernel
theorem dX1_mayBegin_58 : decode cX1_mayBegin 58 = .ok (.goto 4, 3) := by decide +kernel
theorem dX1_mayBegin_61 : decode cX1_mayBegin 61 = .ok (.iconst 0, 1) := by decide +kernel
theorem dX1_mayBegin_62 : decode cX1_mayBegin 62 = .ok (.ireturn, 1) := by decide +kernel
set_option maxRecDepth 20000 in
theorem ggX1_takeNumber_X1_numberHere : GoodIn wsX1_takeNumber wsX1_numberHere := goodIn_r _ [6, 7, 8, 9, 10, 11, 12, 5, 13, 14, 31, 32, 33, 34, 35, 36] (by decide +kernel) (by decide +kernel)
set_option maxRecDepth 20000 in
theorem gX1_takeNumber_X1_numberHere : GoodIn wsX1_takeNumber (wsV RX1 89 RX1 yX1_numberHere wsX1_numberHere) := goodIn_app (goodIn_of _ (by decide +kernel)) ggX1_takeNumber_X1_numberHere
set_option maxRecDepth 20000 in
theorem ggX1_takeNumber_X1_fail : GoodIn wsX1_takeNumber wsX1_fail := goodIn_r _ [18, 1, 8, 31, 32, 33, 34, 35, 36] (by decide +kernel) (by decide +kernel)
set_option maxRecDepth 20000 in
theorem gX1_takeNumber_X1_fail : GoodIn wsX1_takeNumber (wsV RX1 49 RX1 yX1_fail wsX1_fail) := goodIn_app (goodIn_of _ (by decide +kernel)) ggX1_takeNumber_X1_fail
set_option maxRecDepth 20000 in
theorem ggX1_takeNumber_X1_takeToken : GoodIn wsX1_takeNumber wsX1_takeToken := goodIn_r _ [22, 7, 8, 23, 9, 24, 25, 26, 27, 10, 11, 12, 5, 13, 14, 28, 29, 30, 31, 32, 33, 34, 35, 36] (by decide +kernel) (by decide +kernel)
set_option maxRecDepth 20000 in
theorem gX1_takeNumber_X1_takeToken : GoodIn wsX1_takeNumber (wsV RX1 31 RX1 yX1_takeToken wsX1_takeToken) := goodIn_app (goodIn_of _ (by decide +kernel)) ggX1_takeNumber_X1_takeToken
theorem dX1_takeNumber_0 : decode cX1_takeNumber 0 = .ok (.aload_n 0, 1) := by decide +kernel
theorem dX1_takeNumber_1 : decode cX1_takeNumber 1 = .ok (.invokevirtual 89, 3) := by decide +kernel
theorem dX1_takeNumber_4 : decode cX1_takeNumber 4 = .ok (.istore_n 3, 1) := by decide +kernel
theorem dX1_takeNumber_5 : decode cX1_takeNumber 5 = .ok (.iload_n 3, 1) := by decide +kernel
theorem dX1_takeNumber_6 : decode cX1_takeNumber 6 = .ok (.iload_n 1, 1) := by decide +kernel
theorem dX1_takeNumber_7 : decode cX1_takeNumber 7 = .ok (.if_icmp .lt 8, 3) := by decide +kernel
theorem dX1_takeNumber_10 : decode cX1_takeNumber 10 = .ok (.iload_n 3, 1) := by decide +kernel
theorem dX1_takeNumber_11 : decode cX1_takeNumber 11 = .ok (.iload_n 2, 1) := by decide +kernel
theorem dX1_takeNumber_12 : decode cX1_takeNumber 12 = .ok (.if_icmp .le 7, 3) := by decide +kernel
theorem dX1_takeNumber_15 : decode cX1_takeNumber 15 = .ok (.aload_n 0, 1) := by decide +kernel
theorem dX1_takeNumber_16 : decode cX1_takeNumber 16 = .ok (.invokevirtual 49, 3) := by decide +kernel
theorem dX1_takeNumber_19 : decode cX1_takeNumber 19 = .ok (.aload_n 0, 1) := by decide +kernel
theorem dX1_takeNumber_20 : decode cX1_takeNumber 20 = .ok (.getfield 28, 3) := by decide +kernel
theorem dX1_takeNumber_23 : decode cX1_takeNumber 23 = .ok (.iconst (-1), 1) := by decide +kernel
theorem dX1_takeNumber_24 : decode cX1_takeNumber 24 = .ok (.if_icmp .eq 5, 3) := by decide +kernel
theorem dX1_takeNumber_27 : decode cX1_takeNumber 27 = .ok (.iload_n 1, 1) := by decide +kernel
theorem dX1_takeNumber_28 : decode cX1_takeNumber 28 = .ok (.ireturn, 1) := by decide +kernel
theorem dX1_takeNumber_29 : decode cX1_takeNumber 29 = .ok (.aload_n 0, 1) := by decide +kernel
theorem dX1_takeNumber_30 : decode cX1_takeNumber 30 = .ok (.invokevirtual 31, 3) := by decide +kernel
theorem dX1_takeNumber_33 : decode cX1_takeNumber 33 = .ok (.iload_n 3, 1) := by decide +kernel
theorem dX1_takeNumber_34 : decode cX1_takeNumber 34 = .ok (.ireturn, 1) := by decide +kernel
set_option maxRecDepth 20000 in
theorem ggX1_takeStop_X1_fail : GoodIn wsX1_takeStop wsX1_fail := goodIn_r _ [7, 2, 8, 27, 28, 29, 30, 31, 32] (by decide +kernel) (by decide +kernel)
set_option maxRecDepth 20000 in
theorem gX1_takeStop_X1_fail : GoodIn wsX1_takeStop (wsV RX1 49 RX1 yX1_fail wsX1_fail) := goodIn_app (goodIn_of _ (by decide +kernel)) ggX1_takeStop_X1_fail
set_option maxRecDepth 20000 in
theorem ggX1_takeStop_X1_takeToken : GoodIn wsX1_takeStop wsX1_takeToken := goodIn_r _ [12, 13, 8, 14, 1, 15, 16, 17, 18, 19, 20, 21, 6, 22, 23, 24, 25, 26, 27, 28, 29, 30, 31, 32] (by decide +kernel) (by decide +kernel)
set_option maxRecDepth 20000 in
theorem gX1_takeStop_X1_takeToken : GoodIn wsX1_takeStop (wsV RX1 31 RX1 yX1_takeToken wsX1_takeToken) := goodIn_app (goodIn_of _ (by decide +kernel)) ggX1_takeStop_X1_takeToken
theorem dX1_takeStop_0 : decode cX1_takeStop 0 = .ok (.aload_n 0, 1) := by decide +kernel
theorem dX1_takeStop_1 : decode cX1_takeStop 1 = .ok (.getfield 34, 3) := by decide +kernel
theorem dX1_takeStop_4 : decode cX1_takeStop 4 = .ok (.iconst 3, 1) := by decide +kernel
theorem dX1_takeStop_5 : decode cX1_takeStop 5 = .ok (.if_icmp .eq 7, 3) := by decide +kernel
theorem dX1_takeStop_8 : decode cX1_takeStop 8 = .ok (.aload_n 0, 1) := by decide +kernel
theorem dX1_takeStop_9 : decode cX1_takeStop 9 = .ok (.invokevirtual 49, 3) := by decide +kernel
theorem dX1_takeStop_12 : decode cX1_takeStop 12 = .ok (.aload_n 0, 1) := by decide +kernel
theorem dX1_takeStop_13 : decode cX1_takeStop 13 = .ok (.getfield 28, 3) := by decide +kernel
theorem dX1_takeStop_16 : decode cX1_takeStop 16 = .ok (.iconst (-1), 1) := by decide +kernel
theorem dX1_takeStop_17 : decode cX1_takeStop 17 = .ok (.if_icmp .ne 7, 3) := by decide +kernel
theorem dX1_takeStop_20 : decode cX1_takeStop 20 = .ok (.aload_n 0, 1) := by decide +kernel
theorem dX1_takeStop_21 : decode cX1_takeStop 21 = .ok (.invokevirtual 31, 3) := by decide +kernel
theorem dX1_takeStop_24 : decode cX1_takeStop 24 = .ok (.return_, 1) := by decide +kernel
theorem dX1_fail_0 : decode cX1_fail 0 = .ok (.aload_n 0, 1) := by decide +kernel
theorem dX1_fail_1 : decode cX1_fail 1 = .ok (.getfield 28, 3) := by decide +kernel
theorem dX1_fail_4 : decode cX1_fail 4 = .ok (.iconst (-1), 1) := by decide +kernel
theorem dX1_fail_5 : decode cX1_fail 5 = .ok (.if_icmp .ne 11, 3) := by decide +kernel
theorem dX1_fail_8 : decode cX1_fail 8 = .ok (.aload_n 0, 1) := by decide +kernel
theorem dX1_fail_9 : decode cX1_fail 9 = .ok (.aload_n 0, 1) := by decide +kernel
theorem dX1_fail_10 : decode cX1_fail 10 = .ok (.getfield 106, 3) := by decide +kernel
theorem dX1_fail_13 : decode cX1_fail 13 = .ok (.putfield 28, 3) := by decide +kernel
theorem dX1_fail_16 : decode cX1_fail 16 = .ok (.return_, 1) := by decide +kernel
set_option maxRecDepth 20000 in
theorem ggX1_takeToken_X1_byteAt : GoodIn wsX1_takeToken wsX1_byteAt := goodIn_r _ [13, 14, 18, 19, 20, 21, 22, 23] (by decide +kernel) (by decide +kernel)
set_option maxRecDepth 20000 in
theorem gX1_takeToken_X1_byteAt : GoodIn wsX1_takeToken (wsV RX1 109 RX1 yX1_byteAt wsX1_byteAt) := goodIn_app (goodIn_of _ (by decide +kernel)) ggX1_takeToken_X1_byteAt
set_option maxRecDepth 20000 in
theorem ggX1_takeToken_X1_tokenOf : GoodIn wsX1_takeToken wsX1_tokenOf := goodIn_r _ [17] (by decide +kernel) (by decide +kernel)
set_option maxRecDepth 20000 in
theorem gX1_takeToken_X1_tokenOf : GoodIn wsX1_takeToken (va_wsS RX1 113 yX1_tokenOf wsX1_tokenOf) := goodIn_app (goodIn_of _ (by decide +kernel)) ggX1_takeToken_X1_tokenOf
theorem dX1_takeToken_0 : decode cX1_takeToken 0 = .ok (.aload_n 0, 1) := by decide +kernel
theorem dX1_takeToken_1 : decode cX1_takeToken 1 = .ok (.aload_n 0, 1) := by decide +kernel
theorem dX1_takeToken_2 : decode cX1_takeToken 2 = .ok (.getfield 25, 3) := by decide +kernel
theorem dX1_takeToken_5 : decode cX1_takeToken 5 = .ok (.putfield 106, 3) := by decide +kernel
theorem dX1_takeToken_8 : decode cX1_takeToken 8 = .ok (.aload_n 0, 1) := by decide +kernel
theorem dX1_takeToken_9 : decode cX1_takeToken 9 = .ok (.getfield 106, 3) := by decide +kernel
theorem dX1_takeToken_12 : decode cX1_takeToken 12 = .ok (.aload_n 0, 1) := by decide +kernel
theorem dX1_takeToken_13 : decode cX1_takeToken 13 = .ok (.getfield 21, 3) := by decide +kernel
theorem dX1_takeToken_16 : decode cX1_takeToken 16 = .ok (.if_icmp .ge 29, 3) := by decide +kernel
theorem dX1_takeToken_19 : decode cX1_takeToken 19 = .ok (.aload_n 0, 1) := by decide +kernel
theorem dX1_takeToken_20 : decode cX1_takeToken 20 = .ok (.aload_n 0, 1) := by decide +kernel
theorem dX1_takeToken_21 : decode cX1_takeToken 21 = .ok (.getfield 106, 3) := by decide +kernel
theorem dX1_takeToken_24 : decode cX1_takeToken 24 = .ok (.invokevirtual 109, 3) := by decide +kernel
theorem dX1_takeToken_27 : decode cX1_takeToken 27 = .ok (.bipush 32, 2) := by decide +kernel
theorem dX1_takeToken_29 : decode cX1_takeToken 29 = .ok (.if_icmp .ne 16, 3) := by decide +kernel
theorem dX1_takeToken_32 : decode cX1_takeToken 32 = .ok (.aload_n 0, 1) := by decide +kernel
theorem dX1_takeToken_33 : decode cX1_takeToken 33 = .ok (.dup, 1) := by decide +kernel
theorem dX1_takeToken_34 : decode cX1_takeToken 34 = .ok (.getfield 106, 3) := by decide +kernel
theorem dX1_takeToken_37 : decode cX1_takeToken 37 = .ok (.iconst 1, 1) := by decide +kernel
theorem dX1_takeToken_38 : decode cX1_takeToken 38 = .ok (.iadd, 1) := by decide +kernel
theorem dX1_takeToken_39 : decode cX1_takeToken 39 = .ok (.putfield 106, 3) := by decide +kernel
theorem dX1_takeToken_42 : decode cX1_takeToken 42 = .ok (.goto (-34), 3) := by decide +kernel
theorem dX1_takeToken_45 : decode cX1_takeToken 45 = .ok (.aload_n 0, 1) := by decide +kernel
theorem dX1_takeToken_46 : decode cX1_takeToken 46 = .ok (.aload_n 0, 1) := by decide +kernel
theorem dX1_takeToken_47 : decode cX1_takeToken 47 = .ok (.getfield 106, 3) := by decide +kernel
theorem dX1_takeToken_50 : decode cX1_takeToken 50 = .ok (.aload_n 0, 1) := by decide +kernel
theorem dX1_takeToken_51 : decode cX1_takeToken 51 = .ok (.getfield 21, 3) := by decide +kernel
theorem dX1_takeToken_54 : decode cX1_takeToken 54 = .ok (.if_icmp .ge 17, 3) := by decide +kernel
theorem dX1_takeToken_57 : decode cX1_takeToken 57 = .ok (.aload_n 0, 1) := by decide +kernel
theorem dX1_takeToken_58 : decode cX1_takeToken 58 = .ok (.aload_n 0, 1) := by decide +kernel
theorem dX1_takeToken_59 : decode cX1_takeToken 59 = .ok (.getfield 106, 3) := by decide +kernel
theorem dX1_takeToken_62 : decode cX1_takeToken 62 = .ok (.invokevirtual 109, 3) := by decide +kernel
theorem dX1_takeToken_65 : decode cX1_takeToken 65 = .ok (.invokestatic 113, 3) := by decide +kernel
theorem dX1_takeToken_68 : decode cX1_takeToken 68 = .ok (.goto 4, 3) := by decide +kernel
theorem dX1_takeToken_71 : decode cX1_takeToken 71 = .ok (.iconst 0, 1) := by decide +kernel
theorem dX1_takeToken_72 : decode cX1_takeToken 72 = .ok (.putfield 34, 3) := by decide +kernel
theorem dX1_takeToken_75 : decode cX1_takeToken 75 = .ok (.aload_n 0, 1) := by decide +kernel
theorem dX1_takeToken_76 : decode cX1_takeToken 76 = .ok (.aload_n 0, 1) := by decide +kernel
theorem dX1_takeToken_77 : decode cX1_takeToken 77 = .ok (.getfield 106, 3) := by decide +kernel
theorem dX1_takeToken_80 : decode cX1_takeToken 80 = .ok (.iconst 1, 1) := by decide +kernel
theorem dX1_takeToken_81 : decode cX1_takeToken 81 = .ok (.iadd, 1) := by decide +kernel
theorem dX1_takeToken_82 : decode cX1_takeToken 82 = .ok (.aload_n 0, 1) := by decide +kernel
theorem dX1_takeToken_83 : decode cX1_takeToken 83 = .ok (.getfield 21, 3) := by decide +kernel
theorem dX1_takeToken_86 : decode cX1_takeToken 86 = .ok (.invokestatic 15, 3) := by decide +kernel
theorem dX1_takeToken_89 : decode cX1_takeToken 89 = .ok (.putfield 25, 3) := by decide +kernel
theorem dX1_takeToken_92 : decode cX1_takeToken 92 = .ok (.aload_n 0, 1) := by decide +kernel
theorem dX1_takeToken_93 : decode cX1_takeToken 93 = .ok (.getfield 34, 3) := by decide +kernel
theorem dX1_takeToken_96 : decode cX1_takeToken 96 = .ok (.iconst 1, 1) := by decide +kernel
theorem dX1_takeToken_97 : decode cX1_takeToken 97 = .ok (.if_icmp .eq 11, 3) := by decide +kernel
theorem dX1_takeToken_100 : decode cX1_takeToken 100 = .ok (.aload_n 0, 1) := by decide +kernel
theorem dX1_takeToken_101 : decode cX1_takeToken 101 = .ok (.getfield 34, 3) := by decide +kernel
theorem dX1_takeToken_104 : decode cX1_takeToken 104 = .ok (.iconst 2, 1) := by decide +kernel
theorem dX1_takeToken_105 : decode cX1_takeToken 105 = .ok (.if_icmp .ne 7, 3) := by decide +kernel
theorem dX1_takeToken_108 : decode cX1_takeToken 108 = .ok (.iconst 1, 1) := by decide +kernel
theorem dX1_takeToken_109 : decode cX1_takeToken 109 = .ok (.goto 4, 3) := by decide +kernel
theorem dX1_takeToken_112 : decode cX1_takeToken 112 = .ok (.iconst 0, 1) := by decide +kernel
theorem dX1_takeToken_113 : decode cX1_takeToken 113 = .ok (.istore_n 1, 1) := by decide +kernel
theorem dX1_takeToken_114 : decode cX1_takeToken 114 = .ok (.iload_n 1, 1) := by decide +kernel
theorem dX1_takeToken_115 : decode cX1_takeToken 115 = .ok (.ifCond .eq 45, 3) := by decide +kernel
theorem dX1_takeToken_118 : decode cX1_takeToken 118 = .ok (.aload_n 0, 1) := by decide +kernel
theorem dX1_takeToken_119 : decode cX1_takeToken 119 = .ok (.getfield 25, 3) := by decide +kernel
theorem dX1_takeToken_122 : decode cX1_takeToken 122 = .ok (.aload_n 0, 1) := by decide +kernel
theorem dX1_takeToken_123 : decode cX1_takeToken 123 = .ok (.getfield 21, 3) := by decide +kernel
theorem dX1_takeToken_126 : decode cX1_takeToken 126 = .ok (.if_icmp .ge 34, 3) := by decide +kernel
theorem dX1_takeToken_129 : decode cX1_takeToken 129 = .ok (.aload_n 0, 1) := by decide +kernel
theorem dX1_takeToken_130 : decode cX1_takeToken 130 = .ok (.aload_n 0, 1) := by decide +kernel
theorem dX1_takeToken_131 : decode cX1_takeToken 131 = .ok (.getfield 25, 3) := by decide +kernel
theorem dX1_takeToken_134 : decode cX1_takeToken 134 = .ok (.invokevirtual 109, 3) := by decide +kernel
theorem dX1_takeToken_137 : decode cX1_takeToken 137 = .ok (.invokestatic 113, 3) := by decide +kernel
theorem dX1_takeToken_140 : decode cX1_takeToken 140 = .ok (.aload_n 0, 1) := by decide +kernel
theorem dX1_takeToken_141 : decode cX1_takeToken 141 = .ok (.getfield 34, 3) := by decide +kernel
theorem dX1_takeToken_144 : decode cX1_takeToken 144 = .ok (.if_icmp .ne 16, 3) := by decide +kernel
theorem dX1_takeToken_147 : decode cX1_takeToken 147 = .ok (.aload_n 0, 1) := by decide +kernel
theorem dX1_takeToken_148 : decode cX1_takeToken 148 = .ok (.dup, 1) := by decide +kernel
theorem dX1_takeToken_149 : decode cX1_takeToken 149 = .ok (.getfield 25, 3) := by decide +kernel
theorem dX1_takeToken_152 : decode cX1_takeToken 152 = .ok (.iconst 1, 1) := by decide +kernel
theorem dX1_takeToken_153 : decode cX1_takeToken 153 = .ok (.iadd, 1) := by decide +kernel
theorem dX1_takeToken_154 : decode cX1_takeToken 154 = .ok (.putfield 25, 3) := by decide +kernel
theorem dX1_takeToken_157 : decode cX1_takeToken 157 = .ok (.goto (-43), 3) := by decide +kernel
theorem dX1_takeToken_160 : decode cX1_takeToken 160 = .ok (.return_, 1) := by decide +kernel
theorem dX1_tokenOf_0 : decode cX1_tokenOf 0 = .ok (.iload_n 0, 1) := by decide +kernel
theorem dX1_tokenOf_1 : decode cX1_tokenOf 1 = .ok (.bipush 97, 2) := by decide +kernel
theorem dX1_tokenOf_3 : decode cX1_tokenOf 3 = .ok (.if_icmp .lt 11, 3) := by decide +kernel
theorem dX1_tokenOf_6 : decode cX1_tokenOf 6 = .ok (.iload_n 0, 1) := by decide +kernel
theorem dX1_tokenOf_7 : decode cX1_tokenOf 7 = .ok (.bipush 122, 2) := by decide +kernel
theorem dX1_tokenOf_9 : decode cX1_tokenOf 9 = .ok (.if_icmp .gt 5, 3) := by decide +kernel
theorem dX1_tokenOf_12 : decode cX1_tokenOf 12 = .ok (.iconst 1, 1) := by decide +kernel
theorem dX1_tokenOf_13 : decode cX1_tokenOf 13 = .ok (.ireturn, 1) := by decide +kernel
theorem dX1_tokenOf_14 : decode cX1_tokenOf 14 = .ok (.iload_n 0, 1) := by decide +kernel
theorem dX1_tokenOf_15 : decode cX1_tokenOf 15 = .ok (.bipush 48, 2) := by decide +kernel
theorem dX1_tokenOf_17 : decode cX1_tokenOf 17 = .ok (.if_icmp .lt 11, 3) := by decide +kernel
theorem dX1_tokenOf_20 : decode cX1_tokenOf 20 = .ok (.iload_n 0, 1) := by decide +kernel
theorem dX1_tokenOf_21 : decode cX1_tokenOf 21 = .ok (.bipush 57, 2) := by decide +kernel
theorem dX1_tokenOf_23 : decode cX1_tokenOf 23 = .ok (.if_icmp .gt 5, 3) := by decide +kernel
theorem dX1_tokenOf_26 : decode cX1_tokenOf 26 = .ok (.iconst 2, 1) := by decide +kernel
theorem dX1_tokenOf_27 : decode cX1_tokenOf 27 = .ok (.ireturn, 1) := by decide +kernel
theorem dX1_tokenOf_28 : decode cX1_tokenOf 28 = .ok (.iload_n 0, 1) := by decide +kernel
theorem dX1_tokenOf_29 : decode cX1_tokenOf 29 = .ok (.bipush 59, 2) := by decide +kernel
theorem dX1_tokenOf_31 : decode cX1_tokenOf 31 = .ok (.if_icmp .ne 7, 3) := by decide +kernel
theorem dX1_tokenOf_34 : decode cX1_tokenOf 34 = .ok (.iconst 3, 1) := by decide +kernel
theorem dX1_tokenOf_35 : decode cX1_tokenOf 35 = .ok (.goto 4, 3) := by decide +kernel
theorem dX1_tokenOf_38 : decode cX1_tokenOf 38 = .ok (.iconst 4, 1) := by decide +kernel
theorem dX1_tokenOf_39 : decode cX1_tokenOf 39 = .ok (.ireturn, 1) := by decide +kernel
set_option maxRecDepth 20000 in
theorem ggX1_numberHere_X1_byteAt : GoodIn wsX1_numberHere wsX1_byteAt := goodIn_r _ [8, 9, 10, 11, 12, 13, 14, 15] (by decide +kernel) (by decide +kernel)
set_option maxRecDepth 20000 in
theorem gX1_numberHere_X1_byteAt : GoodIn wsX1_numberHere (wsV RX1 109 RX1 yX1_byteAt wsX1_byteAt) := goodIn_app (goodIn_of _ (by decide +kernel)) ggX1_numberHere_X1_byteAt
theorem dX1_numberHere_0 : decode cX1_numberHere 0 = .ok (.aload_n 0, 1) := by decide +kernel
theorem dX1_numberHere_1 : decode cX1_numberHere 1 = .ok (.getfield 25, 3) := by decide +kernel
theorem dX1_numberHere_4 : decode cX1_numberHere 4 = .ok (.aload_n 0, 1) := by decide +kernel
theorem dX1_numberHere_5 : decode cX1_numberHere 5 = .ok (.getfield 106, 3) := by decide +kernel
theorem dX1_numberHere_8 : decode cX1_numberHere 8 = .ok (.isub, 1) := by decide +kernel
theorem dX1_numberHere_9 : decode cX1_numberHere 9 = .ok (.istore_n 1, 1) := by decide +kernel
theorem dX1_numberHere_10 : decode cX1_numberHere 10 = .ok (.aload_n 0, 1) := by decide +kernel
theorem dX1_numberHere_11 : decode cX1_numberHere 11 = .ok (.getfield 34, 3) := by decide +kernel
theorem dX1_numberHere_14 : decode cX1_numberHere 14 = .ok (.iconst 2, 1) := by decide +kernel
theorem dX1_numberHere_15 : decode cX1_numberHere 15 = .ok (.if_icmp .ne 26, 3) := by decide +kernel
theorem dX1_numberHere_18 : decode cX1_numberHere 18 = .ok (.iload_n 1, 1) := by decide +kernel
theorem dX1_numberHere_19 : decode cX1_numberHere 19 = .ok (.iconst 2, 1) := by decide +kernel
theorem dX1_numberHere_20 : decode cX1_numberHere 20 = .ok (.if_icmp .gt 21, 3) := by decide +kernel
theorem dX1_numberHere_23 : decode cX1_numberHere 23 = .ok (.iload_n 1, 1) := by decide +kernel
theorem dX1_numberHere_24 : decode cX1_numberHere 24 = .ok (.iconst 2, 1) := by decide +kernel
theorem dX1_numberHere_25 : decode cX1_numberHere 25 = .ok (.if_icmp .ne 18, 3) := by decide +kernel
theorem dX1_numberHere_28 : decode cX1_numberHere 28 = .ok (.aload_n 0, 1) := by decide +kernel
theorem dX1_numberHere_29 : decode cX1_numberHere 29 = .ok (.aload_n 0, 1) := by decide +kernel
theorem dX1_numberHere_30 : decode cX1_numberHere 30 = .ok (.getfield 106, 3) := by decide +kernel
theorem dX1_numberHere_33 : decode cX1_numberHere 33 = .ok (.invokevirtual 109, 3) := by decide +kernel
theorem dX1_numberHere_36 : decode cX1_numberHere 36 = .ok (.bipush 48, 2) := by decide +kernel
theorem dX1_numberHere_38 : decode cX1_numberHere 38 = .ok (.if_icmp .ne 5, 3) := by decide +kernel
theorem dX1_numberHere_41 : decode cX1_numberHere 41 = .ok (.iconst (-1), 1) := by decide +kernel
theorem dX1_numberHere_42 : decode cX1_numberHere 42 = .ok (.ireturn, 1) := by decide +kernel
theorem dX1_numberHere_43 : decode cX1_numberHere 43 = .ok (.iconst 0, 1) := by decide +kernel
theorem dX1_numberHere_44 : decode cX1_numberHere 44 = .ok (.istore_n 2, 1) := by decide +kernel
theorem dX1_numberHere_45 : decode cX1_numberHere 45 = .ok (.aload_n 0, 1) := by decide +kernel
theorem dX1_numberHere_46 : decode cX1_numberHere 46 = .ok (.getfield 106, 3) := by decide +kernel
theorem dX1_numberHere_49 : decode cX1_numberHere 49 = .ok (.istore_n 3, 1) := by decide +kernel
theorem dX1_numberHere_50 : decode cX1_numberHere 50 = .ok (.iload_n 3, 1) := by decide +kernel
theorem dX1_numberHere_51 : decode cX1_numberHere 51 = .ok (.aload_n 0, 1) := by decide +kernel
theorem dX1_numberHere_52 : decode cX1_numberHere 52 = .ok (.getfield 25, 3) := by decide +kernel
theorem dX1_numberHere_55 : decode cX1_numberHere 55 = .ok (.if_icmp .ge 23, 3) := by decide +kernel
theorem dX1_numberHere_58 : decode cX1_numberHere 58 = .ok (.iload_n 2, 1) := by decide +kernel
theorem dX1_numberHere_59 : decode cX1_numberHere 59 = .ok (.bipush 10, 2) := by decide +kernel
theorem dX1_numberHere_61 : decode cX1_numberHere 61 = .ok (.imul, 1) := by decide +kernel
theorem dX1_numberHere_62 : decode cX1_numberHere 62 = .ok (.aload_n 0, 1) := by decide +kernel
theorem dX1_numberHere_63 : decode cX1_numberHere 63 = .ok (.iload_n 3, 1) := by decide +kernel
theorem dX1_numberHere_64 : decode cX1_numberHere 64 = .ok (.invokevirtual 109, 3) := by decide +kernel
theorem dX1_numberHere_67 : decode cX1_numberHere 67 = .ok (.iadd, 1) := by decide +kernel
theorem dX1_numberHere_68 : decode cX1_numberHere 68 = .ok (.bipush 48, 2) := by decide +kernel
theorem dX1_numberHere_70 : decode cX1_numberHere 70 = .ok (.isub, 1) := by decide +kernel
theorem dX1_numberHere_71 : decode cX1_numberHere 71 = .ok (.istore_n 2, 1) := by decide +kernel
theorem dX1_numberHere_72 : decode cX1_numberHere 72 = .ok (.iinc 3 1, 3) := by decide +kernel
theorem dX1_numberHere_75 : decode cX1_numberHere 75 = .ok (.goto (-25), 3) := by decide +kernel
theorem dX1_numberHere_78 : decode cX1_numberHere 78 = .ok (.iload_n 2, 1) := by decide +kernel
theorem dX1_numberHere_79 : decode cX1_numberHere 79 = .ok (.ireturn, 1) := by decide +kernel
set_option maxRecDepth 20000 in
theorem ggX1_wordHere_X1_isWord : GoodIn wsX1_wordHere wsX1_isWord := goodIn_r _ [5, 6, 7, 8, 9, 10, 11, 12, 13, 14, 15, 16, 17, 18, 19, 20, 21, 22, 23, 4, 24, 25, 26, 27, 28, 29, 30, 31, 32, 33, 34, 35, 36, 37, 38, 39, 40, 41, 42, 43, 44, 45, 46, 47, 48, 49, 50, 51, 52, 53, 54, 55, 56, 57, 58, 59, 60, 61, 62, 63, 64, 65, 66, 67, 68] (by decide +kernel) (by decide +kernel)
set_option maxRecDepth 20000 in
theorem gX1_wordHere_X1_isWord : GoodIn wsX1_wordHere (wsV RX1 118 RX1 yX1_isWord wsX1_isWord) := goodIn_app (goodIn_of _ (by decide +kernel)) ggX1_wordHere_X1_isWord
theorem dX1_wordHere_0 : decode cX1_wordHere 0 = .ok (.aload_n 0, 1) := by decide +kernel
theorem dX1_wordHere_1 : decode cX1_wordHere 1 = .ok (.ldc 116, 2) := by decide +kernel
theorem dX1_wordHere_3 : decode cX1_wordHere 3 = .ok (.invokevirtual 118, 3) := by decide +kernel
theorem dX1_wordHere_6 : decode cX1_wordHere 6 = .ok (.ifCond .eq 5, 3) := by decide +kernel
theorem dX1_wordHere_9 : decode cX1_wordHere 9 = .ok (.iconst 0, 1) := by decide +kernel
theorem dX1_wordHere_10 : decode cX1_wordHere 10 = .ok (.ireturn, 1) := by decide +kernel
theorem dX1_wordHere_11 : decode cX1_wordHere 11 = .ok (.aload_n 0, 1) := by decide +kernel
theorem dX1_wordHere_12 : decode cX1_wordHere 12 = .ok (.ldc 122, 2) := by decide +kernel
theorem dX1_wordHere_14 : decode cX1_wordHere 14 = .ok (.invokevirtual 118, 3) := by decide +kernel
theorem dX1_wordHere_17 : decode cX1_wordHere 17 = .ok (.ifCond .eq 5, 3) := by decide +kernel
theorem dX1_wordHere_20 : decode cX1_wordHere 20 = .ok (.iconst 1, 1) := by decide +kernel
theorem dX1_wordHere_21 : decode cX1_wordHere 21 = .ok (.ireturn, 1) := by decide +kernel
theorem dX1_wordHere_22 : decode cX1_wordHere 22 = .ok (.aload_n 0, 1) := by decide +kernel
theorem dX1_wordHere_23 : decode cX1_wordHere 23 = .ok (.ldc 124, 2) := by decide +kernel
theorem dX1_wordHere_25 : decode cX1_wordHere 25 = .ok (.invokevirtual 118, 3) := by decide +kernel
theorem dX1_wordHere_28 : decode cX1_wordHere 28 = .ok (.ifCond .eq 5, 3) := by decide +kernel
theorem dX1_wordHere_31 : decode cX1_wordHere 31 = .ok (.iconst 2, 1) := by decide +kernel
theorem dX1_wordHere_32 : decode cX1_wordHere 32 = .ok (.ireturn, 1) := by decide +kernel
theorem dX1_wordHere_33 : decode cX1_wordHere 33 = .ok (.aload_n 0, 1) := by decide +kernel
theorem dX1_wordHere_34 : decode cX1_wordHere 34 = .ok (.ldc 126, 2) := by decide +kernel
theorem dX1_wordHere_36 : decode cX1_wordHere 36 = .ok (.invokevirtual 118, 3) := by decide +kernel
theorem dX1_wordHere_39 : decode cX1_wordHere 39 = .ok (.ifCond .eq 5, 3) := by decide +kernel
theorem dX1_wordHere_42 : decode cX1_wordHere 42 = .ok (.iconst 3, 1) := by decide +kernel
theorem dX1_wordHere_43 : decode cX1_wordHere 43 = .ok (.ireturn, 1) := by decide +kernel
theorem dX1_wordHere_44 : decode cX1_wordHere 44 = .ok (.aload_n 0, 1) := by decide +kernel
theorem dX1_wordHere_45 : decode cX1_wordHere 45 = .ok (.ldc 128, 2) := by decide +kernel
theorem dX1_wordHere_47 : decode cX1_wordHere 47 = .ok (.invokevirtual 118, 3) := by decide +kernel
theorem dX1_wordHere_50 : decode cX1_wordHere 50 = .ok (.ifCond .eq 5, 3) := by decide +kernel
theorem dX1_wordHere_53 : decode cX1_wordHere 53 = .ok (.iconst 4, 1) := by decide +kernel
theorem dX1_wordHere_54 : decode cX1_wordHere 54 = .ok (.ireturn, 1) := by decide +kernel
theorem dX1_wordHere_55 : decode cX1_wordHere 55 = .ok (.aload_n 0, 1) := by decide +kernel
theorem dX1_wordHere_56 : decode cX1_wordHere 56 = .ok (.ldc 130, 2) := by decide +kernel
theorem dX1_wordHere_58 : decode cX1_wordHere 58 = .ok (.invokevirtual 118, 3) := by decide +kernel
theorem dX1_wordHere_61 : decode cX1_wordHere 61 = .ok (.ifCond .eq 5, 3) := by decide +kernel
theorem dX1_wordHere_64 : decode cX1_wordHere 64 = .ok (.iconst 5, 1) := by decide +kernel
theorem dX1_wordHere_65 : decode cX1_wordHere 65 = .ok (.ireturn, 1) := by decide +kernel
theorem dX1_wordHere_66 : decode cX1_wordHere 66 = .ok (.aload_n 0, 1) := by decide +kernel
theorem dX1_wordHere_67 : decode cX1_wordHere 67 = .ok (.ldc 132, 2) := by decide +kernel
theorem dX1_wordHere_69 : decode cX1_wordHere 69 = .ok (.invokevirtual 118, 3) := by decide +kernel
theorem dX1_wordHere_72 : decode cX1_wordHere 72 = .ok (.ifCond .eq 8, 3) := by decide +kernel
theorem dX1_wordHere_75 : decode cX1_wordHere 75 = .ok (.bipush 6, 2) := by decide +kernel
theorem dX1_wordHere_77 : decode cX1_wordHere 77 = .ok (.goto 5, 3) := by decide +kernel
theorem dX1_wordHere_80 : decode cX1_wordHere 80 = .ok (.bipush 7, 2) := by decide +kernel
theorem dX1_wordHere_82 : decode cX1_wordHere 82 = .ok (.ireturn, 1) := by decide +kernel
set_option maxRecDepth 20000 in
theorem ggX1_isWord_J0_length_8abf5 : GoodIn wsX1_isWord wsJ0_length_8abf5 := goodIn_r _ [8, 9, 10, 11, 12, 7, 13, 14, 15] (by decide +kernel) (by decide +kernel)
set_option maxRecDepth 20000 in
theorem gX1_isWord_J0_length_8abf5 : GoodIn wsX1_isWord (wsV RX1 133 RJ0 yJ0_length_8abf5 wsJ0_length_8abf5) := goodIn_app (goodIn_of _ (by decide +kernel)) ggX1_isWord_J0_length_8abf5
set_option maxRecDepth 20000 in
theorem ggX1_isWord_X1_byteAt : GoodIn wsX1_isWord wsX1_byteAt := goodIn_r _ [20, 21, 59, 60, 61, 62, 63, 64] (by decide +kernel) (by decide +kernel)
set_option maxRecDepth 20000 in
theorem gX1_isWord_X1_byteAt : GoodIn wsX1_isWord (wsV RX1 109 RX1 yX1_byteAt wsX1_byteAt) := goodIn_app (goodIn_of _ (by decide +kernel)) ggX1_isWord_X1_byteAt
set_option maxRecDepth 20000 in
theorem ggX1_isWord_J0_charAt_5068e : GoodIn wsX1_isWord wsJ0_charAt_5068e := goodIn_r _ [25, 9, 26, 27, 28, 7, 29, 14, 15, 30, 31, 32, 33, 34, 35, 36, 37, 38, 39, 40, 41, 42, 43, 44, 45, 46, 47, 48, 49, 50, 51, 52, 53, 54, 55, 56, 57, 58] (by decide +kernel) (by decide +kernel)
set_option maxRecDepth 20000 in
theorem gX1_isWord_J0_charAt_5068e : GoodIn wsX1_isWord (wsV RX1 137 RJ0 yJ0_charAt_5068e wsJ0_charAt_5068e) := goodIn_app (goodIn_of _ (by decide +kernel)) ggX1_isWord_J0_charAt_5068e
theorem dX1_isWord_0 : decode cX1_isWord 0 = .ok (.aload_n 0, 1) := by decide +kernel
theorem dX1_isWord_1 : decode cX1_isWord 1 = .ok (.getfield 34, 3) := by decide +kernel
theorem dX1_isWord_4 : decode cX1_isWord 4 = .ok (.iconst 1, 1) := by decide +kernel
theorem dX1_isWord_5 : decode cX1_isWord 5 = .ok (.if_icmp .ne 19, 3) := by decide +kernel
theorem dX1_isWord_8 : decode cX1_isWord 8 = .ok (.aload_n 0, 1) := by decide +kernel
theorem dX1_isWord_9 : decode cX1_isWord 9 = .ok (.getfield 25, 3) := by decide +kernel
theorem dX1_isWord_12 : decode cX1_isWord 12 = .ok (.aload_n 0, 1) := by decide +kernel
theorem dX1_isWord_13 : decode cX1_isWord 13 = .ok (.getfield 106, 3) := by decide +kernel
theorem dX1_isWord_16 : decode cX1_isWord 16 = .ok (.isub, 1) := by decide +kernel
theorem dX1_isWord_17 : decode cX1_isWord 17 = .ok (.aload_n 1, 1) := by decide +kernel
theorem dX1_isWord_18 : decode cX1_isWord 18 = .ok (.invokevirtual 133, 3) := by decide +kernel
theorem dX1_isWord_21 : decode cX1_isWord 21 = .ok (.if_icmp .eq 5, 3) := by decide +kernel
theorem dX1_isWord_24 : decode cX1_isWord 24 = .ok (.iconst 0, 1) := by decide +kernel
theorem dX1_isWord_25 : decode cX1_isWord 25 = .ok (.ireturn, 1) := by decide +kernel
theorem dX1_isWord_26 : decode cX1_isWord 26 = .ok (.iconst 0, 1) := by decide +kernel
theorem dX1_isWord_27 : decode cX1_isWord 27 = .ok (.istore_n 2, 1) := by decide +kernel
theorem dX1_isWord_28 : decode cX1_isWord 28 = .ok (.iload_n 2, 1) := by decide +kernel
theorem dX1_isWord_29 : decode cX1_isWord 29 = .ok (.aload_n 1, 1) := by decide +kernel
theorem dX1_isWord_30 : decode cX1_isWord 30 = .ok (.invokevirtual 133, 3) := by decide +kernel
theorem dX1_isWord_33 : decode cX1_isWord 33 = .ok (.if_icmp .ge 29, 3) := by decide +kernel
theorem dX1_isWord_36 : decode cX1_isWord 36 = .ok (.aload_n 0, 1) := by decide +kernel
theorem dX1_isWord_37 : decode cX1_isWord 37 = .ok (.aload_n 0, 1) := by decide +kernel
theorem dX1_isWord_38 : decode cX1_isWord 38 = .ok (.getfield 106, 3) := by decide +kernel
theorem dX1_isWord_41 : decode cX1_isWord 41 = .ok (.iload_n 2, 1) := by decide +kernel
theorem dX1_isWord_42 : decode cX1_isWord 42 = .ok (.iadd, 1) := by decide +kernel
theorem dX1_isWord_43 : decode cX1_isWord 43 = .ok (.invokevirtual 109, 3) := by decide +kernel
theorem dX1_isWord_46 : decode cX1_isWord 46 = .ok (.aload_n 1, 1) := by decide +kernel
theorem dX1_isWord_47 : decode cX1_isWord 47 = .ok (.iload_n 2, 1) := by decide +kernel
theorem dX1_isWord_48 : decode cX1_isWord 48 = .ok (.invokevirtual 137, 3) := by decide +kernel
theorem dX1_isWord_51 : decode cX1_isWord 51 = .ok (.if_icmp .eq 5, 3) := by decide +kernel
theorem dX1_isWord_54 : decode cX1_isWord 54 = .ok (.iconst 0, 1) := by decide +kernel
theorem dX1_isWord_55 : decode cX1_isWord 55 = .ok (.ireturn, 1) := by decide +kernel
theorem dX1_isWord_56 : decode cX1_isWord 56 = .ok (.iinc 2 1, 3) := by decide +kernel
theorem dX1_isWord_59 : decode cX1_isWord 59 = .ok (.goto (-31), 3) := by decide +kernel
theorem dX1_isWord_62 : decode cX1_isWord 62 = .ok (.iconst 1, 1) := by decide +kernel
theorem dX1_isWord_63 : decode cX1_isWord 63 = .ok (.ireturn, 1) := by decide +kernel
theorem dX1_byteAt_0 : decode cX1_byteAt 0 = .ok (.aload_n 0, 1) := by decide +kernel
theorem dX1_byteAt_1 : decode cX1_byteAt 1 = .ok (.getfield 9, 3) := by decide +kernel
theorem dX1_byteAt_4 : decode cX1_byteAt 4 = .ok (.ifnull 29, 3) := by decide +kernel
theorem dX1_byteAt_7 : decode cX1_byteAt 7 = .ok (.iload_n 1, 1) := by decide +kernel
theorem dX1_byteAt_8 : decode cX1_byteAt 8 = .ok (.ifCond .lt 25, 3) := by decide +kernel
theorem dX1_byteAt_11 : decode cX1_byteAt 11 = .ok (.iload_n 1, 1) := by decide +kernel
theorem dX1_byteAt_12 : decode cX1_byteAt 12 = .ok (.aload_n 0, 1) := by decide +kernel
theorem dX1_byteAt_13 : decode cX1_byteAt 13 = .ok (.getfield 9, 3) := by decide +kernel
theorem dX1_byteAt_16 : decode cX1_byteAt 16 = .ok (.arraylength, 1) := by decide +kernel
theorem dX1_byteAt_17 : decode cX1_byteAt 17 = .ok (.if_icmp .ge 16, 3) := by decide +kernel
theorem dX1_byteAt_20 : decode cX1_byteAt 20 = .ok (.aload_n 0, 1) := by decide +kernel
theorem dX1_byteAt_21 : decode cX1_byteAt 21 = .ok (.getfield 9, 3) := by decide +kernel
theorem dX1_byteAt_24 : decode cX1_byteAt 24 = .ok (.iload_n 1, 1) := by decide +kernel
theorem dX1_byteAt_25 : decode cX1_byteAt 25 = .ok (.baload, 1) := by decide +kernel
theorem dX1_byteAt_26 : decode cX1_byteAt 26 = .ok (.sipush 255, 3) := by decide +kernel
theorem dX1_byteAt_29 : decode cX1_byteAt 29 = .ok (.iand, 1) := by decide +kernel
theorem dX1_byteAt_30 : decode cX1_byteAt 30 = .ok (.goto 4, 3) := by decide +kernel
theorem dX1_byteAt_33 : decode cX1_byteAt 33 = .ok (.iconst 0, 1) := by decide +kernel
theorem dX1_byteAt_34 : decode cX1_byteAt 34 = .ok (.ireturn, 1) := by decide +kernel
