theorem dX5_leftBy_147 : decode cX5_leftBy 147 = .ok (.bipush 25, 2) := by decide +kernel
theorem dX5_leftBy_149 : decode cX5_leftBy 149 = .ok (.iload_n 1, 1) := by decide +kernel
theorem dX5_leftBy_150 : decode cX5_leftBy 150 = .ok (.iconst 1, 1) := by decide +kernel
theorem dX5_leftBy_151 : decode cX5_leftBy 151 = .ok (.iadd, 1) := by decide +kernel
theorem dX5_leftBy_152 : decode cX5_leftBy 152 = .ok (.imul, 1) := by decide +kernel
theorem dX5_leftBy_153 : decode cX5_leftBy 153 = .ok (.iload 4, 2) := by decide +kernel
theorem dX5_leftBy_155 : decode cX5_leftBy 155 = .ok (.iadd, 1) := by decide +kernel
theorem dX5_leftBy_156 : decode cX5_leftBy 156 = .ok (.iaload, 1) := by decide +kernel
theorem dX5_leftBy_157 : decode cX5_leftBy 157 = .ok (.iadd, 1) := by decide +kernel
theorem dX5_leftBy_158 : decode cX5_leftBy 158 = .ok (.goto 6, 3) := by decide +kernel
theorem dX5_leftBy_161 : decode cX5_leftBy 161 = .ok (.sipush 1000, 3) := by decide +kernel
theorem dX5_leftBy_164 : decode cX5_leftBy 164 = .ok (.ireturn, 1) := by decide +kernel
set_option maxRecDepth 20000 in
theorem ggX5_findWay_X5_findTaken : GoodIn wsX5_findWay wsX5_findTaken := goodIn_r _ [6, 7, 8, 9, 10, 11, 12, 13, 5, 14, 15, 16, 17, 18, 19, 20, 21, 22, 23, 24, 25, 26, 27, 28, 29, 30, 31, 32, 33, 34, 35, 36, 37, 38, 39, 40, 41, 42, 43, 44, 45, 46, 47, 48, 49, 50, 51, 52, 53, 54, 55, 56, 57, 58, 59, 60, 61, 62, 63, 64, 65, 66, 67, 68, 69, 70, 86, 87, 88, 89, 90, 91, 92, 93, 94, 95, 96, 97, 98, 99, 100, 101, 102, 103, 104, 105, 106, 107, 108, 109, 110, 111, 112, 113, 114, 115, 116, 117, 118, 119, 120, 121, 122, 123, 124, 125, 126] (by decide +kernel) (by decide +kernel)
set_option maxRecDepth 20000 in
theorem gX5_findWay_X5_findTaken : GoodIn wsX5_findWay (wsV RX5 250 RX5 yX5_findTaken wsX5_findTaken) := goodIn_app (goodIn_of _ (by decide +kernel)) ggX5_findWay_X5_findTaken
set_option maxRecDepth 20000 in
theorem ggX5_findWay_X5_cells : GoodIn wsX5_findWay wsX5_cells := goodIn_r _ [22, 23, 24, 86, 87, 88, 89, 90, 91, 92, 93, 94, 95, 96, 97, 98, 99, 100, 101, 102, 103, 104, 105, 106, 107, 108, 109, 110, 111, 112, 113, 114, 115, 116, 117, 118, 119, 120, 121, 122, 123, 124, 125, 126] (by decide +kernel) (by decide +kernel)
set_option maxRecDepth 20000 in
theorem gX5_findWay_X5_cells : GoodIn wsX5_findWay (wsV RX5 70 RX5 yX5_cells wsX5_cells) := goodIn_app (goodIn_of _ (by decide +kernel)) ggX5_findWay_X5_cells
set_option maxRecDepth 20000 in
theorem ggX5_findWay_X5_leftBy : GoodIn wsX5_findWay wsX5_leftBy := goodIn_r _ [74, 24, 23, 1, 75, 76, 5, 77, 78, 79, 80, 81, 82, 83, 84, 85, 9, 25, 26, 27, 86, 87, 88, 89, 90, 91, 92, 93, 94, 95, 96, 97, 98, 99, 100, 101, 102, 103, 104, 105, 106, 107, 108, 109, 110, 111, 112, 113, 114, 115, 116, 117, 118, 119, 120, 121, 122, 123, 124, 125, 126] (by decide +kernel) (by decide +kernel)
set_option maxRecDepth 20000 in
theorem gX5_findWay_X5_leftBy : GoodIn wsX5_findWay (wsV RX5 253 RX5 yX5_leftBy wsX5_leftBy) := goodIn_app (goodIn_of _ (by decide +kernel)) ggX5_findWay_X5_leftBy
theorem dX5_findWay_0 : decode cX5_findWay 0 = .ok (.aload_n 0, 1) := by decide +kernel
theorem dX5_findWay_1 : decode cX5_findWay 1 = .ok (.iload_n 1, 1) := by decide +kernel
theorem dX5_findWay_2 : decode cX5_findWay 2 = .ok (.iload_n 2, 1) := by decide +kernel
theorem dX5_findWay_3 : decode cX5_findWay 3 = .ok (.invokevirtual 250, 3) := by decide +kernel
theorem dX5_findWay_6 : decode cX5_findWay 6 = .ok (.iconst 0, 1) := by decide +kernel
theorem dX5_findWay_7 : decode cX5_findWay 7 = .ok (.istore_n 3, 1) := by decide +kernel
theorem dX5_findWay_8 : decode cX5_findWay 8 = .ok (.iload_n 3, 1) := by decide +kernel
theorem dX5_findWay_9 : decode cX5_findWay 9 = .ok (.bipush 24, 2) := by decide +kernel
theorem dX5_findWay_11 : decode cX5_findWay 11 = .ok (.if_icmp .gt 22, 3) := by decide +kernel
theorem dX5_findWay_14 : decode cX5_findWay 14 = .ok (.aload_n 0, 1) := by decide +kernel
theorem dX5_findWay_15 : decode cX5_findWay 15 = .ok (.getfield 60, 3) := by decide +kernel
theorem dX5_findWay_18 : decode cX5_findWay 18 = .ok (.sipush 1000, 3) := by decide +kernel
theorem dX5_findWay_21 : decode cX5_findWay 21 = .ok (.iload_n 3, 1) := by decide +kernel
theorem dX5_findWay_22 : decode cX5_findWay 22 = .ok (.iadd, 1) := by decide +kernel
theorem dX5_findWay_23 : decode cX5_findWay 23 = .ok (.sipush 1000, 3) := by decide +kernel
theorem dX5_findWay_26 : decode cX5_findWay 26 = .ok (.iastore, 1) := by decide +kernel
theorem dX5_findWay_27 : decode cX5_findWay 27 = .ok (.iinc 3 1, 3) := by decide +kernel
theorem dX5_findWay_30 : decode cX5_findWay 30 = .ok (.goto (-22), 3) := by decide +kernel
theorem dX5_findWay_33 : decode cX5_findWay 33 = .ok (.bipush 39, 2) := by decide +kernel
theorem dX5_findWay_35 : decode cX5_findWay 35 = .ok (.istore_n 3, 1) := by decide +kernel
theorem dX5_findWay_36 : decode cX5_findWay 36 = .ok (.iload_n 3, 1) := by decide +kernel
theorem dX5_findWay_37 : decode cX5_findWay 37 = .ok (.ifCond .lt 103, 3) := by decide +kernel
theorem dX5_findWay_40 : decode cX5_findWay 40 = .ok (.iconst 0, 1) := by decide +kernel
theorem dX5_findWay_41 : decode cX5_findWay 41 = .ok (.istore 4, 2) := by decide +kernel
theorem dX5_findWay_43 : decode cX5_findWay 43 = .ok (.iload 4, 2) := by decide +kernel
theorem dX5_findWay_45 : decode cX5_findWay 45 = .ok (.bipush 24, 2) := by decide +kernel
theorem dX5_findWay_47 : decode cX5_findWay 47 = .ok (.if_icmp .gt 87, 3) := by decide +kernel
theorem dX5_findWay_50 : decode cX5_findWay 50 = .ok (.sipush 1000, 3) := by decide +kernel
theorem dX5_findWay_53 : decode cX5_findWay 53 = .ok (.istore 5, 2) := by decide +kernel
theorem dX5_findWay_55 : decode cX5_findWay 55 = .ok (.iconst 0, 1) := by decide +kernel
theorem dX5_findWay_56 : decode cX5_findWay 56 = .ok (.istore 6, 2) := by decide +kernel
theorem dX5_findWay_58 : decode cX5_findWay 58 = .ok (.iload 6, 2) := by decide +kernel
theorem dX5_findWay_60 : decode cX5_findWay 60 = .ok (.bipush 9, 2) := by decide +kernel
theorem dX5_findWay_62 : decode cX5_findWay 62 = .ok (.if_icmp .ge 52, 3) := by decide +kernel
theorem dX5_findWay_65 : decode cX5_findWay 65 = .ok (.iload 4, 2) := by decide +kernel
theorem dX5_findWay_67 : decode cX5_findWay 67 = .ok (.aload_n 0, 1) := by decide +kernel
theorem dX5_findWay_68 : decode cX5_findWay 68 = .ok (.invokevirtual 70, 3) := by decide +kernel
theorem dX5_findWay_71 : decode cX5_findWay 71 = .ok (.if_icmp .lt 10, 3) := by decide +kernel
theorem dX5_findWay_74 : decode cX5_findWay 74 = .ok (.iload 4, 2) := by decide +kernel
theorem dX5_findWay_76 : decode cX5_findWay 76 = .ok (.bipush 24, 2) := by decide +kernel
theorem dX5_findWay_78 : decode cX5_findWay 78 = .ok (.if_icmp .ne 36, 3) := by decide +kernel
theorem dX5_findWay_81 : decode cX5_findWay 81 = .ok (.aload_n 0, 1) := by decide +kernel
theorem dX5_findWay_82 : decode cX5_findWay 82 = .ok (.iload_n 3, 1) := by decide +kernel
theorem dX5_findWay_83 : decode cX5_findWay 83 = .ok (.iload 4, 2) := by decide +kernel
theorem dX5_findWay_85 : decode cX5_findWay 85 = .ok (.iload 6, 2) := by decide +kernel
theorem dX5_findWay_87 : decode cX5_findWay 87 = .ok (.invokevirtual 253, 3) := by decide +kernel
theorem dX5_findWay_90 : decode cX5_findWay 90 = .ok (.istore 7, 2) := by decide +kernel
theorem dX5_findWay_92 : decode cX5_findWay 92 = .ok (.iload 7, 2) := by decide +kernel
theorem dX5_findWay_94 : decode cX5_findWay 94 = .ok (.iload 5, 2) := by decide +kernel
theorem dX5_findWay_96 : decode cX5_findWay 96 = .ok (.if_icmp .ge 8, 3) := by decide +kernel
theorem dX5_findWay_99 : decode cX5_findWay 99 = .ok (.iload 7, 2) := by decide +kernel
theorem dX5_findWay_101 : decode cX5_findWay 101 = .ok (.goto 5, 3) := by decide +kernel
theorem dX5_findWay_104 : decode cX5_findWay 104 = .ok (.iload 5, 2) := by decide +kernel
theorem dX5_findWay_106 : decode cX5_findWay 106 = .ok (.istore 5, 2) := by decide +kernel
theorem dX5_findWay_108 : decode cX5_findWay 108 = .ok (.iinc 6 1, 3) := by decide +kernel
theorem dX5_findWay_111 : decode cX5_findWay 111 = .ok (.goto (-53), 3) := by decide +kernel
theorem dX5_findWay_114 : decode cX5_findWay 114 = .ok (.aload_n 0, 1) := by decide +kernel
theorem dX5_findWay_115 : decode cX5_findWay 115 = .ok (.getfield 60, 3) := by decide +kernel
theorem dX5_findWay_118 : decode cX5_findWay 118 = .ok (.bipush 25, 2) := by decide +kernel
theorem dX5_findWay_120 : decode cX5_findWay 120 = .ok (.iload_n 3, 1) := by decide +kernel
theorem dX5_findWay_121 : decode cX5_findWay 121 = .ok (.imul, 1) := by decide +kernel
theorem dX5_findWay_122 : decode cX5_findWay 122 = .ok (.iload 4, 2) := by decide +kernel
theorem dX5_findWay_124 : decode cX5_findWay 124 = .ok (.iadd, 1) := by decide +kernel
theorem dX5_findWay_125 : decode cX5_findWay 125 = .ok (.iload 5, 2) := by decide +kernel
theorem dX5_findWay_127 : decode cX5_findWay 127 = .ok (.iastore, 1) := by decide +kernel
theorem dX5_findWay_128 : decode cX5_findWay 128 = .ok (.iinc 4 1, 3) := by decide +kernel
theorem dX5_findWay_131 : decode cX5_findWay 131 = .ok (.goto (-88), 3) := by decide +kernel
theorem dX5_findWay_134 : decode cX5_findWay 134 = .ok (.iinc 3 (-1), 3) := by decide +kernel
theorem dX5_findWay_137 : decode cX5_findWay 137 = .ok (.goto (-101), 3) := by decide +kernel
theorem dX5_findWay_140 : decode cX5_findWay 140 = .ok (.aload_n 0, 1) := by decide +kernel
theorem dX5_findWay_141 : decode cX5_findWay 141 = .ok (.getfield 60, 3) := by decide +kernel
theorem dX5_findWay_144 : decode cX5_findWay 144 = .ok (.bipush 24, 2) := by decide +kernel
theorem dX5_findWay_146 : decode cX5_findWay 146 = .ok (.iaload, 1) := by decide +kernel
theorem dX5_findWay_147 : decode cX5_findWay 147 = .ok (.bipush 40, 2) := by decide +kernel
theorem dX5_findWay_149 : decode cX5_findWay 149 = .ok (.if_icmp .le 9, 3) := by decide +kernel
theorem dX5_findWay_152 : decode cX5_findWay 152 = .ok (.sipush 1000, 3) := by decide +kernel
theorem dX5_findWay_155 : decode cX5_findWay 155 = .ok (.goto 10, 3) := by decide +kernel
theorem dX5_findWay_158 : decode cX5_findWay 158 = .ok (.aload_n 0, 1) := by decide +kernel
theorem dX5_findWay_159 : decode cX5_findWay 159 = .ok (.getfield 60, 3) := by decide +kernel
theorem dX5_findWay_162 : decode cX5_findWay 162 = .ok (.bipush 24, 2) := by decide +kernel
theorem dX5_findWay_164 : decode cX5_findWay 164 = .ok (.iaload, 1) := by decide +kernel
theorem dX5_findWay_165 : decode cX5_findWay 165 = .ok (.ireturn, 1) := by decide +kernel
theorem dX5_told_0 : decode cX5_told 0 = .ok (.iload_n 0, 1) := by decide +kernel
theorem dX5_told_1 : decode cX5_told 1 = .ok (.sipush 1000, 3) := by decide +kernel
theorem dX5_told_4 : decode cX5_told 4 = .ok (.if_icmp .ne 8, 3) := by decide +kernel
theorem dX5_told_7 : decode cX5_told 7 = .ok (.bipush (-9), 2) := by decide +kernel
theorem dX5_told_9 : decode cX5_told 9 = .ok (.goto 4, 3) := by decide +kernel
theorem dX5_told_12 : decode cX5_told 12 = .ok (.iload_n 0, 1) := by decide +kernel
theorem dX5_told_13 : decode cX5_told 13 = .ok (.ireturn, 1) := by decide +kernel
set_option maxRecDepth 20000 in
theorem ggX5_soonest_X5_findWay : GoodIn wsX5_soonest wsX5_findWay := goodIn_r _ [5, 6, 7, 8, 9, 4, 10, 11, 12, 13, 14, 15, 16, 17, 18, 19, 20, 21, 22, 23, 24, 25, 26, 27, 28, 29, 30, 31, 32, 33, 34, 35, 36, 37, 38, 39, 40, 41, 42, 43, 44, 45, 46, 47, 48, 49, 50, 51, 52, 53, 54, 55, 56, 57, 58, 59, 60, 61, 62, 63, 64, 65, 66, 67, 68, 69, 70, 71, 72, 73, 74, 75, 76, 77, 78, 79, 80, 81, 82, 83, 84, 85, 86, 87, 88, 89, 93, 94, 95, 96, 97, 98, 99, 100, 101, 102, 103, 104, 105, 106, 107, 108, 109, 110, 111, 112, 113, 114, 115, 116, 117, 118, 119, 120, 121, 122, 123, 124, 125, 126, 127, 128, 129, 130, 131, 132, 133] (by decide +kernel) (by decide +kernel)
set_option maxRecDepth 20000 in
theorem gX5_soonest_X5_findWay : GoodIn wsX5_soonest (wsV RX5 257 RX5 yX5_findWay wsX5_findWay) := goodIn_app (goodIn_of _ (by decide +kernel)) ggX5_soonest_X5_findWay
set_option maxRecDepth 20000 in
theorem ggX5_soonest_X5_told : GoodIn wsX5_soonest wsX5_told := goodIn_r _ [92] (by decide +kernel) (by decide +kernel)
set_option maxRecDepth 20000 in
theorem gX5_soonest_X5_told : GoodIn wsX5_soonest (va_wsS RX5 260 yX5_told wsX5_told) := goodIn_app (goodIn_of _ (by decide +kernel)) ggX5_soonest_X5_told
theorem dX5_soonest_0 : decode cX5_soonest 0 = .ok (.aload_n 0, 1) := by decide +kernel
theorem dX5_soonest_1 : decode cX5_soonest 1 = .ok (.iconst 0, 1) := by decide +kernel
theorem dX5_soonest_2 : decode cX5_soonest 2 = .ok (.iconst 0, 1) := by decide +kernel
theorem dX5_soonest_3 : decode cX5_soonest 3 = .ok (.invokevirtual 257, 3) := by decide +kernel
theorem dX5_soonest_6 : decode cX5_soonest 6 = .ok (.invokestatic 260, 3) := by decide +kernel
theorem dX5_soonest_9 : decode cX5_soonest 9 = .ok (.ireturn, 1) := by decide +kernel
set_option maxRecDepth 20000 in
theorem ggX5_step_X5_findWay : GoodIn wsX5_step wsX5_findWay := goodIn_r _ [7, 1, 8, 9, 10, 6, 11, 12, 13, 14, 15, 16, 17, 18, 19, 20, 21, 22, 23, 24, 25, 26, 27, 2, 28, 29, 30, 31, 32, 33, 34, 35, 36, 37, 38, 39, 40, 41, 42, 43, 44, 45, 46, 47, 48, 49, 50, 51, 52, 53, 54, 55, 56, 57, 58, 59, 60, 61, 62, 63, 64, 65, 66, 67, 68, 69, 70, 71, 72, 73, 74, 75, 76, 77, 78, 79, 80, 81, 82, 83, 84, 85, 86, 87, 88, 89, 90, 91, 92, 93, 94, 95, 96, 97, 98, 99, 100, 101, 102, 103, 104, 105, 106, 107, 108, 109, 110, 111, 112, 113, 114, 115, 116, 117, 118, 119, 120, 121, 122, 123, 124, 125, 126, 127, 128, 129, 130] (by decide +kernel) (by decide +kernel)
set_option maxRecDepth 20000 in
theorem gX5_step_X5_findWay : GoodIn wsX5_step (wsV RX5 257 RX5 yX5_findWay wsX5_findWay) := goodIn_app (goodIn_of _ (by decide +kernel)) ggX5_step_X5_findWay
set_option maxRecDepth 20000 in
theorem ggX5_step_X5_leftBy : GoodIn wsX5_step wsX5_leftBy := goodIn_r _ [78, 28, 2, 1, 79, 80, 6, 81, 82, 83, 84, 85, 86, 87, 88, 89, 14, 29, 30, 31, 90, 91, 92, 93, 94, 95, 96, 97, 98, 99, 100, 101, 102, 103, 104, 105, 106, 107, 108, 109, 110, 111, 112, 113, 114, 115, 116, 117, 118, 119, 120, 121, 122, 123, 124, 125, 126, 127, 128, 129, 130] (by decide +kernel) (by decide +kernel)
set_option maxRecDepth 20000 in
theorem gX5_step_X5_leftBy : GoodIn wsX5_step (wsV RX5 253 RX5 yX5_leftBy wsX5_leftBy) := goodIn_app (goodIn_of _ (by decide +kernel)) ggX5_step_X5_leftBy
set_option maxRecDepth 20000 in
theorem ggX5_step_X5_comesTo : GoodIn wsX5_step wsX5_comesTo := goodIn_r _ [85, 2, 28, 90, 91, 92, 93, 94, 95, 96, 97, 98, 99, 100, 101, 102, 103, 104, 105, 106, 107, 108, 109, 110, 111, 112, 113, 114, 115, 116, 117, 118, 119, 120, 121, 122, 123, 124, 125, 126, 127, 128, 129, 130] (by decide +kernel) (by decide +kernel)
set_option maxRecDepth 20000 in
theorem gX5_step_X5_comesTo : GoodIn wsX5_step (wsV RX5 244 RX5 yX5_comesTo wsX5_comesTo) := goodIn_app (goodIn_of _ (by decide +kernel)) ggX5_step_X5_comesTo
theorem dX5_step_0 : decode cX5_step 0 = .ok (.iload_n 1, 1) := by decide +kernel
theorem dX5_step_1 : decode cX5_step 1 = .ok (.ifCond .ge 5, 3) := by decide +kernel
theorem dX5_step_4 : decode cX5_step 4 = .ok (.iconst (-1), 1) := by decide +kernel
theorem dX5_step_5 : decode cX5_step 5 = .ok (.ireturn, 1) := by decide +kernel
theorem dX5_step_6 : decode cX5_step 6 = .ok (.aload_n 0, 1) := by decide +kernel
theorem dX5_step_7 : decode cX5_step 7 = .ok (.iconst 0, 1) := by decide +kernel
theorem dX5_step_8 : decode cX5_step 8 = .ok (.iconst 0, 1) := by decide +kernel
theorem dX5_step_9 : decode cX5_step 9 = .ok (.invokevirtual 257, 3) := by decide +kernel
theorem dX5_step_12 : decode cX5_step 12 = .ok (.istore_n 2, 1) := by decide +kernel
theorem dX5_step_13 : decode cX5_step 13 = .ok (.iload_n 2, 1) := by decide +kernel
theorem dX5_step_14 : decode cX5_step 14 = .ok (.sipush 1000, 3) := by decide +kernel
theorem dX5_step_17 : decode cX5_step 17 = .ok (.if_icmp .ne 6, 3) := by decide +kernel
theorem dX5_step_20 : decode cX5_step 20 = .ok (.bipush (-9), 2) := by decide +kernel
theorem dX5_step_22 : decode cX5_step 22 = .ok (.ireturn, 1) := by decide +kernel
theorem dX5_step_23 : decode cX5_step 23 = .ok (.iload_n 1, 1) := by decide +kernel
theorem dX5_step_24 : decode cX5_step 24 = .ok (.iload_n 2, 1) := by decide +kernel
theorem dX5_step_25 : decode cX5_step 25 = .ok (.if_icmp .lt 6, 3) := by decide +kernel
theorem dX5_step_28 : decode cX5_step 28 = .ok (.bipush (-5), 2) := by decide +kernel
theorem dX5_step_30 : decode cX5_step 30 = .ok (.ireturn, 1) := by decide +kernel
theorem dX5_step_31 : decode cX5_step 31 = .ok (.bipush 24, 2) := by decide +kernel
theorem dX5_step_33 : decode cX5_step 33 = .ok (.istore_n 3, 1) := by decide +kernel
theorem dX5_step_34 : decode cX5_step 34 = .ok (.bipush (-9), 2) := by decide +kernel
theorem dX5_step_36 : decode cX5_step 36 = .ok (.istore 4, 2) := by decide +kernel
theorem dX5_step_38 : decode cX5_step 38 = .ok (.iconst 0, 1) := by decide +kernel
theorem dX5_step_39 : decode cX5_step 39 = .ok (.istore 5, 2) := by decide +kernel
theorem dX5_step_41 : decode cX5_step 41 = .ok (.iload 5, 2) := by decide +kernel
theorem dX5_step_43 : decode cX5_step 43 = .ok (.iload_n 1, 1) := by decide +kernel
theorem dX5_step_44 : decode cX5_step 44 = .ok (.if_icmp .gt 99, 3) := by decide +kernel
theorem dX5_step_47 : decode cX5_step 47 = .ok (.bipush (-9), 2) := by decide +kernel
theorem dX5_step_49 : decode cX5_step 49 = .ok (.istore 4, 2) := by decide +kernel
theorem dX5_step_51 : decode cX5_step 51 = .ok (.bipush 8, 2) := by decide +kernel
theorem dX5_step_53 : decode cX5_step 53 = .ok (.istore 6, 2) := by decide +kernel
theorem dX5_step_55 : decode cX5_step 55 = .ok (.iload 6, 2) := by decide +kernel
theorem dX5_step_57 : decode cX5_step 57 = .ok (.ifCond .lt 42, 3) := by decide +kernel
theorem dX5_step_60 : decode cX5_step 60 = .ok (.aload_n 0, 1) := by decide +kernel
theorem dX5_step_61 : decode cX5_step 61 = .ok (.iload 5, 2) := by decide +kernel
theorem dX5_step_63 : decode cX5_step 63 = .ok (.iload_n 3, 1) := by decide +kernel
theorem dX5_step_64 : decode cX5_step 64 = .ok (.iload 6, 2) := by decide +kernel
theorem dX5_step_66 : decode cX5_step 66 = .ok (.invokevirtual 253, 3) := by decide +kernel
theorem dX5_step_69 : decode cX5_step 69 = .ok (.aload_n 0, 1) := by decide +kernel
theorem dX5_step_70 : decode cX5_step 70 = .ok (.getfield 60, 3) := by decide +kernel
theorem dX5_step_73 : decode cX5_step 73 = .ok (.bipush 25, 2) := by decide +kernel
theorem dX5_step_75 : decode cX5_step 75 = .ok (.iload 5, 2) := by decide +kernel
theorem dX5_step_77 : decode cX5_step 77 = .ok (.imul, 1) := by decide +kernel
theorem dX5_step_78 : decode cX5_step 78 = .ok (.iload_n 3, 1) := by decide +kernel
theorem dX5_step_79 : decode cX5_step 79 = .ok (.iadd, 1) := by decide +kernel
theorem dX5_step_80 : decode cX5_step 80 = .ok (.iaload, 1) := by decide +kernel
theorem dX5_step_81 : decode cX5_step 81 = .ok (.if_icmp .ne 8, 3) := by decide +kernel
theorem dX5_step_84 : decode cX5_step 84 = .ok (.iload 6, 2) := by decide +kernel
theorem dX5_step_86 : decode cX5_step 86 = .ok (.goto 5, 3) := by decide +kernel
theorem dX5_step_89 : decode cX5_step 89 = .ok (.iload 4, 2) := by decide +kernel
theorem dX5_step_91 : decode cX5_step 91 = .ok (.istore 4, 2) := by decide +kernel
theorem dX5_step_93 : decode cX5_step 93 = .ok (.iinc 6 (-1), 3) := by decide +kernel
theorem dX5_step_96 : decode cX5_step 96 = .ok (.goto (-41), 3) := by decide +kernel
theorem dX5_step_99 : decode cX5_step 99 = .ok (.iload_n 3, 1) := by decide +kernel
theorem dX5_step_100 : decode cX5_step 100 = .ok (.bipush 24, 2) := by decide +kernel
theorem dX5_step_102 : decode cX5_step 102 = .ok (.if_icmp .ne 27, 3) := by decide +kernel
theorem dX5_step_105 : decode cX5_step 105 = .ok (.iload 4, 2) := by decide +kernel
theorem dX5_step_107 : decode cX5_step 107 = .ok (.bipush 8, 2) := by decide +kernel
theorem dX5_step_109 : decode cX5_step 109 = .ok (.if_icmp .ne 8, 3) := by decide +kernel
theorem dX5_step_112 : decode cX5_step 112 = .ok (.bipush 24, 2) := by decide +kernel
theorem dX5_step_114 : decode cX5_step 114 = .ok (.goto 22, 3) := by decide +kernel
theorem dX5_step_117 : decode cX5_step 117 = .ok (.aload_n 0, 1) := by decide +kernel
theorem dX5_step_118 : decode cX5_step 118 = .ok (.getfield 13, 3) := by decide +kernel
theorem dX5_step_121 : decode cX5_step 121 = .ok (.iload 4, 2) := by decide +kernel
theorem dX5_step_123 : decode cX5_step 123 = .ok (.iconst 5, 1) := by decide +kernel
theorem dX5_step_124 : decode cX5_step 124 = .ok (.isub, 1) := by decide +kernel
theorem dX5_step_125 : decode cX5_step 125 = .ok (.imul, 1) := by decide +kernel
theorem dX5_step_126 : decode cX5_step 126 = .ok (.goto 10, 3) := by decide +kernel
theorem dX5_step_129 : decode cX5_step 129 = .ok (.aload_n 0, 1) := by decide +kernel
theorem dX5_step_130 : decode cX5_step 130 = .ok (.iload_n 3, 1) := by decide +kernel
theorem dX5_step_131 : decode cX5_step 131 = .ok (.iload 4, 2) := by decide +kernel
theorem dX5_step_133 : decode cX5_step 133 = .ok (.invokevirtual 244, 3) := by decide +kernel
theorem dX5_step_136 : decode cX5_step 136 = .ok (.istore_n 3, 1) := by decide +kernel
theorem dX5_step_137 : decode cX5_step 137 = .ok (.iinc 5 1, 3) := by decide +kernel
theorem dX5_step_140 : decode cX5_step 140 = .ok (.goto (-99), 3) := by decide +kernel
theorem dX5_step_143 : decode cX5_step 143 = .ok (.iload 4, 2) := by decide +kernel
theorem dX5_step_145 : decode cX5_step 145 = .ok (.ireturn, 1) := by decide +kernel
set_option maxRecDepth 20000 in
theorem ggX5_count_X5_cells : GoodIn wsX5_count wsX5_cells := goodIn_r _ [7, 8, 9, 90, 91, 92, 93, 94, 95, 96, 97, 98, 99, 100, 101, 102, 103, 104, 105, 106, 107, 108, 109, 110, 111, 112, 113, 114, 115, 116, 117, 118, 119, 120, 121, 122, 123, 124, 125, 126, 127, 128, 129, 130] (by decide +kernel) (by decide +kernel)
set_option maxRecDepth 20000 in
theorem gX5_count_X5_cells : GoodIn wsX5_count (wsV RX5 70 RX5 yX5_cells wsX5_cells) := goodIn_app (goodIn_of _ (by decide +kernel)) ggX5_count_X5_cells
set_option maxRecDepth 20000 in
theorem ggX5_count_X5_findTaken : GoodIn wsX5_count wsX5_findTaken := goodIn_r _ [13, 14, 15, 16, 17, 18, 19, 20, 6, 21, 22, 23, 24, 25, 3, 4, 5, 7, 8, 9, 26, 27, 28, 29, 30, 31, 32, 33, 34, 35, 36, 37, 38, 39, 40, 41, 42, 43, 44, 45, 46, 47, 48, 49, 50, 51, 52, 53, 54, 55, 56, 57, 58, 59, 60, 61, 62, 63, 64, 65, 66, 67, 68, 69, 70, 71, 90, 91, 92, 93, 94, 95, 96, 97, 98, 99, 100, 101, 102, 103, 104, 105, 106, 107, 108, 109, 110, 111, 112, 113, 114, 115, 116, 117, 118, 119, 120, 121, 122, 123, 124, 125, 126, 127, 128, 129, 130] (by decide +kernel) (by decide +kernel)
set_option maxRecDepth 20000 in
theorem gX5_count_X5_findTaken : GoodIn wsX5_count (wsV RX5 250 RX5 yX5_findTaken wsX5_findTaken) := goodIn_app (goodIn_of _ (by decide +kernel)) ggX5_count_X5_findTaken
set_option maxRecDepth 20000 in
theorem ggX5_count_X5_goesOver : GoodIn wsX5_count wsX5_goesOver := goodIn_r _ [75, 1, 9, 8, 2, 76, 77, 6, 78, 79, 80, 81, 82, 83, 84, 85, 86, 16, 26, 27, 28, 87, 88, 89, 90, 91, 92, 93, 94, 95, 96, 97, 98, 99, 100, 101, 102, 103, 104, 105, 106, 107, 108, 109, 110, 111, 112, 113, 114, 115, 116, 117, 118, 119, 120, 121, 122, 123, 124, 125, 126, 127, 128, 129, 130] (by decide +kernel) (by decide +kernel)
set_option maxRecDepth 20000 in
theorem gX5_count_X5_goesOver : GoodIn wsX5_count (wsV RX5 263 RX5 yX5_goesOver wsX5_goesOver) := goodIn_app (goodIn_of _ (by decide +kernel)) ggX5_count_X5_goesOver
theorem dX5_count_0 : decode cX5_count 0 = .ok (.iconst 0, 1) := by decide +kernel
theorem dX5_count_1 : decode cX5_count 1 = .ok (.istore_n 3, 1) := by decide +kernel
theorem dX5_count_2 : decode cX5_count 2 = .ok (.iconst 0, 1) := by decide +kernel
theorem dX5_count_3 : decode cX5_count 3 = .ok (.istore 4, 2) := by decide +kernel
theorem dX5_count_5 : decode cX5_count 5 = .ok (.iload 4, 2) := by decide +kernel
theorem dX5_count_7 : decode cX5_count 7 = .ok (.aload_n 0, 1) := by decide +kernel
theorem dX5_count_8 : decode cX5_count 8 = .ok (.invokevirtual 70, 3) := by decide +kernel
theorem dX5_count_11 : decode cX5_count 11 = .ok (.if_icmp .ge 18, 3) := by decide +kernel
theorem dX5_count_14 : decode cX5_count 14 = .ok (.iload_n 3, 1) := by decide +kernel
theorem dX5_count_15 : decode cX5_count 15 = .ok (.iload_n 2, 1) := by decide +kernel
theorem dX5_count_16 : decode cX5_count 16 = .ok (.iload 4, 2) := by decide +kernel
theorem dX5_count_18 : decode cX5_count 18 = .ok (.ishr, 1) := by decide +kernel
theorem dX5_count_19 : decode cX5_count 19 = .ok (.iconst 1, 1) := by decide +kernel
theorem dX5_count_20 : decode cX5_count 20 = .ok (.iand, 1) := by decide +kernel
theorem dX5_count_21 : decode cX5_count 21 = .ok (.iadd, 1) := by decide +kernel
theorem dX5_count_22 : decode cX5_count 22 = .ok (.istore_n 3, 1) := by decide +kernel
theorem dX5_count_23 : decode cX5_count 23 = .ok (.iinc 4 1, 3) := by decide +kernel
theorem dX5_count_26 : decode cX5_count 26 = .ok (.goto (-21), 3) := by decide +kernel
theorem dX5_count_29 : decode cX5_count 29 = .ok (.aload_n 0, 1) := by decide +kernel
theorem dX5_count_30 : decode cX5_count 30 = .ok (.iconst 0, 1) := by decide +kernel
theorem dX5_count_31 : decode cX5_count 31 = .ok (.iconst 0, 1) := by decide +kernel
theorem dX5_count_32 : decode cX5_count 32 = .ok (.invokevirtual 250, 3) := by decide +kernel
theorem dX5_count_35 : decode cX5_count 35 = .ok (.iconst 0, 1) := by decide +kernel
theorem dX5_count_36 : decode cX5_count 36 = .ok (.istore 4, 2) := by decide +kernel
theorem dX5_count_38 : decode cX5_count 38 = .ok (.iload 4, 2) := by decide +kernel
theorem dX5_count_40 : decode cX5_count 40 = .ok (.sipush 400, 3) := by decide +kernel
theorem dX5_count_43 : decode cX5_count 43 = .ok (.if_icmp .ge 29, 3) := by decide +kernel
theorem dX5_count_46 : decode cX5_count 46 = .ok (.aload_n 0, 1) := by decide +kernel
theorem dX5_count_47 : decode cX5_count 47 = .ok (.getfield 63, 3) := by decide +kernel
theorem dX5_count_50 : decode cX5_count 50 = .ok (.iload 4, 2) := by decide +kernel
theorem dX5_count_52 : decode cX5_count 52 = .ok (.iload 4, 2) := by decide +kernel
theorem dX5_count_54 : decode cX5_count 54 = .ok (.sipush 384, 3) := by decide +kernel
theorem dX5_count_57 : decode cX5_count 57 = .ok (.if_icmp .ne 7, 3) := by decide +kernel
theorem dX5_count_60 : decode cX5_count 60 = .ok (.lconst 1, 1) := by decide +kernel
theorem dX5_count_61 : decode cX5_count 61 = .ok (.goto 4, 3) := by decide +kernel
theorem dX5_count_64 : decode cX5_count 64 = .ok (.lconst 0, 1) := by decide +kernel
theorem dX5_count_65 : decode cX5_count 65 = .ok (.lastore, 1) := by decide +kernel
theorem dX5_count_66 : decode cX5_count 66 = .ok (.iinc 4 1, 3) := by decide +kernel
theorem dX5_count_69 : decode cX5_count 69 = .ok (.goto (-31), 3) := by decide +kernel
theorem dX5_count_72 : decode cX5_count 72 = .ok (.lconst 0, 1) := by decide +kernel
theorem dX5_count_73 : decode cX5_count 73 = .ok (.lstore 4, 2) := by decide +kernel
theorem dX5_count_75 : decode cX5_count 75 = .ok (.iconst 1, 1) := by decide +kernel
theorem dX5_count_76 : decode cX5_count 76 = .ok (.iload_n 3, 1) := by decide +kernel
theorem dX5_count_77 : decode cX5_count 77 = .ok (.ishl, 1) := by decide +kernel
theorem dX5_count_78 : decode cX5_count 78 = .ok (.iconst 1, 1) := by decide +kernel
theorem dX5_count_79 : decode cX5_count 79 = .ok (.isub, 1) := by decide +kernel
theorem dX5_count_80 : decode cX5_count 80 = .ok (.istore 6, 2) := by decide +kernel
theorem dX5_count_82 : decode cX5_count 82 = .ok (.iconst 0, 1) := by decide +kernel
theorem dX5_count_83 : decode cX5_count 83 = .ok (.istore 7, 2) := by decide +kernel
theorem dX5_count_85 : decode cX5_count 85 = .ok (.iload 7, 2) := by decide +kernel
theorem dX5_count_87 : decode cX5_count 87 = .ok (.iload_n 1, 1) := by decide +kernel
theorem dX5_count_88 : decode cX5_count 88 = .ok (.if_icmp .ge 135, 3) := by decide +kernel
theorem dX5_count_91 : decode cX5_count 91 = .ok (.iconst 0, 1) := by decide +kernel
theorem dX5_count_92 : decode cX5_count 92 = .ok (.istore 8, 2) := by decide +kernel
theorem dX5_count_94 : decode cX5_count 94 = .ok (.iload 8, 2) := by decide +kernel
theorem dX5_count_96 : decode cX5_count 96 = .ok (.sipush 400, 3) := by decide +kernel
theorem dX5_count_99 : decode cX5_count 99 = .ok (.if_icmp .ge 17, 3) := by decide +kernel
theorem dX5_count_102 : decode cX5_count 102 = .ok (.aload_n 0, 1) := by decide +kernel
theorem dX5_count_103 : decode cX5_count 103 = .ok (.getfield 67, 3) := by decide +kernel
theorem dX5_count_106 : decode cX5_count 106 = .ok (.iload 8, 2) := by decide +kernel
theorem dX5_count_108 : decode cX5_count 108 = .ok (.lconst 0, 1) := by decide +kernel
theorem dX5_count_109 : decode cX5_count 109 = .ok (.lastore, 1) := by decide +kernel
theorem dX5_count_110 : decode cX5_count 110 = .ok (.iinc 8 1, 3) := by decide +kernel
theorem dX5_count_113 : decode cX5_count 113 = .ok (.goto (-19), 3) := by decide +kernel
theorem dX5_count_116 : decode cX5_count 116 = .ok (.lconst 0, 1) := by decide +kernel
theorem dX5_count_117 : decode cX5_count 117 = .ok (.lstore 4, 2) := by decide +kernel
theorem dX5_count_119 : decode cX5_count 119 = .ok (.iconst 0, 1) := by decide +kernel
theorem dX5_count_120 : decode cX5_count 120 = .ok (.istore 8, 2) := by decide +kernel
theorem dX5_count_122 : decode cX5_count 122 = .ok (.iload 8, 2) := by decide +kernel
theorem dX5_count_124 : decode cX5_count 124 = .ok (.sipush 400, 3) := by decide +kernel
theorem dX5_count_127 : decode cX5_count 127 = .ok (.if_icmp .ge 59, 3) := by decide +kernel
theorem dX5_count_130 : decode cX5_count 130 = .ok (.aload_n 0, 1) := by decide +kernel
theorem dX5_count_131 : decode cX5_count 131 = .ok (.getfield 63, 3) := by decide +kernel
theorem dX5_count_134 : decode cX5_count 134 = .ok (.iload 8, 2) := by decide +kernel
theorem dX5_count_136 : decode cX5_count 136 = .ok (.laload, 1) := by decide +kernel
theorem dX5_count_137 : decode cX5_count 137 = .ok (.lconst 0, 1) := by decide +kernel
theorem dX5_count_138 : decode cX5_count 138 = .ok (.lcmp, 1) := by decide +kernel
theorem dX5_count_139 : decode cX5_count 139 = .ok (.ifCond .le 41, 3) := by decide +kernel
theorem dX5_count_142 : decode cX5_count 142 = .ok (.lload 4, 2) := by decide +kernel
theorem dX5_count_144 : decode cX5_count 144 = .ok (.aload_n 0, 1) := by decide +kernel
theorem dX5_count_145 : decode cX5_count 145 = .ok (.iload 7, 2) := by decide +kernel
theorem dX5_count_147 : decode cX5_count 147 = .ok (.iload 8, 2) := by decide +kernel
theorem dX5_count_149 : decode cX5_count 149 = .ok (.bipush 16, 2) := by decide +kernel
theorem dX5_count_151 : decode cX5_count 151 = .ok (.idiv, 1) := by decide +kernel
theorem dX5_count_152 : decode cX5_count 152 = .ok (.iload 8, 2) := by decide +kernel
theorem dX5_count_154 : decode cX5_count 154 = .ok (.bipush 16, 2) := by decide +kernel
theorem dX5_count_156 : decode cX5_count 156 = .ok (.irem, 1) := by decide +kernel
theorem dX5_count_157 : decode cX5_count 157 = .ok (.iload_n 2, 1) := by decide +kernel
theorem dX5_count_158 : decode cX5_count 158 = .ok (.invokevirtual 263, 3) := by decide +kernel
theorem dX5_count_161 : decode cX5_count 161 = .ok (.iload 6, 2) := by decide +kernel
theorem dX5_count_163 : decode cX5_count 163 = .ok (.if_icmp .ne 13, 3) := by decide +kernel
theorem dX5_count_166 : decode cX5_count 166 = .ok (.aload_n 0, 1) := by decide +kernel
theorem dX5_count_167 : decode cX5_count 167 = .ok (.getfield 63, 3) := by decide +kernel
theorem dX5_count_170 : decode cX5_count 170 = .ok (.iload 8, 2) := by decide +kernel
theorem dX5_count_172 : decode cX5_count 172 = .ok (.laload, 1) := by decide +kernel
theorem dX5_count_173 : decode cX5_count 173 = .ok (.goto 4, 3) := by decide +kernel
theorem dX5_count_176 : decode cX5_count 176 = .ok (.lconst 0, 1) := by decide +kernel
theorem dX5_count_177 : decode cX5_count 177 = .ok (.ladd, 1) := by decide +kernel
theorem dX5_count_178 : decode cX5_count 178 = .ok (.lstore 4, 2) := by decide +kernel
theorem dX5_count_180 : decode cX5_count 180 = .ok (.iinc 8 1, 3) := by decide +kernel
theorem dX5_count_183 : decode cX5_count 183 = .ok (.goto (-61), 3) := by decide +kernel
theorem dX5_count_186 : decode cX5_count 186 = .ok (.iconst 0, 1) := by decide +kernel
theorem dX5_count_187 : decode cX5_count 187 = .ok (.istore 8, 2) := by decide +kernel
theorem dX5_count_189 : decode cX5_count 189 = .ok (.iload 8, 2) := by decide +kernel
theorem dX5_count_191 : decode cX5_count 191 = .ok (.sipush 400, 3) := by decide +kernel
theorem dX5_count_194 : decode cX5_count 194 = .ok (.if_icmp .ge 23, 3) := by decide +kernel
theorem dX5_count_197 : decode cX5_count 197 = .ok (.aload_n 0, 1) := by decide +kernel
theorem dX5_count_198 : decode cX5_count 198 = .ok (.getfield 63, 3) := by decide +kernel
theorem dX5_count_201 : decode cX5_count 201 = .ok (.iload 8, 2) := by decide +kernel
theorem dX5_count_203 : decode cX5_count 203 = .ok (.aload_n 0, 1) := by decide +kernel
theorem dX5_count_204 : decode cX5_count 204 = .ok (.getfield 67, 3) := by decide +kernel
theorem dX5_count_207 : decode cX5_count 207 = .ok (.iload 8, 2) := by decide +kernel
theorem dX5_count_209 : decode cX5_count 209 = .ok (.laload, 1) := by decide +kernel
theorem dX5_count_210 : decode cX5_count 210 = .ok (.lastore, 1) := by decide +kernel
theorem dX5_count_211 : decode cX5_count 211 = .ok (.iinc 8 1, 3) := by decide +kernel
theorem dX5_count_214 : decode cX5_count 214 = .ok (.goto (-25), 3) := by decide +kernel
theorem dX5_count_217 : decode cX5_count 217 = .ok (.iinc 7 1, 3) := by decide +kernel
theorem dX5_count_220 : decode cX5_count 220 = .ok (.goto (-135), 3) := by decide +kernel
theorem dX5_count_223 : decode cX5_count 223 = .ok (.lload 4, 2) := by decide +kernel
theorem dX5_count_225 : decode cX5_count 225 = .ok (.lreturn, 1) := by decide +kernel
set_option maxRecDepth 20000 in
theorem ggX5_goesOver_X5_in : GoodIn wsX5_goesOver wsX5_in := goodIn_r _ [8] (by decide +kernel) (by decide +kernel)
set_option maxRecDepth 20000 in
theorem gX5_goesOver_X5_in : GoodIn wsX5_goesOver (va_wsS RX5 74 yX5_in wsX5_in) := goodIn_app (goodIn_of _ (by decide +kernel)) ggX5_goesOver_X5_in
set_option maxRecDepth 20000 in
theorem ggX5_goesOver_X5_comesTo : GoodIn wsX5_goesOver wsX5_comesTo := goodIn_r _ [12, 3, 2, 24, 25, 26, 27, 28, 29, 30, 31, 32, 33, 34, 35, 36, 37, 38, 39, 40, 41, 42, 43, 44, 45, 46, 47, 48, 49, 50, 51, 52, 53, 54, 55, 56, 57, 58, 59, 60, 61, 62, 63, 64] (by decide +kernel) (by decide +kernel)
set_option maxRecDepth 20000 in
theorem gX5_goesOver_X5_comesTo : GoodIn wsX5_goesOver (wsV RX5 244 RX5 yX5_comesTo wsX5_comesTo) := goodIn_app (goodIn_of _ (by decide +kernel)) ggX5_goesOver_X5_comesTo
set_option maxRecDepth 20000 in
theorem ggX5_goesOver_X5_mayCome : GoodIn wsX5_goesOver wsX5_mayCome := goodIn_r _ [16, 17, 18, 19, 7, 20, 24, 25, 26, 27, 28, 29, 30, 31, 32, 33, 34, 35, 36, 37, 38, 39, 40, 41, 42, 43, 44, 45, 46, 47, 48, 49, 50, 51, 52, 53, 54, 55, 56, 57, 58, 59, 60, 61, 62, 63, 64] (by decide +kernel) (by decide +kernel)
set_option maxRecDepth 20000 in
theorem gX5_goesOver_X5_mayCome : GoodIn wsX5_goesOver (wsV RX5 247 RX5 yX5_mayCome wsX5_mayCome) := goodIn_app (goodIn_of _ (by decide +kernel)) ggX5_goesOver_X5_mayCome
set_option maxRecDepth 20000 in
theorem ggX5_goesOver_X5_markOf : GoodIn wsX5_goesOver wsX5_markOf := goodIn_r _ [23, 18, 19, 7, 20] (by decide +kernel) (by decide +kernel)
set_option maxRecDepth 20000 in
theorem gX5_goesOver_X5_markOf : GoodIn wsX5_goesOver (va_wsS RX5 267 yX5_markOf wsX5_markOf) := goodIn_app (goodIn_of _ (by decide +kernel)) ggX5_goesOver_X5_markOf
theorem dX5_goesOver_0 : decode cX5_goesOver 0 = .ok (.aload_n 0, 1) := by decide +kernel
theorem dX5_goesOver_1 : decode cX5_goesOver 1 = .ok (.getfield 63, 3) := by decide +kernel
theorem dX5_goesOver_4 : decode cX5_goesOver 4 = .ok (.bipush 16, 2) := by decide +kernel
theorem dX5_goesOver_6 : decode cX5_goesOver 6 = .ok (.iload_n 2, 1) := by decide +kernel
theorem dX5_goesOver_7 : decode cX5_goesOver 7 = .ok (.imul, 1) := by decide +kernel
theorem dX5_goesOver_8 : decode cX5_goesOver 8 = .ok (.iload_n 3, 1) := by decide +kernel
theorem dX5_goesOver_9 : decode cX5_goesOver 9 = .ok (.iadd, 1) := by decide +kernel
theorem dX5_goesOver_10 : decode cX5_goesOver 10 = .ok (.laload, 1) := by decide +kernel
theorem dX5_goesOver_11 : decode cX5_goesOver 11 = .ok (.lstore 5, 2) := by decide +kernel
theorem dX5_goesOver_13 : decode cX5_goesOver 13 = .ok (.bipush (-9), 2) := by decide +kernel
theorem dX5_goesOver_15 : decode cX5_goesOver 15 = .ok (.istore 7, 2) := by decide +kernel
theorem dX5_goesOver_17 : decode cX5_goesOver 17 = .ok (.iconst 0, 1) := by decide +kernel
theorem dX5_goesOver_18 : decode cX5_goesOver 18 = .ok (.istore 8, 2) := by decide +kernel
theorem dX5_goesOver_20 : decode cX5_goesOver 20 = .ok (.iload 8, 2) := by decide +kernel
theorem dX5_goesOver_22 : decode cX5_goesOver 22 = .ok (.bipush 9, 2) := by decide +kernel
theorem dX5_goesOver_24 : decode cX5_goesOver 24 = .ok (.if_icmp .ge 179, 3) := by decide +kernel
theorem dX5_goesOver_27 : decode cX5_goesOver 27 = .ok (.iload_n 2, 1) := by decide +kernel
theorem dX5_goesOver_28 : decode cX5_goesOver 28 = .ok (.bipush 24, 2) := by decide +kernel
theorem dX5_goesOver_30 : decode cX5_goesOver 30 = .ok (.if_icmp .ne 47, 3) := by decide +kernel
theorem dX5_goesOver_33 : decode cX5_goesOver 33 = .ok (.iload 8, 2) := by decide +kernel
theorem dX5_goesOver_35 : decode cX5_goesOver 35 = .ok (.bipush 8, 2) := by decide +kernel
theorem dX5_goesOver_37 : decode cX5_goesOver 37 = .ok (.if_icmp .ne 8, 3) := by decide +kernel
theorem dX5_goesOver_40 : decode cX5_goesOver 40 = .ok (.bipush 24, 2) := by decide +kernel
theorem dX5_goesOver_42 : decode cX5_goesOver 42 = .ok (.goto 57, 3) := by decide +kernel
theorem dX5_goesOver_45 : decode cX5_goesOver 45 = .ok (.iload 8, 2) := by decide +kernel
theorem dX5_goesOver_47 : decode cX5_goesOver 47 = .ok (.iconst 5, 1) := by decide +kernel
theorem dX5_goesOver_48 : decode cX5_goesOver 48 = .ok (.iconst 4, 1) := by decide +kernel
theorem dX5_goesOver_49 : decode cX5_goesOver 49 = .ok (.aload_n 0, 1) := by decide +kernel
theorem dX5_goesOver_50 : decode cX5_goesOver 50 = .ok (.getfield 7, 3) := by decide +kernel
theorem dX5_goesOver_53 : decode cX5_goesOver 53 = .ok (.iadd, 1) := by decide +kernel
theorem dX5_goesOver_54 : decode cX5_goesOver 54 = .ok (.invokestatic 74, 3) := by decide +kernel
theorem dX5_goesOver_57 : decode cX5_goesOver 57 = .ok (.ifCond .eq 15, 3) := by decide +kernel
theorem dX5_goesOver_60 : decode cX5_goesOver 60 = .ok (.aload_n 0, 1) := by decide +kernel
theorem dX5_goesOver_61 : decode cX5_goesOver 61 = .ok (.getfield 13, 3) := by decide +kernel
theorem dX5_goesOver_64 : decode cX5_goesOver 64 = .ok (.iload 8, 2) := by decide +kernel
theorem dX5_goesOver_66 : decode cX5_goesOver 66 = .ok (.iconst 5, 1) := by decide +kernel
theorem dX5_goesOver_67 : decode cX5_goesOver 67 = .ok (.isub, 1) := by decide +kernel
theorem dX5_goesOver_68 : decode cX5_goesOver 68 = .ok (.imul, 1) := by decide +kernel
theorem dX5_goesOver_69 : decode cX5_goesOver 69 = .ok (.goto 30, 3) := by decide +kernel
theorem dX5_goesOver_72 : decode cX5_goesOver 72 = .ok (.bipush (-9), 2) := by decide +kernel
theorem dX5_goesOver_74 : decode cX5_goesOver 74 = .ok (.goto 25, 3) := by decide +kernel
theorem dX5_goesOver_77 : decode cX5_goesOver 77 = .ok (.iload 8, 2) := by decide +kernel
theorem dX5_goesOver_79 : decode cX5_goesOver 79 = .ok (.iconst 0, 1) := by decide +kernel
theorem dX5_goesOver_80 : decode cX5_goesOver 80 = .ok (.iconst 4, 1) := by decide +kernel
theorem dX5_goesOver_81 : decode cX5_goesOver 81 = .ok (.invokestatic 74, 3) := by decide +kernel
theorem dX5_goesOver_84 : decode cX5_goesOver 84 = .ok (.ifCond .eq 13, 3) := by decide +kernel
theorem dX5_goesOver_87 : decode cX5_goesOver 87 = .ok (.aload_n 0, 1) := by decide +kernel
theorem dX5_goesOver_88 : decode cX5_goesOver 88 = .ok (.iload_n 2, 1) := by decide +kernel
theorem dX5_goesOver_89 : decode cX5_goesOver 89 = .ok (.iload 8, 2) := by decide +kernel
theorem dX5_goesOver_91 : decode cX5_goesOver 91 = .ok (.invokevirtual 244, 3) := by decide +kernel
theorem dX5_goesOver_94 : decode cX5_goesOver 94 = .ok (.goto 5, 3) := by decide +kernel
theorem dX5_goesOver_97 : decode cX5_goesOver 97 = .ok (.bipush (-9), 2) := by decide +kernel
theorem dX5_goesOver_99 : decode cX5_goesOver 99 = .ok (.istore 9, 2) := by decide +kernel
theorem dX5_goesOver_101 : decode cX5_goesOver 101 = .ok (.iload_n 2, 1) := by decide +kernel
theorem dX5_goesOver_102 : decode cX5_goesOver 102 = .ok (.bipush 24, 2) := by decide +kernel
theorem dX5_goesOver_104 : decode cX5_goesOver 104 = .ok (.if_icmp .eq 26, 3) := by decide +kernel
theorem dX5_goesOver_107 : decode cX5_goesOver 107 = .ok (.iload 9, 2) := by decide +kernel
theorem dX5_goesOver_109 : decode cX5_goesOver 109 = .ok (.bipush 24, 2) := by decide +kernel
theorem dX5_goesOver_111 : decode cX5_goesOver 111 = .ok (.if_icmp .ne 19, 3) := by decide +kernel
theorem dX5_goesOver_114 : decode cX5_goesOver 114 = .ok (.iload 8, 2) := by decide +kernel
theorem dX5_goesOver_116 : decode cX5_goesOver 116 = .ok (.ifCond .ne 7, 3) := by decide +kernel
theorem dX5_goesOver_119 : decode cX5_goesOver 119 = .ok (.iload_n 3, 1) := by decide +kernel
theorem dX5_goesOver_120 : decode cX5_goesOver 120 = .ok (.goto 5, 3) := by decide +kernel
theorem dX5_goesOver_123 : decode cX5_goesOver 123 = .ok (.iload 7, 2) := by decide +kernel
theorem dX5_goesOver_125 : decode cX5_goesOver 125 = .ok (.istore 7, 2) := by decide +kernel
theorem dX5_goesOver_127 : decode cX5_goesOver 127 = .ok (.goto 70, 3) := by decide +kernel
theorem dX5_goesOver_130 : decode cX5_goesOver 130 = .ok (.iload 9, 2) := by decide +kernel
theorem dX5_goesOver_132 : decode cX5_goesOver 132 = .ok (.bipush 24, 2) := by decide +kernel
theorem dX5_goesOver_134 : decode cX5_goesOver 134 = .ok (.if_icmp .ne 21, 3) := by decide +kernel
theorem dX5_goesOver_137 : decode cX5_goesOver 137 = .ok (.aload_n 0, 1) := by decide +kernel
theorem dX5_goesOver_138 : decode cX5_goesOver 138 = .ok (.getfield 67, 3) := by decide +kernel
theorem dX5_goesOver_141 : decode cX5_goesOver 141 = .ok (.sipush 384, 3) := by decide +kernel
theorem dX5_goesOver_144 : decode cX5_goesOver 144 = .ok (.iload_n 3, 1) := by decide +kernel
theorem dX5_goesOver_145 : decode cX5_goesOver 145 = .ok (.iadd, 1) := by decide +kernel
theorem dX5_goesOver_146 : decode cX5_goesOver 146 = .ok (.dup2, 1) := by decide +kernel
theorem dX5_goesOver_147 : decode cX5_goesOver 147 = .ok (.laload, 1) := by decide +kernel
theorem dX5_goesOver_148 : decode cX5_goesOver 148 = .ok (.lload 5, 2) := by decide +kernel
theorem dX5_goesOver_150 : decode cX5_goesOver 150 = .ok (.ladd, 1) := by decide +kernel
theorem dX5_goesOver_151 : decode cX5_goesOver 151 = .ok (.lastore, 1) := by decide +kernel
theorem dX5_goesOver_152 : decode cX5_goesOver 152 = .ok (.goto 45, 3) := by decide +kernel
theorem dX5_goesOver_155 : decode cX5_goesOver 155 = .ok (.iload 9, 2) := by decide +kernel
theorem dX5_goesOver_157 : decode cX5_goesOver 157 = .ok (.bipush (-9), 2) := by decide +kernel
theorem dX5_goesOver_159 : decode cX5_goesOver 159 = .ok (.if_icmp .eq 38, 3) := by decide +kernel
theorem dX5_goesOver_162 : decode cX5_goesOver 162 = .ok (.aload_n 0, 1) := by decide +kernel
theorem dX5_goesOver_163 : decode cX5_goesOver 163 = .ok (.iload_n 1, 1) := by decide +kernel
theorem dX5_goesOver_164 : decode cX5_goesOver 164 = .ok (.iload 9, 2) := by decide +kernel
theorem dX5_goesOver_166 : decode cX5_goesOver 166 = .ok (.invokevirtual 247, 3) := by decide +kernel
theorem dX5_goesOver_169 : decode cX5_goesOver 169 = .ok (.ifCond .eq 28, 3) := by decide +kernel
theorem dX5_goesOver_172 : decode cX5_goesOver 172 = .ok (.aload_n 0, 1) := by decide +kernel
theorem dX5_goesOver_173 : decode cX5_goesOver 173 = .ok (.getfield 67, 3) := by decide +kernel
theorem dX5_goesOver_176 : decode cX5_goesOver 176 = .ok (.bipush 16, 2) := by decide +kernel
theorem dX5_goesOver_178 : decode cX5_goesOver 178 = .ok (.iload 9, 2) := by decide +kernel
theorem dX5_goesOver_180 : decode cX5_goesOver 180 = .ok (.imul, 1) := by decide +kernel
theorem dX5_goesOver_181 : decode cX5_goesOver 181 = .ok (.iload_n 3, 1) := by decide +kernel
theorem dX5_goesOver_182 : decode cX5_goesOver 182 = .ok (.iload 9, 2) := by decide +kernel
theorem dX5_goesOver_184 : decode cX5_goesOver 184 = .ok (.iload 4, 2) := by decide +kernel
theorem dX5_goesOver_186 : decode cX5_goesOver 186 = .ok (.invokestatic 267, 3) := by decide +kernel
theorem dX5_goesOver_189 : decode cX5_goesOver 189 = .ok (.ior, 1) := by decide +kernel
theorem dX5_goesOver_190 : decode cX5_goesOver 190 = .ok (.iadd, 1) := by decide +kernel
theorem dX5_goesOver_191 : decode cX5_goesOver 191 = .ok (.dup2, 1) := by decide +kernel
theorem dX5_goesOver_192 : decode cX5_goesOver 192 = .ok (.laload, 1) := by decide +kernel
theorem dX5_goesOver_193 : decode cX5_goesOver 193 = .ok (.lload 5, 2) := by decide +kernel
theorem dX5_goesOver_195 : decode cX5_goesOver 195 = .ok (.ladd, 1) := by decide +kernel
theorem dX5_goesOver_196 : decode cX5_goesOver 196 = .ok (.lastore, 1) := by decide +kernel
theorem dX5_goesOver_197 : decode cX5_goesOver 197 = .ok (.iinc 8 1, 3) := by decide +kernel
theorem dX5_goesOver_200 : decode cX5_goesOver 200 = .ok (.goto (-180), 3) := by decide +kernel
theorem dX5_goesOver_203 : decode cX5_goesOver 203 = .ok (.iload 7, 2) := by decide +kernel
theorem dX5_goesOver_205 : decode cX5_goesOver 205 = .ok (.ireturn, 1) := by decide +kernel
set_option maxRecDepth 20000 in
theorem ggX5_markOf_X5_has : GoodIn wsX5_markOf wsX5_has := goodIn_r _ [4] (by decide +kernel) (by decide +kernel)
set_option maxRecDepth 20000 in
theorem gX5_markOf_X5_has : GoodIn wsX5_markOf (va_wsS RX5 197 yX5_has wsX5_has) := goodIn_app (goodIn_of _ (by decide +kernel)) ggX5_markOf_X5_has
theorem dX5_markOf_0 : decode cX5_markOf 0 = .ok (.iconst 0, 1) := by decide +kernel
theorem dX5_markOf_1 : decode cX5_markOf 1 = .ok (.istore_n 2, 1) := by decide +kernel
theorem dX5_markOf_2 : decode cX5_markOf 2 = .ok (.iconst 0, 1) := by decide +kernel
theorem dX5_markOf_3 : decode cX5_markOf 3 = .ok (.istore_n 3, 1) := by decide +kernel
theorem dX5_markOf_4 : decode cX5_markOf 4 = .ok (.iload_n 3, 1) := by decide +kernel
theorem dX5_markOf_5 : decode cX5_markOf 5 = .ok (.iload_n 0, 1) := by decide +kernel
theorem dX5_markOf_6 : decode cX5_markOf 6 = .ok (.if_icmp .ge 17, 3) := by decide +kernel
theorem dX5_markOf_9 : decode cX5_markOf 9 = .ok (.iload_n 2, 1) := by decide +kernel
theorem dX5_markOf_10 : decode cX5_markOf 10 = .ok (.iload_n 1, 1) := by decide +kernel
theorem dX5_markOf_11 : decode cX5_markOf 11 = .ok (.iload_n 3, 1) := by decide +kernel
theorem dX5_markOf_12 : decode cX5_markOf 12 = .ok (.ishr, 1) := by decide +kernel
theorem dX5_markOf_13 : decode cX5_markOf 13 = .ok (.iconst 1, 1) := by decide +kernel
theorem dX5_markOf_14 : decode cX5_markOf 14 = .ok (.iand, 1) := by decide +kernel
theorem dX5_markOf_15 : decode cX5_markOf 15 = .ok (.iadd, 1) := by decide +kernel
theorem dX5_markOf_16 : decode cX5_markOf 16 = .ok (.istore_n 2, 1) := by decide +kernel
theorem dX5_markOf_17 : decode cX5_markOf 17 = .ok (.iinc 3 1, 3) := by decide +kernel
theorem dX5_markOf_20 : decode cX5_markOf 20 = .ok (.goto (-16), 3) := by decide +kernel
theorem dX5_markOf_23 : decode cX5_markOf 23 = .ok (.iload_n 1, 1) := by decide +kernel
theorem dX5_markOf_24 : decode cX5_markOf 24 = .ok (.iload_n 0, 1) := by decide +kernel
theorem dX5_markOf_25 : decode cX5_markOf 25 = .ok (.invokestatic 197, 3) := by decide +kernel
theorem dX5_markOf_28 : decode cX5_markOf 28 = .ok (.ifCond .eq 9, 3) := by decide +kernel
theorem dX5_markOf_31 : decode cX5_markOf 31 = .ok (.iconst 1, 1) := by decide +kernel
theorem dX5_markOf_32 : decode cX5_markOf 32 = .ok (.iload_n 2, 1) := by decide +kernel
theorem dX5_markOf_33 : decode cX5_markOf 33 = .ok (.ishl, 1) := by decide +kernel
theorem dX5_markOf_34 : decode cX5_markOf 34 = .ok (.goto 4, 3) := by decide +kernel
theorem dX5_markOf_37 : decode cX5_markOf 37 = .ok (.iconst 0, 1) := by decide +kernel
theorem dX5_markOf_38 : decode cX5_markOf 38 = .ok (.ireturn, 1) := by decide +kernel
set_option maxRecDepth 20000 in
theorem ggX5_ways_X5_in : GoodIn wsX5_ways wsX5_in := goodIn_r _ [5] (by decide +kernel) (by decide +kernel)
set_option maxRecDepth 20000 in
theorem gX5_ways_X5_in : GoodIn wsX5_ways (va_wsS RX5 74 yX5_in wsX5_in) := goodIn_app (goodIn_of _ (by decide +kernel)) ggX5_ways_X5_in
set_option maxRecDepth 20000 in
theorem ggX5_ways_X5_count : GoodIn wsX5_ways wsX5_count := goodIn_r _ [9, 10, 11, 12, 13, 14, 4, 15, 16, 17, 18, 19, 20, 21, 22, 23, 24, 25, 26, 27, 28, 29, 30, 31, 32, 33, 34, 35, 36, 37, 38, 39, 40, 41, 42, 43, 44, 45, 46, 47, 48, 49, 50, 51, 52, 53, 54, 55, 56, 57, 58, 59, 60, 61, 62, 63, 64, 65, 66, 67, 68, 69, 70, 71, 72, 73, 74, 75, 76, 77, 78, 79, 80, 81, 82, 83, 2, 3, 5, 84, 85, 86, 87, 88, 89, 90, 91, 92, 93, 94, 95, 96, 97, 98, 99, 100, 101, 102, 103, 104, 105, 106, 107, 108, 109, 110, 111, 112, 113, 114, 115, 116, 117, 118, 119, 120, 121, 122, 123, 124, 125, 126, 127, 128, 129, 130, 131, 132, 133, 134, 135] (by decide +kernel) (by decide +kernel)
set_option maxRecDepth 20000 in
theorem gX5_ways_X5_count : GoodIn wsX5_ways (wsV RX5 270 RX5 yX5_count wsX5_count) := goodIn_app (goodIn_of _ (by decide +kernel)) ggX5_ways_X5_count
theorem dX5_ways_0 : decode cX5_ways 0 = .ok (.iload_n 1, 1) := by decide +kernel
theorem dX5_ways_1 : decode cX5_ways 1 = .ok (.iconst 1, 1) := by decide +kernel
theorem dX5_ways_2 : decode cX5_ways 2 = .ok (.bipush 20, 2) := by decide +kernel
theorem dX5_ways_4 : decode cX5_ways 4 = .ok (.invokestatic 74, 3) := by decide +kernel
theorem dX5_ways_7 : decode cX5_ways 7 = .ok (.ifCond .eq 12, 3) := by decide +kernel
theorem dX5_ways_10 : decode cX5_ways 10 = .ok (.aload_n 0, 1) := by decide +kernel
theorem dX5_ways_11 : decode cX5_ways 11 = .ok (.iload_n 1, 1) := by decide +kernel
theorem dX5_ways_12 : decode cX5_ways 12 = .ok (.iconst 0, 1) := by decide +kernel
theorem dX5_ways_13 : decode cX5_ways 13 = .ok (.invokevirtual 270, 3) := by decide +kernel
theorem dX5_ways_16 : decode cX5_ways 16 = .ok (.goto 6, 3) := by decide +kernel
theorem dX5_ways_19 : decode cX5_ways 19 = .ok (.ldc2_w 274, 3) := by decide +kernel
theorem dX5_ways_22 : decode cX5_ways 22 = .ok (.lreturn, 1) := by decide +kernel
set_option maxRecDepth 20000 in
theorem ggX5_findBait_X5_cells : GoodIn wsX5_findBait wsX5_cells := goodIn_r _ [7, 8, 9, 99, 100, 101, 102, 103, 104, 105, 106, 107, 108, 109, 110, 111, 112, 113, 114, 115, 116, 117, 118, 119, 120, 121, 122, 123, 124, 125, 126, 127, 128, 129, 130, 131, 132, 133, 134, 135, 136, 137, 138, 139] (by decide +kernel) (by decide +kernel)
set_option maxRecDepth 20000 in
theorem gX5_findBait_X5_cells : GoodIn wsX5_findBait (wsV RX5 70 RX5 yX5_cells wsX5_cells) := goodIn_app (goodIn_of _ (by decide +kernel)) ggX5_findBait_X5_cells
set_option maxRecDepth 20000 in
theorem ggX5_findBait_X5_lying : GoodIn wsX5_findBait wsX5_lying := goodIn_r _ [13, 2, 3, 4, 5, 6, 7, 8, 9, 99, 100, 101, 102, 103, 104, 105, 106, 107, 108, 109, 110, 111, 112, 113, 114, 115, 116, 117, 118, 119, 120, 121, 122, 123, 124, 125, 126, 127, 128, 129, 130, 131, 132, 133, 134, 135, 136, 137, 138, 139] (by decide +kernel) (by decide +kernel)
set_option maxRecDepth 20000 in
theorem gX5_findBait_X5_lying : GoodIn wsX5_findBait (wsV RX5 241 RX5 yX5_lying wsX5_lying) := goodIn_app (goodIn_of _ (by decide +kernel)) ggX5_findBait_X5_lying
set_option maxRecDepth 20000 in
theorem ggX5_findBait_X5_has : GoodIn wsX5_findBait wsX5_has := goodIn_r _ [16] (by decide +kernel) (by decide +kernel)
set_option maxRecDepth 20000 in
theorem gX5_findBait_X5_has : GoodIn wsX5_findBait (va_wsS RX5 197 yX5_has wsX5_has) := goodIn_app (goodIn_of _ (by decide +kernel)) ggX5_findBait_X5_has
set_option maxRecDepth 20000 in
theorem ggX5_findBait_X5_catAt : GoodIn wsX5_findBait wsX5_catAt := goodIn_r _ [20, 21, 2, 99, 100, 101, 102, 103, 104, 105, 106, 107, 108, 109, 110, 111, 112, 113, 114, 115, 116, 117, 118, 119, 120, 121, 122, 123, 124, 125, 126, 127, 128, 129, 130, 131, 132, 133, 134, 135, 136, 137, 138, 139] (by decide +kernel) (by decide +kernel)
set_option maxRecDepth 20000 in
theorem gX5_findBait_X5_catAt : GoodIn wsX5_findBait (wsV RX5 188 RX5 yX5_catAt wsX5_catAt) := goodIn_app (goodIn_of _ (by decide +kernel)) ggX5_findBait_X5_catAt
set_option maxRecDepth 20000 in
theorem ggX5_findBait_X5_findWay : GoodIn wsX5_findBait wsX5_findWay := goodIn_r _ [25, 26, 27, 28, 29, 6, 30, 31, 32, 33, 2, 34, 35, 36, 37, 21, 38, 39, 40, 3, 4, 5, 7, 8, 9, 14, 15, 16, 41, 42, 43, 44, 45, 46, 47, 48, 49, 50, 51, 52, 53, 54, 55, 56, 57, 58, 59, 60, 61, 62, 63, 64, 65, 66, 67, 68, 69, 70, 71, 72, 73, 74, 75, 76, 77, 78, 79, 80, 81, 82, 83, 84, 85, 86, 87, 88, 89, 90, 91, 92, 93, 94, 95, 96, 97, 98, 99, 100, 101, 102, 103, 104, 105, 106, 107, 108, 109, 110, 111, 112, 113, 114, 115, 116, 117, 118, 119, 120, 121, 122, 123, 124, 125, 126, 127, 128, 129, 130, 131, 132, 133, 134, 135, 136, 137, 138, 139] (by decide +kernel) (by decide +kernel)
set_option maxRecDepth 20000 in
theorem gX5_findBait_X5_findWay : GoodIn wsX5_findBait (wsV RX5 257 RX5 yX5_findWay wsX5_findWay) := goodIn_app (goodIn_of _ (by decide +kernel)) ggX5_findBait_X5_findWay
theorem dX5_findBait_0 : decode cX5_findBait 0 = .ok (.sipush 1001, 3) := by decide +kernel
theorem dX5_findBait_3 : decode cX5_findBait 3 = .ok (.istore_n 1, 1) := by decide +kernel
theorem dX5_findBait_4 : decode cX5_findBait 4 = .ok (.aload_n 0, 1) := by decide +kernel
theorem dX5_findBait_5 : decode cX5_findBait 5 = .ok (.bipush (-9), 2) := by decide +kernel
theorem dX5_findBait_7 : decode cX5_findBait 7 = .ok (.putfield 276, 3) := by decide +kernel
theorem dX5_findBait_10 : decode cX5_findBait 10 = .ok (.iconst 0, 1) := by decide +kernel
theorem dX5_findBait_11 : decode cX5_findBait 11 = .ok (.istore_n 2, 1) := by decide +kernel
theorem dX5_findBait_12 : decode cX5_findBait 12 = .ok (.iload_n 2, 1) := by decide +kernel
theorem dX5_findBait_13 : decode cX5_findBait 13 = .ok (.aload_n 0, 1) := by decide +kernel
theorem dX5_findBait_14 : decode cX5_findBait 14 = .ok (.invokevirtual 70, 3) := by decide +kernel
theorem dX5_findBait_17 : decode cX5_findBait 17 = .ok (.if_icmp .ge 77, 3) := by decide +kernel
theorem dX5_findBait_20 : decode cX5_findBait 20 = .ok (.aload_n 0, 1) := by decide +kernel
theorem dX5_findBait_21 : decode cX5_findBait 21 = .ok (.invokevirtual 241, 3) := by decide +kernel
theorem dX5_findBait_24 : decode cX5_findBait 24 = .ok (.iconst 4, 1) := by decide +kernel
theorem dX5_findBait_25 : decode cX5_findBait 25 = .ok (.if_icmp .ge 69, 3) := by decide +kernel
theorem dX5_findBait_28 : decode cX5_findBait 28 = .ok (.aload_n 0, 1) := by decide +kernel
theorem dX5_findBait_29 : decode cX5_findBait 29 = .ok (.getfield 29, 3) := by decide +kernel
theorem dX5_findBait_32 : decode cX5_findBait 32 = .ok (.iconst 3, 1) := by decide +kernel
theorem dX5_findBait_33 : decode cX5_findBait 33 = .ok (.iaload, 1) := by decide +kernel
theorem dX5_findBait_34 : decode cX5_findBait 34 = .ok (.iload_n 2, 1) := by decide +kernel
theorem dX5_findBait_35 : decode cX5_findBait 35 = .ok (.invokestatic 197, 3) := by decide +kernel
theorem dX5_findBait_38 : decode cX5_findBait 38 = .ok (.ifCond .ne 50, 3) := by decide +kernel
theorem dX5_findBait_41 : decode cX5_findBait 41 = .ok (.aload_n 0, 1) := by decide +kernel
theorem dX5_findBait_42 : decode cX5_findBait 42 = .ok (.iload_n 2, 1) := by decide +kernel
theorem dX5_findBait_43 : decode cX5_findBait 43 = .ok (.invokevirtual 188, 3) := by decide +kernel
theorem dX5_findBait_46 : decode cX5_findBait 46 = .ok (.bipush (-9), 2) := by decide +kernel
theorem dX5_findBait_48 : decode cX5_findBait 48 = .ok (.if_icmp .ne 40, 3) := by decide +kernel
theorem dX5_findBait_51 : decode cX5_findBait 51 = .ok (.aload_n 0, 1) := by decide +kernel
theorem dX5_findBait_52 : decode cX5_findBait 52 = .ok (.iconst 0, 1) := by decide +kernel
theorem dX5_findBait_53 : decode cX5_findBait 53 = .ok (.iconst 1, 1) := by decide +kernel
theorem dX5_findBait_54 : decode cX5_findBait 54 = .ok (.iload_n 2, 1) := by decide +kernel
theorem dX5_findBait_55 : decode cX5_findBait 55 = .ok (.ishl, 1) := by decide +kernel
theorem dX5_findBait_56 : decode cX5_findBait 56 = .ok (.invokevirtual 257, 3) := by decide +kernel
theorem dX5_findBait_59 : decode cX5_findBait 59 = .ok (.istore_n 3, 1) := by decide +kernel
theorem dX5_findBait_60 : decode cX5_findBait 60 = .ok (.aload_n 0, 1) := by decide +kernel
theorem dX5_findBait_61 : decode cX5_findBait 61 = .ok (.iload_n 3, 1) := by decide +kernel
theorem dX5_findBait_62 : decode cX5_findBait 62 = .ok (.iload_n 1, 1) := by decide +kernel
theorem dX5_findBait_63 : decode cX5_findBait 63 = .ok (.if_icmp .ge 7, 3) := by decide +kernel
theorem dX5_findBait_66 : decode cX5_findBait 66 = .ok (.iload_n 2, 1) := by decide +kernel
theorem dX5_findBait_67 : decode cX5_findBait 67 = .ok (.goto 7, 3) := by decide +kernel
theorem dX5_findBait_70 : decode cX5_findBait 70 = .ok (.aload_n 0, 1) := by decide +kernel
theorem dX5_findBait_71 : decode cX5_findBait 71 = .ok (.getfield 276, 3) := by decide +kernel
theorem dX5_findBait_74 : decode cX5_findBait 74 = .ok (.putfield 276, 3) := by decide +kernel
theorem dX5_findBait_77 : decode cX5_findBait 77 = .ok (.iload_n 3, 1) := by decide +kernel
theorem dX5_findBait_78 : decode cX5_findBait 78 = .ok (.iload_n 1, 1) := by decide +kernel
theorem dX5_findBait_79 : decode cX5_findBait 79 = .ok (.if_icmp .ge 7, 3) := by decide +kernel
theorem dX5_findBait_82 : decode cX5_findBait 82 = .ok (.iload_n 3, 1) := by decide +kernel
theorem dX5_findBait_83 : decode cX5_findBait 83 = .ok (.goto 4, 3) := by decide +kernel
theorem dX5_findBait_86 : decode cX5_findBait 86 = .ok (.iload_n 1, 1) := by decide +kernel
theorem dX5_findBait_87 : decode cX5_findBait 87 = .ok (.istore_n 1, 1) := by decide +kernel
theorem dX5_findBait_88 : decode cX5_findBait 88 = .ok (.iinc 2 1, 3) := by decide +kernel
theorem dX5_findBait_91 : decode cX5_findBait 91 = .ok (.goto (-79), 3) := by decide +kernel
theorem dX5_findBait_94 : decode cX5_findBait 94 = .ok (.iload_n 1, 1) := by decide +kernel
theorem dX5_findBait_95 : decode cX5_findBait 95 = .ok (.ireturn, 1) := by decide +kernel
set_option maxRecDepth 20000 in
theorem ggX5_bait_X5_in : GoodIn wsX5_bait wsX5_in := goodIn_r _ [5] (by decide +kernel) (by decide +kernel)
set_option maxRecDepth 20000 in
theorem gX5_bait_X5_in : GoodIn wsX5_bait (va_wsS RX5 74 yX5_in wsX5_in) := goodIn_app (goodIn_of _ (by decide +kernel)) ggX5_bait_X5_in
set_option maxRecDepth 20000 in
theorem ggX5_bait_X5_findBait : GoodIn wsX5_bait wsX5_findBait := goodIn_r _ [9, 1, 10, 11, 12, 13, 4, 14, 15, 16, 17, 18, 19, 20, 21, 22, 23, 24, 25, 26, 27, 28, 29, 30, 31, 32, 33, 34, 35, 36, 37, 38, 39, 40, 41, 42, 43, 44, 45, 46, 47, 48, 49, 50, 51, 52, 53, 54, 55, 56, 57, 58, 59, 60, 61, 62, 63, 64, 65, 66, 67, 68, 69, 70, 71, 72, 73, 74, 75, 76, 77, 78, 79, 80, 81, 82, 83, 84, 85, 86, 87, 88, 89, 90, 91, 92, 93, 94, 2, 3, 5, 95, 96, 97, 98, 99, 100, 101, 102, 106, 107, 108, 109, 110, 111, 112, 113, 114, 115, 116, 117, 118, 119, 120, 121, 122, 123, 124, 125, 126, 127, 128, 129, 130, 131, 132, 133, 134, 135, 136, 137, 138, 139, 140, 141, 142, 143, 144, 145, 146] (by decide +kernel) (by decide +kernel)
set_option maxRecDepth 20000 in
theorem gX5_bait_X5_findBait : GoodIn wsX5_bait (wsV RX5 279 RX5 yX5_findBait wsX5_findBait) := goodIn_app (goodIn_of _ (by decide +kernel)) ggX5_bait_X5_findBait
set_option maxRecDepth 20000 in
theorem ggX5_bait_X5_told : GoodIn wsX5_bait wsX5_told := goodIn_r _ [105] (by decide +kernel) (by decide +kernel)
set_option maxRecDepth 20000 in
theorem gX5_bait_X5_told : GoodIn wsX5_bait (va_wsS RX5 260 yX5_told wsX5_told) := goodIn_app (goodIn_of _ (by decide +kernel)) ggX5_bait_X5_told
theorem dX5_bait_0 : decode cX5_bait 0 = .ok (.iload_n 1, 1) := by decide +kernel
theorem dX5_bait_1 : decode cX5_bait 1 = .ok (.iconst 0, 1) := by decide +kernel
theorem dX5_bait_2 : decode cX5_bait 2 = .ok (.iconst 1, 1) := by decide +kernel
theorem dX5_bait_3 : decode cX5_bait 3 = .ok (.invokestatic 74, 3) := by decide +kernel
theorem dX5_bait_6 : decode cX5_bait 6 = .ok (.ifCond .ne 5, 3) := by decide +kernel
theorem dX5_bait_9 : decode cX5_bait 9 = .ok (.iconst (-1), 1) := by decide +kernel
theorem dX5_bait_10 : decode cX5_bait 10 = .ok (.ireturn, 1) := by decide +kernel
theorem dX5_bait_11 : decode cX5_bait 11 = .ok (.aload_n 0, 1) := by decide +kernel
theorem dX5_bait_12 : decode cX5_bait 12 = .ok (.invokevirtual 279, 3) := by decide +kernel
theorem dX5_bait_15 : decode cX5_bait 15 = .ok (.istore_n 2, 1) := by decide +kernel
theorem dX5_bait_16 : decode cX5_bait 16 = .ok (.iload_n 1, 1) := by decide +kernel
theorem dX5_bait_17 : decode cX5_bait 17 = .ok (.ifCond .ne 10, 3) := by decide +kernel
theorem dX5_bait_20 : decode cX5_bait 20 = .ok (.aload_n 0, 1) := by decide +kernel
theorem dX5_bait_21 : decode cX5_bait 21 = .ok (.getfield 276, 3) := by decide +kernel
theorem dX5_bait_24 : decode cX5_bait 24 = .ok (.goto 21, 3) := by decide +kernel
theorem dX5_bait_27 : decode cX5_bait 27 = .ok (.aload_n 0, 1) := by decide +kernel
theorem dX5_bait_28 : decode cX5_bait 28 = .ok (.getfield 276, 3) := by decide +kernel
theorem dX5_bait_31 : decode cX5_bait 31 = .ok (.bipush (-9), 2) := by decide +kernel
theorem dX5_bait_33 : decode cX5_bait 33 = .ok (.if_icmp .ne 8, 3) := by decide +kernel
theorem dX5_bait_36 : decode cX5_bait 36 = .ok (.bipush (-9), 2) := by decide +kernel
theorem dX5_bait_38 : decode cX5_bait 38 = .ok (.goto 7, 3) := by decide +kernel
theorem dX5_bait_41 : decode cX5_bait 41 = .ok (.iload_n 2, 1) := by decide +kernel
theorem dX5_bait_42 : decode cX5_bait 42 = .ok (.invokestatic 260, 3) := by decide +kernel
theorem dX5_bait_45 : decode cX5_bait 45 = .ok (.ireturn, 1) := by decide +kernel
set_option maxRecDepth 20000 in
theorem ggX5_tenth_X5_isCell : GoodIn wsX5_tenth wsX5_isCell := goodIn_r _ [5, 6, 7, 8, 4, 9, 10, 11, 12, 13, 14, 101, 102, 103, 104, 105, 106, 107, 108, 109, 110, 111, 112, 113, 114, 115, 116, 117, 118, 119, 120, 121, 122, 123, 124, 125, 126, 127, 128, 129, 130, 131, 132, 133, 134, 135, 136, 137, 138, 139, 140, 141] (by decide +kernel) (by decide +kernel)
set_option maxRecDepth 20000 in
theorem gX5_tenth_X5_isCell : GoodIn wsX5_tenth (wsV RX5 185 RX5 yX5_isCell wsX5_isCell) := goodIn_app (goodIn_of _ (by decide +kernel)) ggX5_tenth_X5_isCell
set_option maxRecDepth 20000 in
theorem ggX5_tenth_X5_catAt : GoodIn wsX5_tenth wsX5_catAt := goodIn_r _ [18, 19, 20, 101, 102, 103, 104, 105, 106, 107, 108, 109, 110, 111, 112, 113, 114, 115, 116, 117, 118, 119, 120, 121, 122, 123, 124, 125, 126, 127, 128, 129, 130, 131, 132, 133, 134, 135, 136, 137, 138, 139, 140, 141] (by decide +kernel) (by decide +kernel)
set_option maxRecDepth 20000 in
theorem gX5_tenth_X5_catAt : GoodIn wsX5_tenth (wsV RX5 188 RX5 yX5_catAt wsX5_catAt) := goodIn_app (goodIn_of _ (by decide +kernel)) ggX5_tenth_X5_catAt
set_option maxRecDepth 20000 in
theorem ggX5_tenth_X5_findWay : GoodIn wsX5_tenth wsX5_findWay := goodIn_r _ [24, 25, 26, 27, 28, 4, 29, 30, 31, 32, 20, 33, 34, 35, 36, 19, 37, 38, 39, 6, 7, 8, 9, 10, 11, 40, 41, 42, 43, 44, 45, 46, 47, 48, 49, 50, 51, 52, 53, 54, 55, 56, 57, 58, 59, 60, 61, 62, 63, 64, 65, 66, 67, 68, 69, 70, 71, 72, 73, 74, 75, 76, 77, 78, 79, 80, 81, 82, 83, 84, 85, 86, 87, 88, 89, 12, 13, 14, 90, 91, 92, 93, 94, 95, 96, 97, 101, 102, 103, 104, 105, 106, 107, 108, 109, 110, 111, 112, 113, 114, 115, 116, 117, 118, 119, 120, 121, 122, 123, 124, 125, 126, 127, 128, 129, 130, 131, 132, 133, 134, 135, 136, 137, 138, 139, 140, 141] (by decide +kernel) (by decide +kernel)
set_option maxRecDepth 20000 in
theorem gX5_tenth_X5_findWay : GoodIn wsX5_tenth (wsV RX5 257 RX5 yX5_findWay wsX5_findWay) := goodIn_app (goodIn_of _ (by decide +kernel)) ggX5_tenth_X5_findWay
set_option maxRecDepth 20000 in
theorem ggX5_tenth_X5_told : GoodIn wsX5_tenth wsX5_told := goodIn_r _ [100] (by decide +kernel) (by decide +kernel)
set_option maxRecDepth 20000 in
theorem gX5_tenth_X5_told : GoodIn wsX5_tenth (va_wsS RX5 260 yX5_told wsX5_told) := goodIn_app (goodIn_of _ (by decide +kernel)) ggX5_tenth_X5_told
set_option maxRecDepth 20000 in
theorem ggX5_tenth_X5_cells : GoodIn wsX5_tenth wsX5_cells := goodIn_r _ [9, 10, 11, 101, 102, 103, 104, 105, 106, 107, 108, 109, 110, 111, 112, 113, 114, 115, 116, 117, 118, 119, 120, 121, 122, 123, 124, 125, 126, 127, 128, 129, 130, 131, 132, 133, 134, 135, 136, 137, 138, 139, 140, 141] (by decide +kernel) (by decide +kernel)
set_option maxRecDepth 20000 in
theorem gX5_tenth_X5_cells : GoodIn wsX5_tenth (wsV RX5 70 RX5 yX5_cells wsX5_cells) := goodIn_app (goodIn_of _ (by decide +kernel)) ggX5_tenth_X5_cells
theorem dX5_tenth_0 : decode cX5_tenth 0 = .ok (.iload_n 1, 1) := by decide +kernel
theorem dX5_tenth_1 : decode cX5_tenth 1 = .ok (.iconst (-1), 1) := by decide +kernel
theorem dX5_tenth_2 : decode cX5_tenth 2 = .ok (.if_icmp .eq 37, 3) := by decide +kernel
theorem dX5_tenth_5 : decode cX5_tenth 5 = .ok (.aload_n 0, 1) := by decide +kernel
theorem dX5_tenth_6 : decode cX5_tenth 6 = .ok (.iload_n 1, 1) := by decide +kernel
theorem dX5_tenth_7 : decode cX5_tenth 7 = .ok (.invokevirtual 185, 3) := by decide +kernel
theorem dX5_tenth_10 : decode cX5_tenth 10 = .ok (.ifCond .eq 27, 3) := by decide +kernel
theorem dX5_tenth_13 : decode cX5_tenth 13 = .ok (.aload_n 0, 1) := by decide +kernel
theorem dX5_tenth_14 : decode cX5_tenth 14 = .ok (.iload_n 1, 1) := by decide +kernel
theorem dX5_tenth_15 : decode cX5_tenth 15 = .ok (.invokevirtual 188, 3) := by decide +kernel
theorem dX5_tenth_18 : decode cX5_tenth 18 = .ok (.bipush (-9), 2) := by decide +kernel
theorem dX5_tenth_20 : decode cX5_tenth 20 = .ok (.if_icmp .ne 17, 3) := by decide +kernel
theorem dX5_tenth_23 : decode cX5_tenth 23 = .ok (.aload_n 0, 1) := by decide +kernel
theorem dX5_tenth_24 : decode cX5_tenth 24 = .ok (.iconst 1, 1) := by decide +kernel
theorem dX5_tenth_25 : decode cX5_tenth 25 = .ok (.iload_n 1, 1) := by decide +kernel
theorem dX5_tenth_26 : decode cX5_tenth 26 = .ok (.ishl, 1) := by decide +kernel
theorem dX5_tenth_27 : decode cX5_tenth 27 = .ok (.iconst 0, 1) := by decide +kernel
theorem dX5_tenth_28 : decode cX5_tenth 28 = .ok (.invokevirtual 257, 3) := by decide +kernel
theorem dX5_tenth_31 : decode cX5_tenth 31 = .ok (.invokestatic 260, 3) := by decide +kernel
theorem dX5_tenth_34 : decode cX5_tenth 34 = .ok (.goto 4, 3) := by decide +kernel
theorem dX5_tenth_37 : decode cX5_tenth 37 = .ok (.iconst (-1), 1) := by decide +kernel
theorem dX5_tenth_38 : decode cX5_tenth 38 = .ok (.ireturn, 1) := by decide +kernel
theorem dX5_tenth_39 : decode cX5_tenth 39 = .ok (.iconst (-1), 1) := by decide +kernel
theorem dX5_tenth_40 : decode cX5_tenth 40 = .ok (.istore_n 2, 1) := by decide +kernel
theorem dX5_tenth_41 : decode cX5_tenth 41 = .ok (.bipush (-9), 2) := by decide +kernel
theorem dX5_tenth_43 : decode cX5_tenth 43 = .ok (.istore_n 3, 1) := by decide +kernel
theorem dX5_tenth_44 : decode cX5_tenth 44 = .ok (.iconst 0, 1) := by decide +kernel
theorem dX5_tenth_45 : decode cX5_tenth 45 = .ok (.istore 4, 2) := by decide +kernel
theorem dX5_tenth_47 : decode cX5_tenth 47 = .ok (.iload 4, 2) := by decide +kernel
theorem dX5_tenth_49 : decode cX5_tenth 49 = .ok (.aload_n 0, 1) := by decide +kernel
theorem dX5_tenth_50 : decode cX5_tenth 50 = .ok (.invokevirtual 70, 3) := by decide +kernel
theorem dX5_tenth_53 : decode cX5_tenth 53 = .ok (.if_icmp .ge 57, 3) := by decide +kernel
theorem dX5_tenth_56 : decode cX5_tenth 56 = .ok (.aload_n 0, 1) := by decide +kernel
theorem dX5_tenth_57 : decode cX5_tenth 57 = .ok (.iload 4, 2) := by decide +kernel
theorem dX5_tenth_59 : decode cX5_tenth 59 = .ok (.invokevirtual 188, 3) := by decide +kernel
theorem dX5_tenth_62 : decode cX5_tenth 62 = .ok (.bipush (-9), 2) := by decide +kernel
theorem dX5_tenth_64 : decode cX5_tenth 64 = .ok (.if_icmp .ne 40, 3) := by decide +kernel
theorem dX5_tenth_67 : decode cX5_tenth 67 = .ok (.aload_n 0, 1) := by decide +kernel
theorem dX5_tenth_68 : decode cX5_tenth 68 = .ok (.iconst 1, 1) := by decide +kernel
theorem dX5_tenth_69 : decode cX5_tenth 69 = .ok (.iload 4, 2) := by decide +kernel
theorem dX5_tenth_71 : decode cX5_tenth 71 = .ok (.ishl, 1) := by decide +kernel
theorem dX5_tenth_72 : decode cX5_tenth 72 = .ok (.iconst 0, 1) := by decide +kernel
theorem dX5_tenth_73 : decode cX5_tenth 73 = .ok (.invokevirtual 257, 3) := by decide +kernel
theorem dX5_tenth_76 : decode cX5_tenth 76 = .ok (.istore 5, 2) := by decide +kernel
theorem dX5_tenth_78 : decode cX5_tenth 78 = .ok (.iload 5, 2) := by decide +kernel
theorem dX5_tenth_80 : decode cX5_tenth 80 = .ok (.iload_n 2, 1) := by decide +kernel
theorem dX5_tenth_81 : decode cX5_tenth 81 = .ok (.if_icmp .le 8, 3) := by decide +kernel
theorem dX5_tenth_84 : decode cX5_tenth 84 = .ok (.iload 4, 2) := by decide +kernel
theorem dX5_tenth_86 : decode cX5_tenth 86 = .ok (.goto 4, 3) := by decide +kernel
theorem dX5_tenth_89 : decode cX5_tenth 89 = .ok (.iload_n 3, 1) := by decide +kernel
theorem dX5_tenth_90 : decode cX5_tenth 90 = .ok (.istore_n 3, 1) := by decide +kernel
theorem dX5_tenth_91 : decode cX5_tenth 91 = .ok (.iload 5, 2) := by decide +kernel
theorem dX5_tenth_93 : decode cX5_tenth 93 = .ok (.iload_n 2, 1) := by decide +kernel
theorem dX5_tenth_94 : decode cX5_tenth 94 = .ok (.if_icmp .le 8, 3) := by decide +kernel
theorem dX5_tenth_97 : decode cX5_tenth 97 = .ok (.iload 5, 2) := by decide +kernel
theorem dX5_tenth_99 : decode cX5_tenth 99 = .ok (.goto 4, 3) := by decide +kernel
theorem dX5_tenth_102 : decode cX5_tenth 102 = .ok (.iload_n 2, 1) := by decide +kernel
theorem dX5_tenth_103 : decode cX5_tenth 103 = .ok (.istore_n 2, 1) := by decide +kernel
theorem dX5_tenth_104 : decode cX5_tenth 104 = .ok (.iinc 4 1, 3) := by decide +kernel
theorem dX5_tenth_107 : decode cX5_tenth 107 = .ok (.goto (-60), 3) := by decide +kernel
theorem dX5_tenth_110 : decode cX5_tenth 110 = .ok (.iload_n 3, 1) := by decide +kernel
theorem dX5_tenth_111 : decode cX5_tenth 111 = .ok (.ireturn, 1) := by decide +kernel
theorem dX5_bits_0 : decode cX5_bits 0 = .ok (.iconst 0, 1) := by decide +kernel
theorem dX5_bits_1 : decode cX5_bits 1 = .ok (.istore_n 1, 1) := by decide +kernel
theorem dX5_bits_2 : decode cX5_bits 2 = .ok (.iload_n 0, 1) := by decide +kernel
theorem dX5_bits_3 : decode cX5_bits 3 = .ok (.istore_n 2, 1) := by decide +kernel
theorem dX5_bits_4 : decode cX5_bits 4 = .ok (.iload_n 2, 1) := by decide +kernel
theorem dX5_bits_5 : decode cX5_bits 5 = .ok (.ifCond .le 15, 3) := by decide +kernel
theorem dX5_bits_8 : decode cX5_bits 8 = .ok (.iinc 1 1, 3) := by decide +kernel
theorem dX5_bits_11 : decode cX5_bits 11 = .ok (.iload_n 2, 1) := by decide +kernel
theorem dX5_bits_12 : decode cX5_bits 12 = .ok (.iload_n 2, 1) := by decide +kernel
theorem dX5_bits_13 : decode cX5_bits 13 = .ok (.iconst 1, 1) := by decide +kernel
theorem dX5_bits_14 : decode cX5_bits 14 = .ok (.isub, 1) := by decide +kernel
theorem dX5_bits_15 : decode cX5_bits 15 = .ok (.iand, 1) := by decide +kernel
theorem dX5_bits_16 : decode cX5_bits 16 = .ok (.istore_n 2, 1) := by decide +kernel
theorem dX5_bits_17 : decode cX5_bits 17 = .ok (.goto (-13), 3) := by decide +kernel
theorem dX5_bits_20 : decode cX5_bits 20 = .ok (.iload_n 1, 1) := by decide +kernel
theorem dX5_bits_21 : decode cX5_bits 21 = .ok (.ireturn, 1) := by decide +kernel
set_option maxRecDepth 20000 in
theorem ggX5_close_X5_cells : GoodIn wsX5_close wsX5_cells := goodIn_r _ [5, 6, 7, 97, 98, 99, 100, 101, 102, 103, 104, 105, 106, 107, 108, 109, 110, 111, 112, 113, 114, 115, 116, 117, 118, 119, 120, 121, 122, 123, 124, 125, 126, 127, 128, 129, 130, 131, 132, 133, 134, 135, 136, 137] (by decide +kernel) (by decide +kernel)
set_option maxRecDepth 20000 in
theorem gX5_close_X5_cells : GoodIn wsX5_close (wsV RX5 70 RX5 yX5_cells wsX5_cells) := goodIn_app (goodIn_of _ (by decide +kernel)) ggX5_close_X5_cells
set_option maxRecDepth 20000 in
theorem ggX5_close_X5_catAt : GoodIn wsX5_close wsX5_catAt := goodIn_r _ [11, 12, 13, 97, 98, 99, 100, 101, 102, 103, 104, 105, 106, 107, 108, 109, 110, 111, 112, 113, 114, 115, 116, 117, 118, 119, 120, 121, 122, 123, 124, 125, 126, 127, 128, 129, 130, 131, 132, 133, 134, 135, 136, 137] (by decide +kernel) (by decide +kernel)
set_option maxRecDepth 20000 in
theorem gX5_close_X5_catAt : GoodIn wsX5_close (wsV RX5 188 RX5 yX5_catAt wsX5_catAt) := goodIn_app (goodIn_of _ (by decide +kernel)) ggX5_close_X5_catAt
set_option maxRecDepth 20000 in
theorem ggX5_close_X5_findWay : GoodIn wsX5_close wsX5_findWay := goodIn_r _ [17, 18, 19, 20, 21, 4, 22, 23, 24, 25, 13, 26, 27, 28, 29, 12, 30, 31, 32, 1, 2, 3, 5, 6, 7, 33, 34, 35, 36, 37, 38, 39, 40, 41, 42, 43, 44, 45, 46, 47, 48, 49, 50, 51, 52, 53, 54, 55, 56, 57, 58, 59, 60, 61, 62, 63, 64, 65, 66, 67, 68, 69, 70, 71, 72, 73, 74, 75, 76, 77, 78, 79, 80, 81, 82, 83, 84, 85, 86, 87, 88, 89, 90, 91, 92, 93, 97, 98, 99, 100, 101, 102, 103, 104, 105, 106, 107, 108, 109, 110, 111, 112, 113, 114, 115, 116, 117, 118, 119, 120, 121, 122, 123, 124, 125, 126, 127, 128, 129, 130, 131, 132, 133, 134, 135, 136, 137] (by decide +kernel) (by decide +kernel)
set_option maxRecDepth 20000 in
theorem gX5_close_X5_findWay : GoodIn wsX5_close (wsV RX5 257 RX5 yX5_findWay wsX5_findWay) := goodIn_app (goodIn_of _ (by decide +kernel)) ggX5_close_X5_findWay
set_option maxRecDepth 20000 in
theorem ggX5_close_X5_bits : GoodIn wsX5_close wsX5_bits := goodIn_r _ [96] (by decide +kernel) (by decide +kernel)
set_option maxRecDepth 20000 in
theorem gX5_close_X5_bits : GoodIn wsX5_close (va_wsS RX5 282 yX5_bits wsX5_bits) := goodIn_app (goodIn_of _ (by decide +kernel)) ggX5_close_X5_bits
theorem dX5_close_0 : decode cX5_close 0 = .ok (.iconst 0, 1) := by decide +kernel
theorem dX5_close_1 : decode cX5_close 1 = .ok (.istore_n 1, 1) := by decide +kernel
theorem dX5_close_2 : decode cX5_close 2 = .ok (.iconst 0, 1) := by decide +kernel
theorem dX5_close_3 : decode cX5_close 3 = .ok (.istore_n 2, 1) := by decide +kernel
theorem dX5_close_4 : decode cX5_close 4 = .ok (.iload_n 2, 1) := by decide +kernel
theorem dX5_close_5 : decode cX5_close 5 = .ok (.aload_n 0, 1) := by decide +kernel
theorem dX5_close_6 : decode cX5_close 6 = .ok (.invokevirtual 70, 3) := by decide +kernel
theorem dX5_close_9 : decode cX5_close 9 = .ok (.if_icmp .ge 29, 3) := by decide +kernel
theorem dX5_close_12 : decode cX5_close 12 = .ok (.iload_n 1, 1) := by decide +kernel
theorem dX5_close_13 : decode cX5_close 13 = .ok (.aload_n 0, 1) := by decide +kernel
theorem dX5_close_14 : decode cX5_close 14 = .ok (.iload_n 2, 1) := by decide +kernel
theorem dX5_close_15 : decode cX5_close 15 = .ok (.invokevirtual 188, 3) := by decide +kernel
theorem dX5_close_18 : decode cX5_close 18 = .ok (.bipush (-9), 2) := by decide +kernel
theorem dX5_close_20 : decode cX5_close 20 = .ok (.if_icmp .ne 9, 3) := by decide +kernel
theorem dX5_close_23 : decode cX5_close 23 = .ok (.iconst 1, 1) := by decide +kernel
theorem dX5_close_24 : decode cX5_close 24 = .ok (.iload_n 2, 1) := by decide +kernel
theorem dX5_close_25 : decode cX5_close 25 = .ok (.ishl, 1) := by decide +kernel
theorem dX5_close_26 : decode cX5_close 26 = .ok (.goto 4, 3) := by decide +kernel
theorem dX5_close_29 : decode cX5_close 29 = .ok (.iconst 0, 1) := by decide +kernel
theorem dX5_close_30 : decode cX5_close 30 = .ok (.ior, 1) := by decide +kernel
theorem dX5_close_31 : decode cX5_close 31 = .ok (.istore_n 1, 1) := by decide +kernel
theorem dX5_close_32 : decode cX5_close 32 = .ok (.iinc 2 1, 3) := by decide +kernel
theorem dX5_close_35 : decode cX5_close 35 = .ok (.goto (-31), 3) := by decide +kernel
theorem dX5_close_38 : decode cX5_close 38 = .ok (.aload_n 0, 1) := by decide +kernel
theorem dX5_close_39 : decode cX5_close 39 = .ok (.iconst 0, 1) := by decide +kernel
theorem dX5_close_40 : decode cX5_close 40 = .ok (.iconst 0, 1) := by decide +kernel
theorem dX5_close_41 : decode cX5_close 41 = .ok (.invokevirtual 257, 3) := by decide +kernel
theorem dX5_close_44 : decode cX5_close 44 = .ok (.sipush 1000, 3) := by decide +kernel
theorem dX5_close_47 : decode cX5_close 47 = .ok (.if_icmp .ne 5, 3) := by decide +kernel
theorem dX5_close_50 : decode cX5_close 50 = .ok (.iconst 0, 1) := by decide +kernel
theorem dX5_close_51 : decode cX5_close 51 = .ok (.ireturn, 1) := by decide +kernel
theorem dX5_close_52 : decode cX5_close 52 = .ok (.iconst 4, 1) := by decide +kernel
theorem dX5_close_53 : decode cX5_close 53 = .ok (.istore_n 2, 1) := by decide +kernel
theorem dX5_close_54 : decode cX5_close 54 = .ok (.iconst 0, 1) := by decide +kernel
theorem dX5_close_55 : decode cX5_close 55 = .ok (.istore_n 3, 1) := by decide +kernel
theorem dX5_close_56 : decode cX5_close 56 = .ok (.iload_n 3, 1) := by decide +kernel
theorem dX5_close_57 : decode cX5_close 57 = .ok (.aload_n 0, 1) := by decide +kernel
theorem dX5_close_58 : decode cX5_close 58 = .ok (.invokevirtual 70, 3) := by decide +kernel
theorem dX5_close_61 : decode cX5_close 61 = .ok (.if_icmp .ge 98, 3) := by decide +kernel
theorem dX5_close_64 : decode cX5_close 64 = .ok (.iload_n 3, 1) := by decide +kernel
theorem dX5_close_65 : decode cX5_close 65 = .ok (.istore 4, 2) := by decide +kernel
theorem dX5_close_67 : decode cX5_close 67 = .ok (.iload 4, 2) := by decide +kernel
theorem dX5_close_69 : decode cX5_close 69 = .ok (.aload_n 0, 1) := by decide +kernel
theorem dX5_close_70 : decode cX5_close 70 = .ok (.invokevirtual 70, 3) := by decide +kernel
theorem dX5_close_73 : decode cX5_close 73 = .ok (.if_icmp .ge 80, 3) := by decide +kernel
theorem dX5_close_76 : decode cX5_close 76 = .ok (.iload 4, 2) := by decide +kernel
theorem dX5_close_78 : decode cX5_close 78 = .ok (.istore 5, 2) := by decide +kernel
theorem dX5_close_80 : decode cX5_close 80 = .ok (.iload 5, 2) := by decide +kernel
theorem dX5_close_82 : decode cX5_close 82 = .ok (.aload_n 0, 1) := by decide +kernel
theorem dX5_close_83 : decode cX5_close 83 = .ok (.invokevirtual 70, 3) := by decide +kernel
theorem dX5_close_86 : decode cX5_close 86 = .ok (.if_icmp .ge 61, 3) := by decide +kernel
theorem dX5_close_89 : decode cX5_close 89 = .ok (.iconst 1, 1) := by decide +kernel
theorem dX5_close_90 : decode cX5_close 90 = .ok (.iload_n 3, 1) := by decide +kernel
theorem dX5_close_91 : decode cX5_close 91 = .ok (.ishl, 1) := by decide +kernel
theorem dX5_close_92 : decode cX5_close 92 = .ok (.iconst 1, 1) := by decide +kernel
theorem dX5_close_93 : decode cX5_close 93 = .ok (.iload 4, 2) := by decide +kernel
theorem dX5_close_95 : decode cX5_close 95 = .ok (.ishl, 1) := by decide +kernel
theorem dX5_close_96 : decode cX5_close 96 = .ok (.ior, 1) := by decide +kernel
theorem dX5_close_97 : decode cX5_close 97 = .ok (.iconst 1, 1) := by decide +kernel
theorem dX5_close_98 : decode cX5_close 98 = .ok (.iload 5, 2) := by decide +kernel
theorem dX5_close_100 : decode cX5_close 100 = .ok (.ishl, 1) := by decide +kernel
theorem dX5_close_101 : decode cX5_close 101 = .ok (.ior, 1) := by decide +kernel
theorem dX5_close_102 : decode cX5_close 102 = .ok (.istore 6, 2) := by decide +kernel
theorem dX5_close_104 : decode cX5_close 104 = .ok (.iload 6, 2) := by decide +kernel
theorem dX5_close_106 : decode cX5_close 106 = .ok (.iload_n 1, 1) := by decide +kernel
theorem dX5_close_107 : decode cX5_close 107 = .ok (.iconst (-1), 1) := by decide +kernel
theorem dX5_close_108 : decode cX5_close 108 = .ok (.ixor, 1) := by decide +kernel
theorem dX5_close_109 : decode cX5_close 109 = .ok (.iand, 1) := by decide +kernel
theorem dX5_close_110 : decode cX5_close 110 = .ok (.ifCond .ne 31, 3) := by decide +kernel
theorem dX5_close_113 : decode cX5_close 113 = .ok (.iload 6, 2) := by decide +kernel
theorem dX5_close_115 : decode cX5_close 115 = .ok (.invokestatic 282, 3) := by decide +kernel
theorem dX5_close_118 : decode cX5_close 118 = .ok (.iload_n 2, 1) := by decide +kernel
theorem dX5_close_119 : decode cX5_close 119 = .ok (.if_icmp .ge 22, 3) := by decide +kernel
theorem dX5_close_122 : decode cX5_close 122 = .ok (.aload_n 0, 1) := by decide +kernel
theorem dX5_close_123 : decode cX5_close 123 = .ok (.iload 6, 2) := by decide +kernel
theorem dX5_close_125 : decode cX5_close 125 = .ok (.iconst 0, 1) := by decide +kernel
theorem dX5_close_126 : decode cX5_close 126 = .ok (.invokevirtual 257, 3) := by decide +kernel
theorem dX5_close_129 : decode cX5_close 129 = .ok (.sipush 1000, 3) := by decide +kernel
theorem dX5_close_132 : decode cX5_close 132 = .ok (.if_icmp .ne 9, 3) := by decide +kernel
theorem dX5_close_135 : decode cX5_close 135 = .ok (.iload 6, 2) := by decide +kernel
theorem dX5_close_137 : decode cX5_close 137 = .ok (.invokestatic 282, 3) := by decide +kernel
theorem dX5_close_140 : decode cX5_close 140 = .ok (.istore_n 2, 1) := by decide +kernel
theorem dX5_close_141 : decode cX5_close 141 = .ok (.iinc 5 1, 3) := by decide +kernel
theorem dX5_close_144 : decode cX5_close 144 = .ok (.goto (-64), 3) := by decide +kernel
theorem dX5_close_147 : decode cX5_close 147 = .ok (.iinc 4 1, 3) := by decide +kernel
theorem dX5_close_150 : decode cX5_close 150 = .ok (.goto (-83), 3) := by decide +kernel
theorem dX5_close_153 : decode cX5_close 153 = .ok (.iinc 3 1, 3) := by decide +kernel
theorem dX5_close_156 : decode cX5_close 156 = .ok (.goto (-100), 3) := by decide +kernel
theorem dX5_close_159 : decode cX5_close 159 = .ok (.iload_n 2, 1) := by decide +kernel
theorem dX5_close_160 : decode cX5_close 160 = .ok (.iconst 3, 1) := by decide +kernel
theorem dX5_close_161 : decode cX5_close 161 = .ok (.if_icmp .le 8, 3) := by decide +kernel
theorem dX5_close_164 : decode cX5_close 164 = .ok (.bipush (-9), 2) := by decide +kernel
theorem dX5_close_166 : decode cX5_close 166 = .ok (.goto 4, 3) := by decide +kernel
theorem dX5_close_169 : decode cX5_close 169 = .ok (.iload_n 2, 1) := by decide +kernel
theorem dX5_close_170 : decode cX5_close 170 = .ok (.ireturn, 1) := by decide +kernel
set_option maxRecDepth 20000 in
theorem ggX5_marks_X5_cells : GoodIn wsX5_marks wsX5_cells := goodIn_r _ [6, 7, 8, 98, 99, 100, 101, 102, 103, 104, 105, 106, 107, 108, 109, 110, 111, 112, 113, 114, 115, 116, 117, 118, 119, 120, 121, 122, 123, 124, 125, 126, 127, 128, 129, 130, 131, 132, 133, 134, 135, 136, 137, 138] (by decide +kernel) (by decide +kernel)
set_option maxRecDepth 20000 in
theorem gX5_marks_X5_cells : GoodIn wsX5_marks (wsV RX5 70 RX5 yX5_cells wsX5_cells) := goodIn_app (goodIn_of _ (by decide +kernel)) ggX5_marks_X5_cells
set_option maxRecDepth 20000 in
theorem ggX5_marks_X5_bits : GoodIn wsX5_marks wsX5_bits := goodIn_r _ [11] (by decide +kernel) (by decide +kernel)
set_option maxRecDepth 20000 in
theorem gX5_marks_X5_bits : GoodIn wsX5_marks (va_wsS RX5 282 yX5_bits wsX5_bits) := goodIn_app (goodIn_of _ (by decide +kernel)) ggX5_marks_X5_bits
set_option maxRecDepth 20000 in
theorem ggX5_marks_X5_in : GoodIn wsX5_marks wsX5_in := goodIn_r _ [14] (by decide +kernel) (by decide +kernel)
set_option maxRecDepth 20000 in
theorem gX5_marks_X5_in : GoodIn wsX5_marks (va_wsS RX5 74 yX5_in wsX5_in) := goodIn_app (goodIn_of _ (by decide +kernel)) ggX5_marks_X5_in
set_option maxRecDepth 20000 in
theorem ggX5_marks_X5_count : GoodIn wsX5_marks wsX5_count := goodIn_r _ [18, 19, 20, 2, 3, 4, 5, 6, 7, 8, 21, 22, 23, 24, 25, 26, 27, 28, 29, 30, 31, 32, 33, 34, 35, 36, 37, 38, 39, 40, 41, 42, 43, 44, 45, 46, 47, 48, 49, 50, 51, 52, 53, 54, 55, 56, 57, 58, 59, 60, 61, 62, 63, 64, 65, 66, 67, 68, 69, 70, 71, 72, 73, 74, 75, 76, 77, 78, 79, 80, 81, 82, 83, 84, 85, 86, 12, 13, 14, 87, 88, 89, 90, 91, 92, 93, 94, 95, 96, 97, 98, 99, 100, 101, 102, 103, 104, 105, 106, 107, 108, 109, 110, 111, 112, 113, 114, 115, 116, 117, 118, 119, 120, 121, 122, 123, 124, 125, 126, 127, 128, 129, 130, 131, 132, 133, 134, 135, 136, 137, 138] (by decide +kernel) (by decide +kernel)
set_option maxRecDepth 20000 in
theorem gX5_marks_X5_count : GoodIn wsX5_marks (wsV RX5 270 RX5 yX5_count wsX5_count) := goodIn_app (goodIn_of _ (by decide +kernel)) ggX5_marks_X5_count
theorem dX5_marks_0 : decode cX5_marks 0 = .ok (.iload_n 1, 1) := by decide +kernel
theorem dX5_marks_1 : decode cX5_marks 1 = .ok (.ifCond .lt 31, 3) := by decide +kernel
theorem dX5_marks_4 : decode cX5_marks 4 = .ok (.iload_n 1, 1) := by decide +kernel
theorem dX5_marks_5 : decode cX5_marks 5 = .ok (.iconst 1, 1) := by decide +kernel
theorem dX5_marks_6 : decode cX5_marks 6 = .ok (.aload_n 0, 1) := by decide +kernel
theorem dX5_marks_7 : decode cX5_marks 7 = .ok (.invokevirtual 70, 3) := by decide +kernel
theorem dX5_marks_10 : decode cX5_marks 10 = .ok (.ishl, 1) := by decide +kernel
theorem dX5_marks_11 : decode cX5_marks 11 = .ok (.if_icmp .ge 21, 3) := by decide +kernel
theorem dX5_marks_14 : decode cX5_marks 14 = .ok (.iload_n 1, 1) := by decide +kernel
theorem dX5_marks_15 : decode cX5_marks 15 = .ok (.invokestatic 282, 3) := by decide +kernel
theorem dX5_marks_18 : decode cX5_marks 18 = .ok (.iconst 4, 1) := by decide +kernel
theorem dX5_marks_19 : decode cX5_marks 19 = .ok (.if_icmp .gt 13, 3) := by decide +kernel
theorem dX5_marks_22 : decode cX5_marks 22 = .ok (.iload_n 2, 1) := by decide +kernel
theorem dX5_marks_23 : decode cX5_marks 23 = .ok (.iconst 1, 1) := by decide +kernel
theorem dX5_marks_24 : decode cX5_marks 24 = .ok (.bipush 20, 2) := by decide +kernel
theorem dX5_marks_26 : decode cX5_marks 26 = .ok (.invokestatic 74, 3) := by decide +kernel
theorem dX5_marks_29 : decode cX5_marks 29 = .ok (.ifCond .ne 7, 3) := by decide +kernel
theorem dX5_marks_32 : decode cX5_marks 32 = .ok (.ldc2_w 274, 3) := by decide +kernel
theorem dX5_marks_35 : decode cX5_marks 35 = .ok (.lreturn, 1) := by decide +kernel
theorem dX5_marks_36 : decode cX5_marks 36 = .ok (.aload_n 0, 1) := by decide +kernel
theorem dX5_marks_37 : decode cX5_marks 37 = .ok (.iload_n 2, 1) := by decide +kernel
theorem dX5_marks_38 : decode cX5_marks 38 = .ok (.iload_n 1, 1) := by decide +kernel
theorem dX5_marks_39 : decode cX5_marks 39 = .ok (.invokevirtual 270, 3) := by decide +kernel
theorem dX5_marks_42 : decode cX5_marks 42 = .ok (.lreturn, 1) := by decide +kernel
theorem dX5_catMark_0 : decode cX5_catMark 0 = .ok (.aload_n 0, 1) := by decide +kernel
theorem dX5_catMark_1 : decode cX5_catMark 1 = .ok (.dup, 1) := by decide +kernel
theorem dX5_catMark_2 : decode cX5_catMark 2 = .ok (.getfield 285, 3) := by decide +kernel
theorem dX5_catMark_5 : decode cX5_catMark 5 = .ok (.lconst 1, 1) := by decide +kernel
theorem dX5_catMark_6 : decode cX5_catMark 6 = .ok (.ladd, 1) := by decide +kernel
theorem dX5_catMark_7 : decode cX5_catMark 7 = .ok (.putfield 285, 3) := by decide +kernel
theorem dX5_catMark_10 : decode cX5_catMark 10 = .ok (.aload_n 0, 1) := by decide +kernel
theorem dX5_catMark_11 : decode cX5_catMark 11 = .ok (.getfield 29, 3) := by decide +kernel
theorem dX5_catMark_14 : decode cX5_catMark 14 = .ok (.iconst 4, 1) := by decide +kernel
theorem dX5_catMark_15 : decode cX5_catMark 15 = .ok (.iload_n 1, 1) := by decide +kernel
theorem dX5_catMark_16 : decode cX5_catMark 16 = .ok (.iadd, 1) := by decide +kernel
theorem dX5_catMark_17 : decode cX5_catMark 17 = .ok (.iaload, 1) := by decide +kernel
theorem dX5_catMark_18 : decode cX5_catMark 18 = .ok (.ireturn, 1) := by decide +kernel
set_option maxRecDepth 20000 in
theorem ggX5_tomMark_X5_catMark : GoodIn wsX5_tomMark wsX5_catMark := goodIn_r _ [8, 1, 9, 10, 11, 12, 13, 14, 15, 16, 17, 18, 19, 20, 21, 22, 23, 24, 25, 26, 27, 28, 29, 30, 31, 32, 33, 34, 35, 36, 37, 38, 39, 40, 41, 42, 43, 44, 45, 46, 47, 48, 49, 50] (by decide +kernel) (by decide +kernel)
set_option maxRecDepth 20000 in
theorem gX5_tomMark_X5_catMark : GoodIn wsX5_tomMark (wsV RX5 290 RX5 yX5_catMark wsX5_catMark) := goodIn_app (goodIn_of _ (by decide +kernel)) ggX5_tomMark_X5_catMark
theorem dX5_tomMark_0 : decode cX5_tomMark 0 = .ok (.aload_n 0, 1) := by decide +kernel
theorem dX5_tomMark_1 : decode cX5_tomMark 1 = .ok (.dup, 1) := by decide +kernel
theorem dX5_tomMark_2 : decode cX5_tomMark 2 = .ok (.getfield 285, 3) := by decide +kernel
theorem dX5_tomMark_5 : decode cX5_tomMark 5 = .ok (.ldc2_w 288, 3) := by decide +kernel
theorem dX5_tomMark_8 : decode cX5_tomMark 8 = .ok (.ladd, 1) := by decide +kernel
theorem dX5_tomMark_9 : decode cX5_tomMark 9 = .ok (.putfield 285, 3) := by decide +kernel
theorem dX5_tomMark_12 : decode cX5_tomMark 12 = .ok (.aload_n 0, 1) := by decide +kernel
theorem dX5_tomMark_13 : decode cX5_tomMark 13 = .ok (.iload_n 1, 1) := by decide +kernel
theorem dX5_tomMark_14 : decode cX5_tomMark 14 = .ok (.invokevirtual 290, 3) := by decide +kernel
theorem dX5_tomMark_17 : decode cX5_tomMark 17 = .ok (.aload_n 0, 1) := by decide +kernel
theorem dX5_tomMark_18 : decode cX5_tomMark 18 = .ok (.getfield 22, 3) := by decide +kernel
theorem dX5_tomMark_21 : decode cX5_tomMark 21 = .ok (.iload_n 1, 1) := by decide +kernel
theorem dX5_tomMark_22 : decode cX5_tomMark 22 = .ok (.iaload, 1) := by decide +kernel
theorem dX5_tomMark_23 : decode cX5_tomMark 23 = .ok (.iadd, 1) := by decide +kernel
theorem dX5_tomMark_24 : decode cX5_tomMark 24 = .ok (.ireturn, 1) := by decide +kernel
set_option maxRecDepth 20000 in
theorem ggX5_kittenMark_X5_catMark : GoodIn wsX5_kittenMark wsX5_catMark := goodIn_r _ [8, 1, 3, 9, 10, 11, 12, 13, 14, 15, 16, 17, 18, 19, 20, 21, 22, 23, 24, 25, 26, 27, 28, 29, 30, 31, 32, 33, 34, 35, 36, 37, 38, 39, 40, 41, 42, 43, 44, 45, 46, 47, 48, 49] (by decide +kernel) (by decide +kernel)
set_option maxRecDepth 20000 in
theorem gX5_kittenMark_X5_catMark : GoodIn wsX5_kittenMark (wsV RX5 290 RX5 yX5_catMark wsX5_catMark) := goodIn_app (goodIn_of _ (by decide +kernel)) ggX5_kittenMark_X5_catMark
theorem dX5_kittenMark_0 : decode cX5_kittenMark 0 = .ok (.aload_n 0, 1) := by decide +kernel
theorem dX5_kittenMark_1 : decode cX5_kittenMark 1 = .ok (.dup, 1) := by decide +kernel
theorem dX5_kittenMark_2 : decode cX5_kittenMark 2 = .ok (.getfield 285, 3) := by decide +kernel
theorem dX5_kittenMark_5 : decode cX5_kittenMark 5 = .ok (.ldc2_w 293, 3) := by decide +kernel
theorem dX5_kittenMark_8 : decode cX5_kittenMark 8 = .ok (.ladd, 1) := by decide +kernel
theorem dX5_kittenMark_9 : decode cX5_kittenMark 9 = .ok (.putfield 285, 3) := by decide +kernel
theorem dX5_kittenMark_12 : decode cX5_kittenMark 12 = .ok (.aload_n 0, 1) := by decide +kernel
theorem dX5_kittenMark_13 : decode cX5_kittenMark 13 = .ok (.iload_n 1, 1) := by decide +kernel
theorem dX5_kittenMark_14 : decode cX5_kittenMark 14 = .ok (.invokevirtual 290, 3) := by decide +kernel
theorem dX5_kittenMark_17 : decode cX5_kittenMark 17 = .ok (.aload_n 0, 1) := by decide +kernel
theorem dX5_kittenMark_18 : decode cX5_kittenMark 18 = .ok (.getfield 29, 3) := by decide +kernel
theorem dX5_kittenMark_21 : decode cX5_kittenMark 21 = .ok (.bipush 9, 2) := by decide +kernel
theorem dX5_kittenMark_23 : decode cX5_kittenMark 23 = .ok (.iload_n 1, 1) := by decide +kernel
theorem dX5_kittenMark_24 : decode cX5_kittenMark 24 = .ok (.iadd, 1) := by decide +kernel
theorem dX5_kittenMark_25 : decode cX5_kittenMark 25 = .ok (.iaload, 1) := by decide +kernel
theorem dX5_kittenMark_26 : decode cX5_kittenMark 26 = .ok (.isub, 1) := by decide +kernel
theorem dX5_kittenMark_27 : decode cX5_kittenMark 27 = .ok (.ireturn, 1) := by decide +kernel
set_option maxRecDepth 20000 in
theorem ggX5_mark_X5_in : GoodIn wsX5_mark wsX5_in := goodIn_r _ [10] (by decide +kernel) (by decide +kernel)
set_option maxRecDepth 20000 in
theorem gX5_mark_X5_in : GoodIn wsX5_mark (va_wsS RX5 74 yX5_in wsX5_in) := goodIn_app (goodIn_of _ (by decide +kernel)) ggX5_mark_X5_in
set_option maxRecDepth 20000 in
theorem ggX5_mark_X5_isCat : GoodIn wsX5_mark wsX5_isCat := goodIn_r _ [14, 15, 7, 8, 9, 10, 31, 32, 33, 34, 35, 36, 37, 38, 39, 40, 41, 42, 43, 44, 45, 46, 47, 48, 49, 50, 51, 52, 53, 54, 55, 56, 57, 58, 59, 60, 61, 62, 63, 64, 65, 66, 67, 68, 69, 70, 71] (by decide +kernel) (by decide +kernel)
set_option maxRecDepth 20000 in
theorem gX5_mark_X5_isCat : GoodIn wsX5_mark (wsV RX5 182 RX5 yX5_isCat wsX5_isCat) := goodIn_app (goodIn_of _ (by decide +kernel)) ggX5_mark_X5_isCat
set_option maxRecDepth 20000 in
theorem ggX5_mark_X5_catMark : GoodIn wsX5_mark wsX5_catMark := goodIn_r _ [19, 2, 6, 31, 32, 33, 34, 35, 36, 37, 38, 39, 40, 41, 42, 43, 44, 45, 46, 47, 48, 49, 50, 51, 52, 53, 54, 55, 56, 57, 58, 59, 60, 61, 62, 63, 64, 65, 66, 67, 68, 69, 70, 71] (by decide +kernel) (by decide +kernel)
set_option maxRecDepth 20000 in
theorem gX5_mark_X5_catMark : GoodIn wsX5_mark (wsV RX5 290 RX5 yX5_catMark wsX5_catMark) := goodIn_app (goodIn_of _ (by decide +kernel)) ggX5_mark_X5_catMark
set_option maxRecDepth 20000 in
theorem ggX5_mark_X5_tomMark : GoodIn wsX5_mark wsX5_tomMark := goodIn_r _ [23, 2, 24, 25, 16, 17, 18, 9, 19, 6, 31, 32, 33, 34, 35, 36, 37, 38, 39, 40, 41, 42, 43, 44, 45, 46, 47, 48, 49, 50, 51, 52, 53, 54, 55, 56, 57, 58, 59, 60, 61, 62, 63, 64, 65, 66, 67, 68, 69, 70, 71] (by decide +kernel) (by decide +kernel)
set_option maxRecDepth 20000 in
theorem gX5_mark_X5_tomMark : GoodIn wsX5_mark (wsV RX5 296 RX5 yX5_tomMark wsX5_tomMark) := goodIn_app (goodIn_of _ (by decide +kernel)) ggX5_mark_X5_tomMark
set_option maxRecDepth 20000 in
theorem ggX5_mark_X5_kittenMark : GoodIn wsX5_mark wsX5_kittenMark := goodIn_r _ [29, 2, 30, 6, 16, 17, 18, 9, 19, 31, 32, 33, 34, 35, 36, 37, 38, 39, 40, 41, 42, 43, 44, 45, 46, 47, 48, 49, 50, 51, 52, 53, 54, 55, 56, 57, 58, 59, 60, 61, 62, 63, 64, 65, 66, 67, 68, 69, 70, 71] (by decide +kernel) (by decide +kernel)
set_option maxRecDepth 20000 in
theorem gX5_mark_X5_kittenMark : GoodIn wsX5_mark (wsV RX5 299 RX5 yX5_kittenMark wsX5_kittenMark) := goodIn_app (goodIn_of _ (by decide +kernel)) ggX5_mark_X5_kittenMark
theorem dX5_mark_0 : decode cX5_mark 0 = .ok (.iload_n 1, 1) := by decide +kernel
theorem dX5_mark_1 : decode cX5_mark 1 = .ok (.iconst 0, 1) := by decide +kernel
theorem dX5_mark_2 : decode cX5_mark 2 = .ok (.iconst 5, 1) := by decide +kernel
theorem dX5_mark_3 : decode cX5_mark 3 = .ok (.invokestatic 74, 3) := by decide +kernel
theorem dX5_mark_6 : decode cX5_mark 6 = .ok (.ifCond .eq 11, 3) := by decide +kernel
theorem dX5_mark_9 : decode cX5_mark 9 = .ok (.aload_n 0, 1) := by decide +kernel
theorem dX5_mark_10 : decode cX5_mark 10 = .ok (.iload_n 2, 1) := by decide +kernel
theorem dX5_mark_11 : decode cX5_mark 11 = .ok (.invokevirtual 182, 3) := by decide +kernel
theorem dX5_mark_14 : decode cX5_mark 14 = .ok (.ifCond .ne 7, 3) := by decide +kernel
theorem dX5_mark_17 : decode cX5_mark 17 = .ok (.ldc_w 295, 3) := by decide +kernel
theorem dX5_mark_20 : decode cX5_mark 20 = .ok (.ireturn, 1) := by decide +kernel
theorem dX5_mark_21 : decode cX5_mark 21 = .ok (.iload_n 1, 1) := by decide +kernel
theorem dX5_mark_22 : decode cX5_mark 22 = .ok (.tableswitch 92 0 4 #[34, 40, 46, 52, 72], 34) := by decide +kernel
theorem dX5_mark_56 : decode cX5_mark 56 = .ok (.aload_n 0, 1) := by decide +kernel
theorem dX5_mark_57 : decode cX5_mark 57 = .ok (.iload_n 2, 1) := by decide +kernel
theorem dX5_mark_58 : decode cX5_mark 58 = .ok (.invokevirtual 290, 3) := by decide +kernel
theorem dX5_mark_61 : decode cX5_mark 61 = .ok (.ireturn, 1) := by decide +kernel
theorem dX5_mark_62 : decode cX5_mark 62 = .ok (.aload_n 0, 1) := by decide +kernel
theorem dX5_mark_63 : decode cX5_mark 63 = .ok (.iload_n 2, 1) := by decide +kernel
theorem dX5_mark_64 : decode cX5_mark 64 = .ok (.invokevirtual 296, 3) := by decide +kernel
theorem dX5_mark_67 : decode cX5_mark 67 = .ok (.ireturn, 1) := by decide +kernel
theorem dX5_mark_68 : decode cX5_mark 68 = .ok (.aload_n 0, 1) := by decide +kernel
theorem dX5_mark_69 : decode cX5_mark 69 = .ok (.iload_n 2, 1) := by decide +kernel
theorem dX5_mark_70 : decode cX5_mark 70 = .ok (.invokevirtual 299, 3) := by decide +kernel
theorem dX5_mark_73 : decode cX5_mark 73 = .ok (.ireturn, 1) := by decide +kernel
theorem dX5_mark_74 : decode cX5_mark 74 = .ok (.aload_n 0, 1) := by decide +kernel
theorem dX5_mark_75 : decode cX5_mark 75 = .ok (.dup, 1) := by decide +kernel
theorem dX5_mark_76 : decode cX5_mark 76 = .ok (.getfield 285, 3) := by decide +kernel
theorem dX5_mark_79 : decode cX5_mark 79 = .ok (.ldc2_w 302, 3) := by decide +kernel
theorem dX5_mark_82 : decode cX5_mark 82 = .ok (.ladd, 1) := by decide +kernel
theorem dX5_mark_83 : decode cX5_mark 83 = .ok (.putfield 285, 3) := by decide +kernel
theorem dX5_mark_86 : decode cX5_mark 86 = .ok (.iconst 2, 1) := by decide +kernel
theorem dX5_mark_87 : decode cX5_mark 87 = .ok (.aload_n 0, 1) := by decide +kernel
theorem dX5_mark_88 : decode cX5_mark 88 = .ok (.iload_n 2, 1) := by decide +kernel
theorem dX5_mark_89 : decode cX5_mark 89 = .ok (.invokevirtual 296, 3) := by decide +kernel
theorem dX5_mark_92 : decode cX5_mark 92 = .ok (.imul, 1) := by decide +kernel
theorem dX5_mark_93 : decode cX5_mark 93 = .ok (.ireturn, 1) := by decide +kernel
theorem dX5_mark_94 : decode cX5_mark 94 = .ok (.aload_n 0, 1) := by decide +kernel
theorem dX5_mark_95 : decode cX5_mark 95 = .ok (.dup, 1) := by decide +kernel
theorem dX5_mark_96 : decode cX5_mark 96 = .ok (.getfield 285, 3) := by decide +kernel
theorem dX5_mark_99 : decode cX5_mark 99 = .ok (.ldc2_w 304, 3) := by decide +kernel
theorem dX5_mark_102 : decode cX5_mark 102 = .ok (.ladd, 1) := by decide +kernel
theorem dX5_mark_103 : decode cX5_mark 103 = .ok (.putfield 285, 3) := by decide +kernel
theorem dX5_mark_106 : decode cX5_mark 106 = .ok (.aload_n 0, 1) := by decide +kernel
theorem dX5_mark_107 : decode cX5_mark 107 = .ok (.iload_n 2, 1) := by decide +kernel
theorem dX5_mark_108 : decode cX5_mark 108 = .ok (.invokevirtual 299, 3) := by decide +kernel
theorem dX5_mark_111 : decode cX5_mark 111 = .ok (.iload_n 2, 1) := by decide +kernel
theorem dX5_mark_112 : decode cX5_mark 112 = .ok (.iadd, 1) := by decide +kernel
theorem dX5_mark_113 : decode cX5_mark 113 = .ok (.ireturn, 1) := by decide +kernel
theorem dX5_mark_114 : decode cX5_mark 114 = .ok (.aload_n 0, 1) := by decide +kernel
theorem dX5_mark_115 : decode cX5_mark 115 = .ok (.dup, 1) := by decide +kernel
theorem dX5_mark_116 : decode cX5_mark 116 = .ok (.getfield 285, 3) := by decide +kernel
theorem dX5_mark_119 : decode cX5_mark 119 = .ok (.ldc2_w 306, 3) := by decide +kernel
theorem dX5_mark_122 : decode cX5_mark 122 = .ok (.ladd, 1) := by decide +kernel
theorem dX5_mark_123 : decode cX5_mark 123 = .ok (.putfield 285, 3) := by decide +kernel
theorem dX5_mark_126 : decode cX5_mark 126 = .ok (.aload_n 0, 1) := by decide +kernel
theorem dX5_mark_127 : decode cX5_mark 127 = .ok (.iload_n 2, 1) := by decide +kernel
theorem dX5_mark_128 : decode cX5_mark 128 = .ok (.invokevirtual 290, 3) := by decide +kernel
theorem dX5_mark_131 : decode cX5_mark 131 = .ok (.aload_n 0, 1) := by decide +kernel
theorem dX5_mark_132 : decode cX5_mark 132 = .ok (.getfield 29, 3) := by decide +kernel
theorem dX5_mark_135 : decode cX5_mark 135 = .ok (.iconst 0, 1) := by decide +kernel
theorem dX5_mark_136 : decode cX5_mark 136 = .ok (.iaload, 1) := by decide +kernel
theorem dX5_mark_137 : decode cX5_mark 137 = .ok (.iadd, 1) := by decide +kernel
theorem dX5_mark_138 : decode cX5_mark 138 = .ok (.ireturn, 1) := by decide +kernel
set_option maxRecDepth 20000 in
theorem ggX5_keep_X5_in : GoodIn wsX5_keep wsX5_in := goodIn_r _ [7] (by decide +kernel) (by decide +kernel)
set_option maxRecDepth 20000 in
theorem gX5_keep_X5_in : GoodIn wsX5_keep (va_wsS RX5 74 yX5_in wsX5_in) := goodIn_app (goodIn_of _ (by decide +kernel)) ggX5_keep_X5_in
theorem dX5_keep_0 : decode cX5_keep 0 = .ok (.iload_n 1, 1) := by decide +kernel
theorem dX5_keep_1 : decode cX5_keep 1 = .ok (.iconst 0, 1) := by decide +kernel
theorem dX5_keep_2 : decode cX5_keep 2 = .ok (.iconst 1, 1) := by decide +kernel
theorem dX5_keep_3 : decode cX5_keep 3 = .ok (.invokestatic 74, 3) := by decide +kernel
theorem dX5_keep_6 : decode cX5_keep 6 = .ok (.ifCond .ne 5, 3) := by decide +kernel
theorem dX5_keep_9 : decode cX5_keep 9 = .ok (.iconst (-1), 1) := by decide +kernel
theorem dX5_keep_10 : decode cX5_keep 10 = .ok (.ireturn, 1) := by decide +kernel
theorem dX5_keep_11 : decode cX5_keep 11 = .ok (.iconst 0, 1) := by decide +kernel
theorem dX5_keep_12 : decode cX5_keep 12 = .ok (.istore_n 2, 1) := by decide +kernel
theorem dX5_keep_13 : decode cX5_keep 13 = .ok (.iload_n 2, 1) := by decide +kernel
theorem dX5_keep_14 : decode cX5_keep 14 = .ok (.bipush 14, 2) := by decide +kernel
theorem dX5_keep_16 : decode cX5_keep 16 = .ok (.if_icmp .ge 26, 3) := by decide +kernel
theorem dX5_keep_19 : decode cX5_keep 19 = .ok (.aload_n 0, 1) := by decide +kernel
theorem dX5_keep_20 : decode cX5_keep 20 = .ok (.getfield 32, 3) := by decide +kernel
theorem dX5_keep_23 : decode cX5_keep 23 = .ok (.bipush 14, 2) := by decide +kernel
theorem dX5_keep_25 : decode cX5_keep 25 = .ok (.iload_n 1, 1) := by decide +kernel
theorem dX5_keep_26 : decode cX5_keep 26 = .ok (.imul, 1) := by decide +kernel
theorem dX5_keep_27 : decode cX5_keep 27 = .ok (.iload_n 2, 1) := by decide +kernel
theorem dX5_keep_28 : decode cX5_keep 28 = .ok (.iadd, 1) := by decide +kernel
theorem dX5_keep_29 : decode cX5_keep 29 = .ok (.aload_n 0, 1) := by decide +kernel
theorem dX5_keep_30 : decode cX5_keep 30 = .ok (.getfield 29, 3) := by decide +kernel
theorem dX5_keep_33 : decode cX5_keep 33 = .ok (.iload_n 2, 1) := by decide +kernel
theorem dX5_keep_34 : decode cX5_keep 34 = .ok (.iaload, 1) := by decide +kernel
theorem dX5_keep_35 : decode cX5_keep 35 = .ok (.iastore, 1) := by decide +kernel
theorem dX5_keep_36 : decode cX5_keep 36 = .ok (.iinc 2 1, 3) := by decide +kernel
theorem dX5_keep_39 : decode cX5_keep 39 = .ok (.goto (-26), 3) := by decide +kernel
theorem dX5_keep_42 : decode cX5_keep 42 = .ok (.aload_n 0, 1) := by decide +kernel
theorem dX5_keep_43 : decode cX5_keep 43 = .ok (.getfield 35, 3) := by decide +kernel
theorem dX5_keep_46 : decode cX5_keep 46 = .ok (.iload_n 1, 1) := by decide +kernel
theorem dX5_keep_47 : decode cX5_keep 47 = .ok (.iconst 1, 1) := by decide +kernel
theorem dX5_keep_48 : decode cX5_keep 48 = .ok (.bastore, 1) := by decide +kernel
theorem dX5_keep_49 : decode cX5_keep 49 = .ok (.aload_n 0, 1) := by decide +kernel
theorem dX5_keep_50 : decode cX5_keep 50 = .ok (.getfield 29, 3) := by decide +kernel
theorem dX5_keep_53 : decode cX5_keep 53 = .ok (.iconst 0, 1) := by decide +kernel
theorem dX5_keep_54 : decode cX5_keep 54 = .ok (.iaload, 1) := by decide +kernel
theorem dX5_keep_55 : decode cX5_keep 55 = .ok (.ireturn, 1) := by decide +kernel
set_option maxRecDepth 20000 in
theorem ggX5_back_X5_in : GoodIn wsX5_back wsX5_in := goodIn_r _ [7] (by decide +kernel) (by decide +kernel)
set_option maxRecDepth 20000 in
theorem gX5_back_X5_in : GoodIn wsX5_back (va_wsS RX5 74 yX5_in wsX5_in) := goodIn_app (goodIn_of _ (by decide +kernel)) ggX5_back_X5_in
theorem dX5_back_0 : decode cX5_back 0 = .ok (.iload_n 1, 1) := by decide +kernel
theorem dX5_back_1 : decode cX5_back 1 = .ok (.iconst 0, 1) := by decide +kernel
theorem dX5_back_2 : decode cX5_back 2 = .ok (.iconst 1, 1) := by decide +kernel
theorem dX5_back_3 : decode cX5_back 3 = .ok (.invokestatic 74, 3) := by decide +kernel
theorem dX5_back_6 : decode cX5_back 6 = .ok (.ifCond .ne 5, 3) := by decide +kernel
theorem dX5_back_9 : decode cX5_back 9 = .ok (.iconst (-1), 1) := by decide +kernel
theorem dX5_back_10 : decode cX5_back 10 = .ok (.ireturn, 1) := by decide +kernel
theorem dX5_back_11 : decode cX5_back 11 = .ok (.aload_n 0, 1) := by decide +kernel
theorem dX5_back_12 : decode cX5_back 12 = .ok (.getfield 35, 3) := by decide +kernel
theorem dX5_back_15 : decode cX5_back 15 = .ok (.iload_n 1, 1) := by decide +kernel
theorem dX5_back_16 : decode cX5_back 16 = .ok (.baload, 1) := by decide +kernel
theorem dX5_back_17 : decode cX5_back 17 = .ok (.ifCond .ne 6, 3) := by decide +kernel
theorem dX5_back_20 : decode cX5_back 20 = .ok (.bipush (-2), 2) := by decide +kernel
theorem dX5_back_22 : decode cX5_back 22 = .ok (.ireturn, 1) := by decide +kernel
theorem dX5_back_23 : decode cX5_back 23 = .ok (.iconst 0, 1) := by decide +kernel
theorem dX5_back_24 : decode cX5_back 24 = .ok (.istore_n 2, 1) := by decide +kernel
theorem dX5_back_25 : decode cX5_back 25 = .ok (.iload_n 2, 1) := by decide +kernel
theorem dX5_back_26 : decode cX5_back 26 = .ok (.bipush 14, 2) := by decide +kernel
theorem dX5_back_28 : decode cX5_back 28 = .ok (.if_icmp .ge 26, 3) := by decide +kernel
theorem dX5_back_31 : decode cX5_back 31 = .ok (.aload_n 0, 1) := by decide +kernel
theorem dX5_back_32 : decode cX5_back 32 = .ok (.getfield 29, 3) := by decide +kernel
theorem dX5_back_35 : decode cX5_back 35 = .ok (.iload_n 2, 1) := by decide +kernel
theorem dX5_back_36 : decode cX5_back 36 = .ok (.aload_n 0, 1) := by decide +kernel
theorem dX5_back_37 : decode cX5_back 37 = .ok (.getfield 32, 3) := by decide +kernel
theorem dX5_back_40 : decode cX5_back 40 = .ok (.bipush 14, 2) := by decide +kernel
theorem dX5_back_42 : decode cX5_back 42 = .ok (.iload_n 1, 1) := by decide +kernel
theorem dX5_back_43 : decode cX5_back 43 = .ok (.imul, 1) := by decide +kernel
theorem dX5_back_44 : decode cX5_back 44 = .ok (.iload_n 2, 1) := by decide +kernel
theorem dX5_back_45 : decode cX5_back 45 = .ok (.iadd, 1) := by decide +kernel
theorem dX5_back_46 : decode cX5_back 46 = .ok (.iaload, 1) := by decide +kernel
theorem dX5_back_47 : decode cX5_back 47 = .ok (.iastore, 1) := by decide +kernel
theorem dX5_back_48 : decode cX5_back 48 = .ok (.iinc 2 1, 3) := by decide +kernel
theorem dX5_back_51 : decode cX5_back 51 = .ok (.goto (-26), 3) := by decide +kernel
theorem dX5_back_54 : decode cX5_back 54 = .ok (.aload_n 0, 1) := by decide +kernel
theorem dX5_back_55 : decode cX5_back 55 = .ok (.getfield 29, 3) := by decide +kernel
theorem dX5_back_58 : decode cX5_back 58 = .ok (.iconst 0, 1) := by decide +kernel
theorem dX5_back_59 : decode cX5_back 59 = .ok (.iaload, 1) := by decide +kernel
theorem dX5_back_60 : decode cX5_back 60 = .ok (.ireturn, 1) := by decide +kernel
set_option maxRecDepth 20000 in
theorem ggX5_count__X5_lying : GoodIn wsX5_count_ wsX5_lying := goodIn_r _ [9, 10, 11, 12, 13, 8, 14, 1, 2, 15, 16, 17, 18, 19, 20, 21, 22, 23, 24, 25, 26, 27, 28, 29, 30, 31, 32, 33, 34, 35, 36, 37, 38, 39, 40, 41, 42, 43, 44, 45, 46, 47, 48, 49, 50, 51, 52, 53, 54, 55] (by decide +kernel) (by decide +kernel)
set_option maxRecDepth 20000 in
theorem gX5_count__X5_lying : GoodIn wsX5_count_ (wsV RX5 241 RX5 yX5_lying wsX5_lying) := goodIn_app (goodIn_of _ (by decide +kernel)) ggX5_count__X5_lying
theorem dX5_count__0 : decode cX5_count_ 0 = .ok (.iload_n 1, 1) := by decide +kernel
theorem dX5_count__1 : decode cX5_count_ 1 = .ok (.tableswitch 60 0 4 #[35, 40, 45, 50, 55], 35) := by decide +kernel
theorem dX5_count__36 : decode cX5_count_ 36 = .ok (.aload_n 0, 1) := by decide +kernel
theorem dX5_count__37 : decode cX5_count_ 37 = .ok (.getfield 13, 3) := by decide +kernel
theorem dX5_count__40 : decode cX5_count_ 40 = .ok (.ireturn, 1) := by decide +kernel
theorem dX5_count__41 : decode cX5_count_ 41 = .ok (.aload_n 0, 1) := by decide +kernel
theorem dX5_count__42 : decode cX5_count_ 42 = .ok (.getfield 7, 3) := by decide +kernel
theorem dX5_count__45 : decode cX5_count_ 45 = .ok (.ireturn, 1) := by decide +kernel
theorem dX5_count__46 : decode cX5_count_ 46 = .ok (.aload_n 0, 1) := by decide +kernel
theorem dX5_count__47 : decode cX5_count_ 47 = .ok (.getfield 78, 3) := by decide +kernel
theorem dX5_count__50 : decode cX5_count_ 50 = .ok (.ireturn, 1) := by decide +kernel
theorem dX5_count__51 : decode cX5_count_ 51 = .ok (.aload_n 0, 1) := by decide +kernel
theorem dX5_count__52 : decode cX5_count_ 52 = .ok (.invokevirtual 241, 3) := by decide +kernel
theorem dX5_count__55 : decode cX5_count_ 55 = .ok (.ireturn, 1) := by decide +kernel
theorem dX5_count__56 : decode cX5_count_ 56 = .ok (.aload_n 0, 1) := by decide +kernel
theorem dX5_count__57 : decode cX5_count_ 57 = .ok (.getfield 81, 3) := by decide +kernel
theorem dX5_count__60 : decode cX5_count_ 60 = .ok (.ireturn, 1) := by decide +kernel
theorem dX5_count__61 : decode cX5_count_ 61 = .ok (.iconst (-1), 1) := by decide +kernel
theorem dX5_count__62 : decode cX5_count_ 62 = .ok (.ireturn, 1) := by decide +kernel
theorem dX5_trace_0 : decode cX5_trace 0 = .ok (.aload_n 0, 1) := by decide +kernel
theorem dX5_trace_1 : decode cX5_trace 1 = .ok (.getfield 285, 3) := by decide +kernel
theorem dX5_trace_4 : decode cX5_trace 4 = .ok (.lreturn, 1) := by decide +kernel
