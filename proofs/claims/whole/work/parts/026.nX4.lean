set_option maxRecDepth 20000 in
theorem ggX4_init_X0_init : GoodIn wsX4_init wsX0_init := goodIn_r _ [29, 30, 2, 3, 31, 32, 33, 34, 35, 36, 37, 8, 38, 39, 40, 41, 42, 43, 44, 45, 46, 47, 99, 100, 101, 102, 103, 104, 105, 106, 107, 108, 109, 110] (by decide +kernel) (by decide +kernel)
set_option maxRecDepth 20000 in
theorem gX4_init_X0_init : GoodIn wsX4_init (wsX0_init) := ggX4_init_X0_init
set_option maxRecDepth 20000 in
theorem ggX4_init_X1_init : GoodIn wsX4_init wsX1_init := goodIn_r _ [49, 50, 2, 3] (by decide +kernel) (by decide +kernel)
set_option maxRecDepth 20000 in
theorem gX4_init_X1_init_n25 : GoodIn wsX4_init (wsX1_init) := ggX4_init_X1_init
set_option maxRecDepth 20000 in
theorem ggX4_init_X2_init : GoodIn wsX4_init wsX2_init := goodIn_r _ [52, 53, 2, 3, 31, 54, 55, 117, 118, 119, 120, 121, 122, 123, 124] (by decide +kernel) (by decide +kernel)
set_option maxRecDepth 20000 in
theorem gX4_init_X2_init_n32 : GoodIn wsX4_init (wsX2_init) := ggX4_init_X2_init
set_option maxRecDepth 20000 in
theorem ggX4_init_X3_init : GoodIn wsX4_init wsX3_init := goodIn_r _ [57, 58, 2, 3, 31, 59, 60, 61, 62, 63, 125, 126, 127, 128] (by decide +kernel) (by decide +kernel)
set_option maxRecDepth 20000 in
theorem gX4_init_X3_init_n50 : GoodIn wsX4_init (wsX3_init) := ggX4_init_X3_init
set_option maxRecDepth 20000 in
theorem ggX4_init_X2_startAs : GoodIn wsX4_init wsX2_startAs := goodIn_r _ [67, 68, 69, 70, 71, 72, 73, 74, 75, 76, 77, 8, 78, 32, 79, 80, 81, 82, 83, 84, 17, 85, 54, 55, 86, 87, 117, 118, 119, 120, 121, 122, 123, 124, 99, 100, 101, 102, 103, 104, 105, 106, 107, 108, 109, 110] (by decide +kernel) (by decide +kernel)
set_option maxRecDepth 20000 in
theorem gX4_init_X2_startAs : GoodIn wsX4_init (wsV RX4 55 RX2 yX2_startAs wsX2_startAs) := goodIn_app (goodIn_of _ (by decide +kernel)) ggX4_init_X2_startAs
theorem dX4_init_0 : decode cX4_init 0 = .ok (.aload_n 0, 1) := by decide +kernel
theorem dX4_init_1 : decode cX4_init 1 = .ok (.invokespecial 3, 3) := by decide +kernel
theorem dX4_init_4 : decode cX4_init 4 = .ok (.aload_n 0, 1) := by decide +kernel
theorem dX4_init_5 : decode cX4_init 5 = .ok (.sipush 200, 3) := by decide +kernel
theorem dX4_init_8 : decode cX4_init 8 = .ok (.newarray .byte, 2) := by decide +kernel
theorem dX4_init_10 : decode cX4_init 10 = .ok (.putfield 9, 3) := by decide +kernel
theorem dX4_init_13 : decode cX4_init 13 = .ok (.aload_n 0, 1) := by decide +kernel
theorem dX4_init_14 : decode cX4_init 14 = .ok (.new 13, 3) := by decide +kernel
theorem dX4_init_17 : decode cX4_init 17 = .ok (.dup, 1) := by decide +kernel
theorem dX4_init_18 : decode cX4_init 18 = .ok (.invokespecial 15, 3) := by decide +kernel
theorem dX4_init_21 : decode cX4_init 21 = .ok (.putfield 16, 3) := by decide +kernel
theorem dX4_init_24 : decode cX4_init 24 = .ok (.aload_n 0, 1) := by decide +kernel
theorem dX4_init_25 : decode cX4_init 25 = .ok (.new 13, 3) := by decide +kernel
theorem dX4_init_28 : decode cX4_init 28 = .ok (.dup, 1) := by decide +kernel
theorem dX4_init_29 : decode cX4_init 29 = .ok (.invokespecial 15, 3) := by decide +kernel
theorem dX4_init_32 : decode cX4_init 32 = .ok (.putfield 20, 3) := by decide +kernel
theorem dX4_init_35 : decode cX4_init 35 = .ok (.aload_n 0, 1) := by decide +kernel
theorem dX4_init_36 : decode cX4_init 36 = .ok (.new 23, 3) := by decide +kernel
theorem dX4_init_39 : decode cX4_init 39 = .ok (.dup, 1) := by decide +kernel
theorem dX4_init_40 : decode cX4_init 40 = .ok (.invokespecial 25, 3) := by decide +kernel
theorem dX4_init_43 : decode cX4_init 43 = .ok (.putfield 26, 3) := by decide +kernel
theorem dX4_init_46 : decode cX4_init 46 = .ok (.aload_n 0, 1) := by decide +kernel
theorem dX4_init_47 : decode cX4_init 47 = .ok (.new 30, 3) := by decide +kernel
theorem dX4_init_50 : decode cX4_init 50 = .ok (.dup, 1) := by decide +kernel
theorem dX4_init_51 : decode cX4_init 51 = .ok (.invokespecial 32, 3) := by decide +kernel
theorem dX4_init_54 : decode cX4_init 54 = .ok (.putfield 33, 3) := by decide +kernel
theorem dX4_init_57 : decode cX4_init 57 = .ok (.aload_n 0, 1) := by decide +kernel
theorem dX4_init_58 : decode cX4_init 58 = .ok (.new 30, 3) := by decide +kernel
theorem dX4_init_61 : decode cX4_init 61 = .ok (.dup, 1) := by decide +kernel
theorem dX4_init_62 : decode cX4_init 62 = .ok (.invokespecial 32, 3) := by decide +kernel
theorem dX4_init_65 : decode cX4_init 65 = .ok (.putfield 37, 3) := by decide +kernel
theorem dX4_init_68 : decode cX4_init 68 = .ok (.aload_n 0, 1) := by decide +kernel
theorem dX4_init_69 : decode cX4_init 69 = .ok (.iconst 2, 1) := by decide +kernel
theorem dX4_init_70 : decode cX4_init 70 = .ok (.anewarray 30, 3) := by decide +kernel
theorem dX4_init_73 : decode cX4_init 73 = .ok (.dup, 1) := by decide +kernel
theorem dX4_init_74 : decode cX4_init 74 = .ok (.iconst 0, 1) := by decide +kernel
theorem dX4_init_75 : decode cX4_init 75 = .ok (.new 30, 3) := by decide +kernel
theorem dX4_init_78 : decode cX4_init 78 = .ok (.dup, 1) := by decide +kernel
theorem dX4_init_79 : decode cX4_init 79 = .ok (.invokespecial 32, 3) := by decide +kernel
theorem dX4_init_82 : decode cX4_init 82 = .ok (.aastore, 1) := by decide +kernel
theorem dX4_init_83 : decode cX4_init 83 = .ok (.dup, 1) := by decide +kernel
theorem dX4_init_84 : decode cX4_init 84 = .ok (.iconst 1, 1) := by decide +kernel
theorem dX4_init_85 : decode cX4_init 85 = .ok (.new 30, 3) := by decide +kernel
theorem dX4_init_88 : decode cX4_init 88 = .ok (.dup, 1) := by decide +kernel
theorem dX4_init_89 : decode cX4_init 89 = .ok (.invokespecial 32, 3) := by decide +kernel
theorem dX4_init_92 : decode cX4_init 92 = .ok (.aastore, 1) := by decide +kernel
theorem dX4_init_93 : decode cX4_init 93 = .ok (.putfield 40, 3) := by decide +kernel
theorem dX4_init_96 : decode cX4_init 96 = .ok (.aload_n 0, 1) := by decide +kernel
theorem dX4_init_97 : decode cX4_init 97 = .ok (.iconst 2, 1) := by decide +kernel
theorem dX4_init_98 : decode cX4_init 98 = .ok (.newarray .boolean, 2) := by decide +kernel
theorem dX4_init_100 : decode cX4_init 100 = .ok (.putfield 44, 3) := by decide +kernel
theorem dX4_init_103 : decode cX4_init 103 = .ok (.aload_n 0, 1) := by decide +kernel
theorem dX4_init_104 : decode cX4_init 104 = .ok (.new 48, 3) := by decide +kernel
theorem dX4_init_107 : decode cX4_init 107 = .ok (.dup, 1) := by decide +kernel
theorem dX4_init_108 : decode cX4_init 108 = .ok (.invokespecial 50, 3) := by decide +kernel
theorem dX4_init_111 : decode cX4_init 111 = .ok (.putfield 51, 3) := by decide +kernel
theorem dX4_init_114 : decode cX4_init 114 = .ok (.aload_n 0, 1) := by decide +kernel
theorem dX4_init_115 : decode cX4_init 115 = .ok (.getfield 33, 3) := by decide +kernel
theorem dX4_init_118 : decode cX4_init 118 = .ok (.aload_n 0, 1) := by decide +kernel
theorem dX4_init_119 : decode cX4_init 119 = .ok (.getfield 16, 3) := by decide +kernel
theorem dX4_init_122 : decode cX4_init 122 = .ok (.invokevirtual 55, 3) := by decide +kernel
theorem dX4_init_125 : decode cX4_init 125 = .ok (.return_, 1) := by decide +kernel
theorem dX4_type_0 : decode cX4_type 0 = .ok (.iload_n 3, 1) := by decide +kernel
theorem dX4_type_1 : decode cX4_type 1 = .ok (.iconst 1, 1) := by decide +kernel
theorem dX4_type_2 : decode cX4_type 2 = .ok (.if_icmp .lt 9, 3) := by decide +kernel
theorem dX4_type_5 : decode cX4_type 5 = .ok (.iload_n 3, 1) := by decide +kernel
theorem dX4_type_6 : decode cX4_type 6 = .ok (.bipush 8, 2) := by decide +kernel
theorem dX4_type_8 : decode cX4_type 8 = .ok (.if_icmp .le 5, 3) := by decide +kernel
theorem dX4_type_11 : decode cX4_type 11 = .ok (.iconst (-1), 1) := by decide +kernel
theorem dX4_type_12 : decode cX4_type 12 = .ok (.ireturn, 1) := by decide +kernel
theorem dX4_type_13 : decode cX4_type 13 = .ok (.aload_n 0, 1) := by decide +kernel
theorem dX4_type_14 : decode cX4_type 14 = .ok (.getfield 59, 3) := by decide +kernel
theorem dX4_type_17 : decode cX4_type 17 = .ok (.iload_n 3, 1) := by decide +kernel
theorem dX4_type_18 : decode cX4_type 18 = .ok (.iadd, 1) := by decide +kernel
theorem dX4_type_19 : decode cX4_type 19 = .ok (.sipush 200, 3) := by decide +kernel
theorem dX4_type_22 : decode cX4_type 22 = .ok (.if_icmp .le 6, 3) := by decide +kernel
theorem dX4_type_25 : decode cX4_type 25 = .ok (.bipush (-3), 2) := by decide +kernel
theorem dX4_type_27 : decode cX4_type 27 = .ok (.ireturn, 1) := by decide +kernel
theorem dX4_type_28 : decode cX4_type 28 = .ok (.iload_n 3, 1) := by decide +kernel
theorem dX4_type_29 : decode cX4_type 29 = .ok (.iconst 1, 1) := by decide +kernel
theorem dX4_type_30 : decode cX4_type 30 = .ok (.isub, 1) := by decide +kernel
theorem dX4_type_31 : decode cX4_type 31 = .ok (.istore 4, 2) := by decide +kernel
theorem dX4_type_33 : decode cX4_type 33 = .ok (.iload 4, 2) := by decide +kernel
theorem dX4_type_35 : decode cX4_type 35 = .ok (.ifCond .lt 56, 3) := by decide +kernel
theorem dX4_type_38 : decode cX4_type 38 = .ok (.aload_n 0, 1) := by decide +kernel
theorem dX4_type_39 : decode cX4_type 39 = .ok (.getfield 59, 3) := by decide +kernel
theorem dX4_type_42 : decode cX4_type 42 = .ok (.ifCond .lt 43, 3) := by decide +kernel
theorem dX4_type_45 : decode cX4_type 45 = .ok (.aload_n 0, 1) := by decide +kernel
theorem dX4_type_46 : decode cX4_type 46 = .ok (.getfield 59, 3) := by decide +kernel
theorem dX4_type_49 : decode cX4_type 49 = .ok (.aload_n 0, 1) := by decide +kernel
theorem dX4_type_50 : decode cX4_type 50 = .ok (.getfield 9, 3) := by decide +kernel
theorem dX4_type_53 : decode cX4_type 53 = .ok (.arraylength, 1) := by decide +kernel
theorem dX4_type_54 : decode cX4_type 54 = .ok (.if_icmp .ge 31, 3) := by decide +kernel
theorem dX4_type_57 : decode cX4_type 57 = .ok (.aload_n 0, 1) := by decide +kernel
theorem dX4_type_58 : decode cX4_type 58 = .ok (.getfield 9, 3) := by decide +kernel
theorem dX4_type_61 : decode cX4_type 61 = .ok (.aload_n 0, 1) := by decide +kernel
theorem dX4_type_62 : decode cX4_type 62 = .ok (.getfield 59, 3) := by decide +kernel
theorem dX4_type_65 : decode cX4_type 65 = .ok (.lload_n 1, 1) := by decide +kernel
theorem dX4_type_66 : decode cX4_type 66 = .ok (.bipush 8, 2) := by decide +kernel
theorem dX4_type_68 : decode cX4_type 68 = .ok (.iload 4, 2) := by decide +kernel
theorem dX4_type_70 : decode cX4_type 70 = .ok (.imul, 1) := by decide +kernel
theorem dX4_type_71 : decode cX4_type 71 = .ok (.lushr, 1) := by decide +kernel
theorem dX4_type_72 : decode cX4_type 72 = .ok (.l2i, 1) := by decide +kernel
theorem dX4_type_73 : decode cX4_type 73 = .ok (.i2b, 1) := by decide +kernel
theorem dX4_type_74 : decode cX4_type 74 = .ok (.bastore, 1) := by decide +kernel
theorem dX4_type_75 : decode cX4_type 75 = .ok (.aload_n 0, 1) := by decide +kernel
theorem dX4_type_76 : decode cX4_type 76 = .ok (.dup, 1) := by decide +kernel
theorem dX4_type_77 : decode cX4_type 77 = .ok (.getfield 59, 3) := by decide +kernel
theorem dX4_type_80 : decode cX4_type 80 = .ok (.iconst 1, 1) := by decide +kernel
theorem dX4_type_81 : decode cX4_type 81 = .ok (.iadd, 1) := by decide +kernel
theorem dX4_type_82 : decode cX4_type 82 = .ok (.putfield 59, 3) := by decide +kernel
theorem dX4_type_85 : decode cX4_type 85 = .ok (.iinc 4 (-1), 3) := by decide +kernel
theorem dX4_type_88 : decode cX4_type 88 = .ok (.goto (-55), 3) := by decide +kernel
theorem dX4_type_91 : decode cX4_type 91 = .ok (.aload_n 0, 1) := by decide +kernel
theorem dX4_type_92 : decode cX4_type 92 = .ok (.getfield 59, 3) := by decide +kernel
theorem dX4_type_95 : decode cX4_type 95 = .ok (.ireturn, 1) := by decide +kernel
theorem dX4_clear_0 : decode cX4_clear 0 = .ok (.aload_n 0, 1) := by decide +kernel
theorem dX4_clear_1 : decode cX4_clear 1 = .ok (.getfield 59, 3) := by decide +kernel
theorem dX4_clear_4 : decode cX4_clear 4 = .ok (.istore_n 1, 1) := by decide +kernel
theorem dX4_clear_5 : decode cX4_clear 5 = .ok (.aload_n 0, 1) := by decide +kernel
theorem dX4_clear_6 : decode cX4_clear 6 = .ok (.iconst 0, 1) := by decide +kernel
theorem dX4_clear_7 : decode cX4_clear 7 = .ok (.putfield 59, 3) := by decide +kernel
theorem dX4_clear_10 : decode cX4_clear 10 = .ok (.iload_n 1, 1) := by decide +kernel
theorem dX4_clear_11 : decode cX4_clear 11 = .ok (.ireturn, 1) := by decide +kernel
set_option maxRecDepth 20000 in
theorem ggX4_bridge_X0_becomeAsAtFirst : GoodIn wsX4_bridge wsX0_becomeAsAtFirst := goodIn_r _ [12, 13, 14, 15, 16, 17, 18, 19, 20, 21, 195, 196, 197, 198, 199, 200, 201, 202, 203, 204, 205, 206] (by decide +kernel) (by decide +kernel)
set_option maxRecDepth 20000 in
theorem gX4_bridge_X0_becomeAsAtFirst : GoodIn wsX4_bridge (wsV RX4 63 RX0 yX0_becomeAsAtFirst wsX0_becomeAsAtFirst) := goodIn_app (goodIn_of _ (by decide +kernel)) ggX4_bridge_X0_becomeAsAtFirst
set_option maxRecDepth 20000 in
theorem ggX4_bridge_X1_readAll : GoodIn wsX4_bridge wsX1_readAll := goodIn_r _ [26, 27, 28, 29, 30, 31, 32, 33, 34, 35, 36, 37, 38, 25, 39, 40, 41, 42, 43, 44, 45, 46, 47, 48, 49, 50, 51, 52, 53, 54, 55, 56, 57, 58, 59, 60, 61, 62, 63, 64, 65, 66, 67, 68, 69, 70, 71, 72, 73, 74, 75, 76, 77, 78, 79, 80, 81, 82, 83, 84, 85, 86, 87, 88, 89, 90, 91, 92, 93, 94, 95, 96, 97, 98, 99, 100, 101, 102, 103, 104, 105, 106, 107, 108, 109, 110, 111, 112, 113, 114, 115, 116, 117, 118, 119, 120, 121, 122, 123, 124, 125, 126, 127, 128, 129, 130, 131, 132, 133, 134, 135, 136, 137, 138, 139, 11, 140, 18, 141, 142, 143, 144, 145, 146, 147, 148, 149, 150, 151, 152, 13, 14, 153, 154, 155, 156, 157, 158, 159, 160, 161, 162, 163, 164, 207, 208, 209, 210, 211, 212, 195, 196, 197, 198, 199, 200, 201, 202, 203, 204, 205, 206] (by decide +kernel) (by decide +kernel)
set_option maxRecDepth 20000 in
theorem gX4_bridge_X1_readAll : GoodIn wsX4_bridge (wsV RX4 66 RX1 yX1_readAll wsX1_readAll) := goodIn_app (goodIn_of _ (by decide +kernel)) ggX4_bridge_X1_readAll
set_option maxRecDepth 20000 in
theorem ggX4_bridge_X2_startAs : GoodIn wsX4_bridge wsX2_startAs := goodIn_r _ [169, 170, 171, 172, 173, 174, 175, 176, 177, 142, 143, 11, 144, 145, 146, 147, 148, 178, 179, 180, 168, 181, 182, 183, 159, 160, 213, 214, 215, 216, 217, 218, 219, 220, 195, 196, 197, 198, 199, 200, 201, 202, 203, 204, 205, 206] (by decide +kernel) (by decide +kernel)
set_option maxRecDepth 20000 in
theorem gX4_bridge_X2_startAs : GoodIn wsX4_bridge (wsV RX4 55 RX2 yX2_startAs wsX2_startAs) := goodIn_app (goodIn_of _ (by decide +kernel)) ggX4_bridge_X2_startAs
theorem dX4_bridge_0 : decode cX4_bridge 0 = .ok (.aload_n 0, 1) := by decide +kernel
theorem dX4_bridge_1 : decode cX4_bridge 1 = .ok (.getfield 20, 3) := by decide +kernel
theorem dX4_bridge_4 : decode cX4_bridge 4 = .ok (.invokevirtual 63, 3) := by decide +kernel
theorem dX4_bridge_7 : decode cX4_bridge 7 = .ok (.aload_n 0, 1) := by decide +kernel
theorem dX4_bridge_8 : decode cX4_bridge 8 = .ok (.getfield 26, 3) := by decide +kernel
theorem dX4_bridge_11 : decode cX4_bridge 11 = .ok (.aload_n 0, 1) := by decide +kernel
theorem dX4_bridge_12 : decode cX4_bridge 12 = .ok (.getfield 9, 3) := by decide +kernel
theorem dX4_bridge_15 : decode cX4_bridge 15 = .ok (.aload_n 0, 1) := by decide +kernel
theorem dX4_bridge_16 : decode cX4_bridge 16 = .ok (.getfield 59, 3) := by decide +kernel
theorem dX4_bridge_19 : decode cX4_bridge 19 = .ok (.aload_n 0, 1) := by decide +kernel
theorem dX4_bridge_20 : decode cX4_bridge 20 = .ok (.getfield 20, 3) := by decide +kernel
theorem dX4_bridge_23 : decode cX4_bridge 23 = .ok (.invokevirtual 66, 3) := by decide +kernel
theorem dX4_bridge_26 : decode cX4_bridge 26 = .ok (.istore_n 1, 1) := by decide +kernel
theorem dX4_bridge_27 : decode cX4_bridge 27 = .ok (.iload_n 1, 1) := by decide +kernel
theorem dX4_bridge_28 : decode cX4_bridge 28 = .ok (.ifCond .ge 5, 3) := by decide +kernel
theorem dX4_bridge_31 : decode cX4_bridge 31 = .ok (.iload_n 1, 1) := by decide +kernel
theorem dX4_bridge_32 : decode cX4_bridge 32 = .ok (.ireturn, 1) := by decide +kernel
theorem dX4_bridge_33 : decode cX4_bridge 33 = .ok (.aload_n 0, 1) := by decide +kernel
theorem dX4_bridge_34 : decode cX4_bridge 34 = .ok (.getfield 16, 3) := by decide +kernel
theorem dX4_bridge_37 : decode cX4_bridge 37 = .ok (.astore_n 2, 1) := by decide +kernel
theorem dX4_bridge_38 : decode cX4_bridge 38 = .ok (.aload_n 0, 1) := by decide +kernel
theorem dX4_bridge_39 : decode cX4_bridge 39 = .ok (.aload_n 0, 1) := by decide +kernel
theorem dX4_bridge_40 : decode cX4_bridge 40 = .ok (.getfield 20, 3) := by decide +kernel
theorem dX4_bridge_43 : decode cX4_bridge 43 = .ok (.putfield 16, 3) := by decide +kernel
theorem dX4_bridge_46 : decode cX4_bridge 46 = .ok (.aload_n 0, 1) := by decide +kernel
theorem dX4_bridge_47 : decode cX4_bridge 47 = .ok (.aload_n 2, 1) := by decide +kernel
theorem dX4_bridge_48 : decode cX4_bridge 48 = .ok (.putfield 20, 3) := by decide +kernel
theorem dX4_bridge_51 : decode cX4_bridge 51 = .ok (.aload_n 0, 1) := by decide +kernel
theorem dX4_bridge_52 : decode cX4_bridge 52 = .ok (.iconst 0, 1) := by decide +kernel
theorem dX4_bridge_53 : decode cX4_bridge 53 = .ok (.putfield 59, 3) := by decide +kernel
theorem dX4_bridge_56 : decode cX4_bridge 56 = .ok (.aload_n 0, 1) := by decide +kernel
theorem dX4_bridge_57 : decode cX4_bridge 57 = .ok (.getfield 33, 3) := by decide +kernel
theorem dX4_bridge_60 : decode cX4_bridge 60 = .ok (.aload_n 0, 1) := by decide +kernel
theorem dX4_bridge_61 : decode cX4_bridge 61 = .ok (.getfield 16, 3) := by decide +kernel
theorem dX4_bridge_64 : decode cX4_bridge 64 = .ok (.invokevirtual 55, 3) := by decide +kernel
theorem dX4_bridge_67 : decode cX4_bridge 67 = .ok (.iconst 0, 1) := by decide +kernel
theorem dX4_bridge_68 : decode cX4_bridge 68 = .ok (.istore_n 3, 1) := by decide +kernel
theorem dX4_bridge_69 : decode cX4_bridge 69 = .ok (.iload_n 3, 1) := by decide +kernel
theorem dX4_bridge_70 : decode cX4_bridge 70 = .ok (.aload_n 0, 1) := by decide +kernel
theorem dX4_bridge_71 : decode cX4_bridge 71 = .ok (.getfield 44, 3) := by decide +kernel
theorem dX4_bridge_74 : decode cX4_bridge 74 = .ok (.arraylength, 1) := by decide +kernel
theorem dX4_bridge_75 : decode cX4_bridge 75 = .ok (.if_icmp .ge 16, 3) := by decide +kernel
theorem dX4_bridge_78 : decode cX4_bridge 78 = .ok (.aload_n 0, 1) := by decide +kernel
theorem dX4_bridge_79 : decode cX4_bridge 79 = .ok (.getfield 44, 3) := by decide +kernel
theorem dX4_bridge_82 : decode cX4_bridge 82 = .ok (.iload_n 3, 1) := by decide +kernel
theorem dX4_bridge_83 : decode cX4_bridge 83 = .ok (.iconst 0, 1) := by decide +kernel
theorem dX4_bridge_84 : decode cX4_bridge 84 = .ok (.bastore, 1) := by decide +kernel
theorem dX4_bridge_85 : decode cX4_bridge 85 = .ok (.iinc 3 1, 3) := by decide +kernel
theorem dX4_bridge_88 : decode cX4_bridge 88 = .ok (.goto (-19), 3) := by decide +kernel
theorem dX4_bridge_91 : decode cX4_bridge 91 = .ok (.iload_n 1, 1) := by decide +kernel
theorem dX4_bridge_92 : decode cX4_bridge 92 = .ok (.ireturn, 1) := by decide +kernel
set_option maxRecDepth 20000 in
theorem ggX4_cat_X4_isCat : GoodIn wsX4_cat wsX4_isCat := goodIn_r _ [7, 2, 8, 34, 35, 36, 37, 38, 39, 40, 41, 42, 43, 44, 45, 46, 47, 48, 49, 50, 51, 52, 53, 54, 55, 56] (by decide +kernel) (by decide +kernel)
set_option maxRecDepth 20000 in
theorem gX4_cat_X4_isCat : GoodIn wsX4_cat (wsV RX4 70 RX4 yX4_isCat wsX4_isCat) := goodIn_app (goodIn_of _ (by decide +kernel)) ggX4_cat_X4_isCat
set_option maxRecDepth 20000 in
theorem ggX4_cat_X2_cellOf : GoodIn wsX4_cat wsX2_cellOf := goodIn_r _ [13, 14, 15, 6, 16, 57, 58, 59, 60, 61, 62, 63, 64] (by decide +kernel) (by decide +kernel)
set_option maxRecDepth 20000 in
theorem gX4_cat_X2_cellOf : GoodIn wsX4_cat (wsV RX4 74 RX2 yX2_cellOf wsX2_cellOf) := goodIn_app (goodIn_of _ (by decide +kernel)) ggX4_cat_X2_cellOf
set_option maxRecDepth 20000 in
theorem ggX4_cat_X0_habitOf : GoodIn wsX4_cat wsX0_habitOf := goodIn_r _ [21, 22, 23, 15, 6, 16, 45, 46, 47, 48, 49, 50, 51, 52, 53, 54, 55, 56] (by decide +kernel) (by decide +kernel)
set_option maxRecDepth 20000 in
theorem gX4_cat_X0_habitOf : GoodIn wsX4_cat (wsV RX4 78 RX0 yX0_habitOf wsX0_habitOf) := goodIn_app (goodIn_of _ (by decide +kernel)) ggX4_cat_X0_habitOf
set_option maxRecDepth 20000 in
theorem ggX4_cat_X0_leaderOf : GoodIn wsX4_cat wsX0_leaderOf := goodIn_r _ [27, 28, 15, 6, 16, 45, 46, 47, 48, 49, 50, 51, 52, 53, 54, 55, 56] (by decide +kernel) (by decide +kernel)
set_option maxRecDepth 20000 in
theorem gX4_cat_X0_leaderOf : GoodIn wsX4_cat (wsV RX4 81 RX0 yX0_leaderOf wsX0_leaderOf) := goodIn_app (goodIn_of _ (by decide +kernel)) ggX4_cat_X0_leaderOf
set_option maxRecDepth 20000 in
theorem ggX4_cat_X2_eatenBy : GoodIn wsX4_cat wsX2_eatenBy := goodIn_r _ [32, 33, 15, 6, 16, 57, 58, 59, 60, 61, 62, 63, 64] (by decide +kernel) (by decide +kernel)
set_option maxRecDepth 20000 in
theorem gX4_cat_X2_eatenBy : GoodIn wsX4_cat (wsV RX4 84 RX2 yX2_eatenBy wsX2_eatenBy) := goodIn_app (goodIn_of _ (by decide +kernel)) ggX4_cat_X2_eatenBy
theorem dX4_cat_0 : decode cX4_cat 0 = .ok (.aload_n 0, 1) := by decide +kernel
theorem dX4_cat_1 : decode cX4_cat 1 = .ok (.iload_n 1, 1) := by decide +kernel
theorem dX4_cat_2 : decode cX4_cat 2 = .ok (.invokevirtual 70, 3) := by decide +kernel
theorem dX4_cat_5 : decode cX4_cat 5 = .ok (.ifCond .eq 12, 3) := by decide +kernel
theorem dX4_cat_8 : decode cX4_cat 8 = .ok (.iload_n 2, 1) := by decide +kernel
theorem dX4_cat_9 : decode cX4_cat 9 = .ok (.ifCond .lt 8, 3) := by decide +kernel
theorem dX4_cat_12 : decode cX4_cat 12 = .ok (.iload_n 2, 1) := by decide +kernel
theorem dX4_cat_13 : decode cX4_cat 13 = .ok (.iconst 3, 1) := by decide +kernel
theorem dX4_cat_14 : decode cX4_cat 14 = .ok (.if_icmp .le 5, 3) := by decide +kernel
theorem dX4_cat_17 : decode cX4_cat 17 = .ok (.iconst (-1), 1) := by decide +kernel
theorem dX4_cat_18 : decode cX4_cat 18 = .ok (.ireturn, 1) := by decide +kernel
theorem dX4_cat_19 : decode cX4_cat 19 = .ok (.iload_n 2, 1) := by decide +kernel
theorem dX4_cat_20 : decode cX4_cat 20 = .ok (.tableswitch 72 0 2 #[28, 37, 46], 28) := by decide +kernel
theorem dX4_cat_48 : decode cX4_cat 48 = .ok (.aload_n 0, 1) := by decide +kernel
theorem dX4_cat_49 : decode cX4_cat 49 = .ok (.getfield 33, 3) := by decide +kernel
theorem dX4_cat_52 : decode cX4_cat 52 = .ok (.iload_n 1, 1) := by decide +kernel
theorem dX4_cat_53 : decode cX4_cat 53 = .ok (.invokevirtual 74, 3) := by decide +kernel
theorem dX4_cat_56 : decode cX4_cat 56 = .ok (.ireturn, 1) := by decide +kernel
theorem dX4_cat_57 : decode cX4_cat 57 = .ok (.aload_n 0, 1) := by decide +kernel
theorem dX4_cat_58 : decode cX4_cat 58 = .ok (.getfield 16, 3) := by decide +kernel
theorem dX4_cat_61 : decode cX4_cat 61 = .ok (.iload_n 1, 1) := by decide +kernel
theorem dX4_cat_62 : decode cX4_cat 62 = .ok (.invokevirtual 78, 3) := by decide +kernel
theorem dX4_cat_65 : decode cX4_cat 65 = .ok (.ireturn, 1) := by decide +kernel
theorem dX4_cat_66 : decode cX4_cat 66 = .ok (.aload_n 0, 1) := by decide +kernel
theorem dX4_cat_67 : decode cX4_cat 67 = .ok (.getfield 16, 3) := by decide +kernel
theorem dX4_cat_70 : decode cX4_cat 70 = .ok (.iload_n 1, 1) := by decide +kernel
theorem dX4_cat_71 : decode cX4_cat 71 = .ok (.invokevirtual 78, 3) := by decide +kernel
theorem dX4_cat_74 : decode cX4_cat 74 = .ok (.iconst 3, 1) := by decide +kernel
theorem dX4_cat_75 : decode cX4_cat 75 = .ok (.if_icmp .ne 14, 3) := by decide +kernel
theorem dX4_cat_78 : decode cX4_cat 78 = .ok (.aload_n 0, 1) := by decide +kernel
theorem dX4_cat_79 : decode cX4_cat 79 = .ok (.getfield 16, 3) := by decide +kernel
theorem dX4_cat_82 : decode cX4_cat 82 = .ok (.iload_n 1, 1) := by decide +kernel
theorem dX4_cat_83 : decode cX4_cat 83 = .ok (.invokevirtual 81, 3) := by decide +kernel
theorem dX4_cat_86 : decode cX4_cat 86 = .ok (.goto 5, 3) := by decide +kernel
theorem dX4_cat_89 : decode cX4_cat 89 = .ok (.bipush (-9), 2) := by decide +kernel
theorem dX4_cat_91 : decode cX4_cat 91 = .ok (.ireturn, 1) := by decide +kernel
theorem dX4_cat_92 : decode cX4_cat 92 = .ok (.aload_n 0, 1) := by decide +kernel
theorem dX4_cat_93 : decode cX4_cat 93 = .ok (.getfield 33, 3) := by decide +kernel
theorem dX4_cat_96 : decode cX4_cat 96 = .ok (.iload_n 1, 1) := by decide +kernel
theorem dX4_cat_97 : decode cX4_cat 97 = .ok (.invokevirtual 84, 3) := by decide +kernel
theorem dX4_cat_100 : decode cX4_cat 100 = .ok (.ireturn, 1) := by decide +kernel
set_option maxRecDepth 20000 in
theorem ggX4_cell_X0_isCell : GoodIn wsX4_cell wsX0_isCell := goodIn_r _ [9, 10, 11, 12, 8, 13, 14, 15, 52, 53, 54, 55, 56, 57, 58, 59, 60, 61, 62, 63] (by decide +kernel) (by decide +kernel)
set_option maxRecDepth 20000 in
theorem gX4_cell_X0_isCell : GoodIn wsX4_cell (wsV RX4 87 RX0 yX0_isCell wsX0_isCell) := goodIn_app (goodIn_of _ (by decide +kernel)) ggX4_cell_X0_isCell
set_option maxRecDepth 20000 in
theorem ggX4_cell_X2_catIn : GoodIn wsX4_cell wsX2_catIn := goodIn_r _ [20, 21, 22, 23, 24, 19, 25, 26, 27, 28, 29, 44, 45, 46, 47, 48, 49, 50, 51] (by decide +kernel) (by decide +kernel)
set_option maxRecDepth 20000 in
theorem gX4_cell_X2_catIn : GoodIn wsX4_cell (wsV RX4 90 RX2 yX2_catIn wsX2_catIn) := goodIn_app (goodIn_of _ (by decide +kernel)) ggX4_cell_X2_catIn
set_option maxRecDepth 20000 in
theorem ggX4_cell_X4_hasBit : GoodIn wsX4_cell wsX4_hasBit := goodIn_r _ [32] (by decide +kernel) (by decide +kernel)
set_option maxRecDepth 20000 in
theorem gX4_cell_X4_hasBit : GoodIn wsX4_cell (va_wsS RX4 96 yX4_hasBit wsX4_hasBit) := goodIn_app (goodIn_of _ (by decide +kernel)) ggX4_cell_X4_hasBit
theorem dX4_cell_0 : decode cX4_cell 0 = .ok (.aload_n 0, 1) := by decide +kernel
theorem dX4_cell_1 : decode cX4_cell 1 = .ok (.getfield 16, 3) := by decide +kernel
theorem dX4_cell_4 : decode cX4_cell 4 = .ok (.iload_n 1, 1) := by decide +kernel
theorem dX4_cell_5 : decode cX4_cell 5 = .ok (.invokevirtual 87, 3) := by decide +kernel
theorem dX4_cell_8 : decode cX4_cell 8 = .ok (.ifCond .eq 12, 3) := by decide +kernel
theorem dX4_cell_11 : decode cX4_cell 11 = .ok (.iload_n 2, 1) := by decide +kernel
theorem dX4_cell_12 : decode cX4_cell 12 = .ok (.ifCond .lt 8, 3) := by decide +kernel
theorem dX4_cell_15 : decode cX4_cell 15 = .ok (.iload_n 2, 1) := by decide +kernel
theorem dX4_cell_16 : decode cX4_cell 16 = .ok (.iconst 2, 1) := by decide +kernel
theorem dX4_cell_17 : decode cX4_cell 17 = .ok (.if_icmp .le 5, 3) := by decide +kernel
theorem dX4_cell_20 : decode cX4_cell 20 = .ok (.iconst (-1), 1) := by decide +kernel
theorem dX4_cell_21 : decode cX4_cell 21 = .ok (.ireturn, 1) := by decide +kernel
theorem dX4_cell_22 : decode cX4_cell 22 = .ok (.iload_n 2, 1) := by decide +kernel
theorem dX4_cell_23 : decode cX4_cell 23 = .ok (.lookupswitch 54 #[(0, 25), (1, 34)], 25) := by decide +kernel
theorem dX4_cell_48 : decode cX4_cell 48 = .ok (.aload_n 0, 1) := by decide +kernel
theorem dX4_cell_49 : decode cX4_cell 49 = .ok (.getfield 33, 3) := by decide +kernel
theorem dX4_cell_52 : decode cX4_cell 52 = .ok (.iload_n 1, 1) := by decide +kernel
theorem dX4_cell_53 : decode cX4_cell 53 = .ok (.invokevirtual 90, 3) := by decide +kernel
theorem dX4_cell_56 : decode cX4_cell 56 = .ok (.ireturn, 1) := by decide +kernel
theorem dX4_cell_57 : decode cX4_cell 57 = .ok (.aload_n 0, 1) := by decide +kernel
theorem dX4_cell_58 : decode cX4_cell 58 = .ok (.getfield 33, 3) := by decide +kernel
theorem dX4_cell_61 : decode cX4_cell 61 = .ok (.getfield 93, 3) := by decide +kernel
theorem dX4_cell_64 : decode cX4_cell 64 = .ok (.iload_n 1, 1) := by decide +kernel
theorem dX4_cell_65 : decode cX4_cell 65 = .ok (.invokestatic 96, 3) := by decide +kernel
theorem dX4_cell_68 : decode cX4_cell 68 = .ok (.ifCond .eq 7, 3) := by decide +kernel
theorem dX4_cell_71 : decode cX4_cell 71 = .ok (.iconst 1, 1) := by decide +kernel
theorem dX4_cell_72 : decode cX4_cell 72 = .ok (.goto 4, 3) := by decide +kernel
theorem dX4_cell_75 : decode cX4_cell 75 = .ok (.iconst 0, 1) := by decide +kernel
theorem dX4_cell_76 : decode cX4_cell 76 = .ok (.ireturn, 1) := by decide +kernel
theorem dX4_cell_77 : decode cX4_cell 77 = .ok (.aload_n 0, 1) := by decide +kernel
theorem dX4_cell_78 : decode cX4_cell 78 = .ok (.getfield 33, 3) := by decide +kernel
theorem dX4_cell_81 : decode cX4_cell 81 = .ok (.getfield 100, 3) := by decide +kernel
theorem dX4_cell_84 : decode cX4_cell 84 = .ok (.iload_n 1, 1) := by decide +kernel
theorem dX4_cell_85 : decode cX4_cell 85 = .ok (.if_icmp .ne 7, 3) := by decide +kernel
theorem dX4_cell_88 : decode cX4_cell 88 = .ok (.iconst 1, 1) := by decide +kernel
theorem dX4_cell_89 : decode cX4_cell 89 = .ok (.goto 4, 3) := by decide +kernel
theorem dX4_cell_92 : decode cX4_cell 92 = .ok (.iconst 0, 1) := by decide +kernel
theorem dX4_cell_93 : decode cX4_cell 93 = .ok (.ireturn, 1) := by decide +kernel
set_option maxRecDepth 20000 in
theorem ggX4_now_X0_sunColumn : GoodIn wsX4_now wsX0_sunColumn := goodIn_r _ [12, 13, 14, 15, 35, 36, 37, 38, 39, 40, 41, 42, 43, 44, 45, 46] (by decide +kernel) (by decide +kernel)
set_option maxRecDepth 20000 in
theorem gX4_now_X0_sunColumn : GoodIn wsX4_now (wsV RX4 106 RX0 yX0_sunColumn wsX0_sunColumn) := goodIn_app (goodIn_of _ (by decide +kernel)) ggX4_now_X0_sunColumn
theorem dX4_now_0 : decode cX4_now 0 = .ok (.iload_n 1, 1) := by decide +kernel
theorem dX4_now_1 : decode cX4_now 1 = .ok (.tableswitch 94 0 5 #[39, 54, 62, 70, 78, 86], 39) := by decide +kernel
theorem dX4_now_40 : decode cX4_now 40 = .ok (.aload_n 0, 1) := by decide +kernel
theorem dX4_now_41 : decode cX4_now 41 = .ok (.getfield 16, 3) := by decide +kernel
theorem dX4_now_44 : decode cX4_now 44 = .ok (.aload_n 0, 1) := by decide +kernel
theorem dX4_now_45 : decode cX4_now 45 = .ok (.getfield 33, 3) := by decide +kernel
theorem dX4_now_48 : decode cX4_now 48 = .ok (.getfield 103, 3) := by decide +kernel
theorem dX4_now_51 : decode cX4_now 51 = .ok (.invokevirtual 106, 3) := by decide +kernel
theorem dX4_now_54 : decode cX4_now 54 = .ok (.ireturn, 1) := by decide +kernel
theorem dX4_now_55 : decode cX4_now 55 = .ok (.aload_n 0, 1) := by decide +kernel
theorem dX4_now_56 : decode cX4_now 56 = .ok (.getfield 16, 3) := by decide +kernel
theorem dX4_now_59 : decode cX4_now 59 = .ok (.getfield 109, 3) := by decide +kernel
theorem dX4_now_62 : decode cX4_now 62 = .ok (.ireturn, 1) := by decide +kernel
theorem dX4_now_63 : decode cX4_now 63 = .ok (.aload_n 0, 1) := by decide +kernel
theorem dX4_now_64 : decode cX4_now 64 = .ok (.getfield 16, 3) := by decide +kernel
theorem dX4_now_67 : decode cX4_now 67 = .ok (.getfield 112, 3) := by decide +kernel
theorem dX4_now_70 : decode cX4_now 70 = .ok (.ireturn, 1) := by decide +kernel
theorem dX4_now_71 : decode cX4_now 71 = .ok (.aload_n 0, 1) := by decide +kernel
theorem dX4_now_72 : decode cX4_now 72 = .ok (.getfield 33, 3) := by decide +kernel
theorem dX4_now_75 : decode cX4_now 75 = .ok (.getfield 103, 3) := by decide +kernel
theorem dX4_now_78 : decode cX4_now 78 = .ok (.ireturn, 1) := by decide +kernel
theorem dX4_now_79 : decode cX4_now 79 = .ok (.aload_n 0, 1) := by decide +kernel
theorem dX4_now_80 : decode cX4_now 80 = .ok (.getfield 33, 3) := by decide +kernel
theorem dX4_now_83 : decode cX4_now 83 = .ok (.getfield 100, 3) := by decide +kernel
theorem dX4_now_86 : decode cX4_now 86 = .ok (.ireturn, 1) := by decide +kernel
theorem dX4_now_87 : decode cX4_now 87 = .ok (.aload_n 0, 1) := by decide +kernel
theorem dX4_now_88 : decode cX4_now 88 = .ok (.getfield 33, 3) := by decide +kernel
theorem dX4_now_91 : decode cX4_now 91 = .ok (.getfield 115, 3) := by decide +kernel
theorem dX4_now_94 : decode cX4_now 94 = .ok (.ireturn, 1) := by decide +kernel
theorem dX4_now_95 : decode cX4_now 95 = .ok (.iconst (-1), 1) := by decide +kernel
theorem dX4_now_96 : decode cX4_now 96 = .ok (.ireturn, 1) := by decide +kernel
set_option maxRecDepth 20000 in
theorem ggX4_minutes_X2_passMinute : GoodIn wsX4_minutes wsX2_passMinute := goodIn_r _ [8, 9, 10, 11, 12, 13, 14, 15, 16, 7, 17, 18, 19, 20, 21, 22, 23, 24, 25, 26, 27, 28, 29, 30, 31, 32, 33, 34, 35, 36, 37, 38, 39, 40, 41, 42, 43, 44, 45, 46, 47, 48, 49, 50, 51, 52, 53, 54, 55, 56, 57, 58, 59, 60, 61, 62, 63, 64, 65, 66, 67, 68, 69, 70, 71, 72, 73, 74, 75, 76, 77, 78, 79, 80, 81, 82, 83, 84, 85, 97, 98, 99, 100, 101, 102, 103, 104, 105, 106, 107, 108, 109, 110, 111, 112, 113, 114, 115, 116] (by decide +kernel) (by decide +kernel)
set_option maxRecDepth 20000 in
theorem gX4_minutes_X2_passMinute : GoodIn wsX4_minutes (wsV RX4 118 RX2 yX2_passMinute wsX2_passMinute) := goodIn_app (goodIn_of _ (by decide +kernel)) ggX4_minutes_X2_passMinute
theorem dX4_minutes_0 : decode cX4_minutes 0 = .ok (.iload_n 1, 1) := by decide +kernel
theorem dX4_minutes_1 : decode cX4_minutes 1 = .ok (.iconst 1, 1) := by decide +kernel
theorem dX4_minutes_2 : decode cX4_minutes 2 = .ok (.if_icmp .lt 9, 3) := by decide +kernel
theorem dX4_minutes_5 : decode cX4_minutes 5 = .ok (.iload_n 1, 1) := by decide +kernel
theorem dX4_minutes_6 : decode cX4_minutes 6 = .ok (.bipush 40, 2) := by decide +kernel
theorem dX4_minutes_8 : decode cX4_minutes 8 = .ok (.if_icmp .le 5, 3) := by decide +kernel
theorem dX4_minutes_11 : decode cX4_minutes 11 = .ok (.iconst (-1), 1) := by decide +kernel
theorem dX4_minutes_12 : decode cX4_minutes 12 = .ok (.ireturn, 1) := by decide +kernel
theorem dX4_minutes_13 : decode cX4_minutes 13 = .ok (.aload_n 0, 1) := by decide +kernel
theorem dX4_minutes_14 : decode cX4_minutes 14 = .ok (.getfield 33, 3) := by decide +kernel
theorem dX4_minutes_17 : decode cX4_minutes 17 = .ok (.getfield 103, 3) := by decide +kernel
theorem dX4_minutes_20 : decode cX4_minutes 20 = .ok (.iload_n 1, 1) := by decide +kernel
theorem dX4_minutes_21 : decode cX4_minutes 21 = .ok (.iadd, 1) := by decide +kernel
theorem dX4_minutes_22 : decode cX4_minutes 22 = .ok (.sipush 199, 3) := by decide +kernel
theorem dX4_minutes_25 : decode cX4_minutes 25 = .ok (.if_icmp .le 6, 3) := by decide +kernel
theorem dX4_minutes_28 : decode cX4_minutes 28 = .ok (.bipush (-2), 2) := by decide +kernel
theorem dX4_minutes_30 : decode cX4_minutes 30 = .ok (.ireturn, 1) := by decide +kernel
theorem dX4_minutes_31 : decode cX4_minutes 31 = .ok (.iconst 0, 1) := by decide +kernel
theorem dX4_minutes_32 : decode cX4_minutes 32 = .ok (.istore_n 2, 1) := by decide +kernel
theorem dX4_minutes_33 : decode cX4_minutes 33 = .ok (.iconst 0, 1) := by decide +kernel
theorem dX4_minutes_34 : decode cX4_minutes 34 = .ok (.istore_n 3, 1) := by decide +kernel
theorem dX4_minutes_35 : decode cX4_minutes 35 = .ok (.iload_n 3, 1) := by decide +kernel
theorem dX4_minutes_36 : decode cX4_minutes 36 = .ok (.iload_n 1, 1) := by decide +kernel
theorem dX4_minutes_37 : decode cX4_minutes 37 = .ok (.if_icmp .ge 23, 3) := by decide +kernel
theorem dX4_minutes_40 : decode cX4_minutes 40 = .ok (.iload_n 2, 1) := by decide +kernel
theorem dX4_minutes_41 : decode cX4_minutes 41 = .ok (.aload_n 0, 1) := by decide +kernel
theorem dX4_minutes_42 : decode cX4_minutes 42 = .ok (.getfield 33, 3) := by decide +kernel
theorem dX4_minutes_45 : decode cX4_minutes 45 = .ok (.aload_n 0, 1) := by decide +kernel
theorem dX4_minutes_46 : decode cX4_minutes 46 = .ok (.getfield 16, 3) := by decide +kernel
theorem dX4_minutes_49 : decode cX4_minutes 49 = .ok (.invokevirtual 118, 3) := by decide +kernel
theorem dX4_minutes_52 : decode cX4_minutes 52 = .ok (.iadd, 1) := by decide +kernel
theorem dX4_minutes_53 : decode cX4_minutes 53 = .ok (.istore_n 2, 1) := by decide +kernel
theorem dX4_minutes_54 : decode cX4_minutes 54 = .ok (.iinc 3 1, 3) := by decide +kernel
theorem dX4_minutes_57 : decode cX4_minutes 57 = .ok (.goto (-22), 3) := by decide +kernel
theorem dX4_minutes_60 : decode cX4_minutes 60 = .ok (.iload_n 2, 1) := by decide +kernel
theorem dX4_minutes_61 : decode cX4_minutes 61 = .ok (.ireturn, 1) := by decide +kernel
set_option maxRecDepth 20000 in
theorem ggX4_drop_X0_isCell : GoodIn wsX4_drop wsX0_isCell := goodIn_r _ [9, 10, 11, 12, 8, 13, 14, 15, 46, 47, 48, 49, 50, 51, 52, 53, 54, 55, 56, 57] (by decide +kernel) (by decide +kernel)
set_option maxRecDepth 20000 in
theorem gX4_drop_X0_isCell : GoodIn wsX4_drop (wsV RX4 87 RX0 yX0_isCell wsX0_isCell) := goodIn_app (goodIn_of _ (by decide +kernel)) ggX4_drop_X0_isCell
set_option maxRecDepth 20000 in
theorem ggX4_drop_X4_hasBit : GoodIn wsX4_drop wsX4_hasBit := goodIn_r _ [19] (by decide +kernel) (by decide +kernel)
set_option maxRecDepth 20000 in
theorem gX4_drop_X4_hasBit : GoodIn wsX4_drop (va_wsS RX4 96 yX4_hasBit wsX4_hasBit) := goodIn_app (goodIn_of _ (by decide +kernel)) ggX4_drop_X4_hasBit
set_option maxRecDepth 20000 in
theorem ggX4_drop_J6_bitCount_0f7a4 : GoodIn wsX4_drop wsJ6_bitCount_0f7a4 := goodIn_r _ [23, 24, 25, 26] (by decide +kernel) (by decide +kernel)
set_option maxRecDepth 20000 in
theorem gX4_drop_J6_bitCount_0f7a4 : GoodIn wsX4_drop (va_wsS RX4 125 yJ6_bitCount_0f7a4 wsJ6_bitCount_0f7a4) := goodIn_app (goodIn_of _ (by decide +kernel)) ggX4_drop_J6_bitCount_0f7a4
theorem dX4_drop_0 : decode cX4_drop 0 = .ok (.aload_n 0, 1) := by decide +kernel
theorem dX4_drop_1 : decode cX4_drop 1 = .ok (.getfield 16, 3) := by decide +kernel
theorem dX4_drop_4 : decode cX4_drop 4 = .ok (.iload_n 1, 1) := by decide +kernel
theorem dX4_drop_5 : decode cX4_drop 5 = .ok (.invokevirtual 87, 3) := by decide +kernel
theorem dX4_drop_8 : decode cX4_drop 8 = .ok (.ifCond .ne 5, 3) := by decide +kernel
theorem dX4_drop_11 : decode cX4_drop 11 = .ok (.iconst (-1), 1) := by decide +kernel
theorem dX4_drop_12 : decode cX4_drop 12 = .ok (.ireturn, 1) := by decide +kernel
theorem dX4_drop_13 : decode cX4_drop 13 = .ok (.aload_n 0, 1) := by decide +kernel
theorem dX4_drop_14 : decode cX4_drop 14 = .ok (.getfield 33, 3) := by decide +kernel
theorem dX4_drop_17 : decode cX4_drop 17 = .ok (.getfield 93, 3) := by decide +kernel
theorem dX4_drop_20 : decode cX4_drop 20 = .ok (.iload_n 1, 1) := by decide +kernel
theorem dX4_drop_21 : decode cX4_drop 21 = .ok (.invokestatic 96, 3) := by decide +kernel
theorem dX4_drop_24 : decode cX4_drop 24 = .ok (.ifCond .ne 17, 3) := by decide +kernel
theorem dX4_drop_27 : decode cX4_drop 27 = .ok (.aload_n 0, 1) := by decide +kernel
theorem dX4_drop_28 : decode cX4_drop 28 = .ok (.getfield 33, 3) := by decide +kernel
theorem dX4_drop_31 : decode cX4_drop 31 = .ok (.getfield 122, 3) := by decide +kernel
theorem dX4_drop_34 : decode cX4_drop 34 = .ok (.iload_n 1, 1) := by decide +kernel
theorem dX4_drop_35 : decode cX4_drop 35 = .ok (.invokestatic 96, 3) := by decide +kernel
theorem dX4_drop_38 : decode cX4_drop 38 = .ok (.ifCond .eq 6, 3) := by decide +kernel
theorem dX4_drop_41 : decode cX4_drop 41 = .ok (.bipush (-2), 2) := by decide +kernel
theorem dX4_drop_43 : decode cX4_drop 43 = .ok (.ireturn, 1) := by decide +kernel
theorem dX4_drop_44 : decode cX4_drop 44 = .ok (.aload_n 0, 1) := by decide +kernel
theorem dX4_drop_45 : decode cX4_drop 45 = .ok (.getfield 33, 3) := by decide +kernel
theorem dX4_drop_48 : decode cX4_drop 48 = .ok (.getfield 93, 3) := by decide +kernel
theorem dX4_drop_51 : decode cX4_drop 51 = .ok (.invokestatic 125, 3) := by decide +kernel
theorem dX4_drop_54 : decode cX4_drop 54 = .ok (.iconst 4, 1) := by decide +kernel
theorem dX4_drop_55 : decode cX4_drop 55 = .ok (.if_icmp .lt 6, 3) := by decide +kernel
theorem dX4_drop_58 : decode cX4_drop 58 = .ok (.bipush (-3), 2) := by decide +kernel
theorem dX4_drop_60 : decode cX4_drop 60 = .ok (.ireturn, 1) := by decide +kernel
theorem dX4_drop_61 : decode cX4_drop 61 = .ok (.aload_n 0, 1) := by decide +kernel
theorem dX4_drop_62 : decode cX4_drop 62 = .ok (.getfield 33, 3) := by decide +kernel
theorem dX4_drop_65 : decode cX4_drop 65 = .ok (.dup, 1) := by decide +kernel
theorem dX4_drop_66 : decode cX4_drop 66 = .ok (.getfield 93, 3) := by decide +kernel
theorem dX4_drop_69 : decode cX4_drop 69 = .ok (.iconst 1, 1) := by decide +kernel
theorem dX4_drop_70 : decode cX4_drop 70 = .ok (.iload_n 1, 1) := by decide +kernel
theorem dX4_drop_71 : decode cX4_drop 71 = .ok (.ishl, 1) := by decide +kernel
theorem dX4_drop_72 : decode cX4_drop 72 = .ok (.ior, 1) := by decide +kernel
theorem dX4_drop_73 : decode cX4_drop 73 = .ok (.putfield 93, 3) := by decide +kernel
theorem dX4_drop_76 : decode cX4_drop 76 = .ok (.aload_n 0, 1) := by decide +kernel
theorem dX4_drop_77 : decode cX4_drop 77 = .ok (.getfield 33, 3) := by decide +kernel
theorem dX4_drop_80 : decode cX4_drop 80 = .ok (.getfield 93, 3) := by decide +kernel
theorem dX4_drop_83 : decode cX4_drop 83 = .ok (.invokestatic 125, 3) := by decide +kernel
theorem dX4_drop_86 : decode cX4_drop 86 = .ok (.ireturn, 1) := by decide +kernel
set_option maxRecDepth 20000 in
theorem ggX4_enter_X4_hasBit : GoodIn wsX4_enter wsX4_hasBit := goodIn_r _ [11] (by decide +kernel) (by decide +kernel)
set_option maxRecDepth 20000 in
theorem gX4_enter_X4_hasBit : GoodIn wsX4_enter (va_wsS RX4 96 yX4_hasBit wsX4_hasBit) := goodIn_app (goodIn_of _ (by decide +kernel)) ggX4_enter_X4_hasBit
set_option maxRecDepth 20000 in
theorem ggX4_enter_X2_passMinute : GoodIn wsX4_enter wsX2_passMinute := goodIn_r _ [16, 17, 18, 19, 20, 21, 22, 23, 24, 15, 25, 26, 10, 27, 28, 29, 30, 31, 32, 33, 34, 35, 36, 37, 38, 39, 40, 41, 42, 43, 44, 45, 46, 47, 48, 49, 50, 51, 52, 53, 54, 55, 56, 57, 58, 59, 60, 61, 62, 9, 11, 63, 64, 65, 66, 67, 68, 69, 70, 71, 72, 73, 74, 75, 76, 77, 78, 79, 80, 81, 82, 83, 84, 85, 86, 87, 88, 89, 90, 114, 115, 116, 117, 118, 119, 120, 121, 102, 103, 104, 105, 106, 107, 108, 109, 110, 111, 112, 113] (by decide +kernel) (by decide +kernel)
set_option maxRecDepth 20000 in
theorem gX4_enter_X2_passMinute : GoodIn wsX4_enter (wsV RX4 118 RX2 yX2_passMinute wsX2_passMinute) := goodIn_app (goodIn_of _ (by decide +kernel)) ggX4_enter_X2_passMinute
theorem dX4_enter_0 : decode cX4_enter 0 = .ok (.iload_n 1, 1) := by decide +kernel
theorem dX4_enter_1 : decode cX4_enter 1 = .ok (.ifCond .lt 14, 3) := by decide +kernel
theorem dX4_enter_4 : decode cX4_enter 4 = .ok (.iload_n 1, 1) := by decide +kernel
theorem dX4_enter_5 : decode cX4_enter 5 = .ok (.aload_n 0, 1) := by decide +kernel
theorem dX4_enter_6 : decode cX4_enter 6 = .ok (.getfield 16, 3) := by decide +kernel
theorem dX4_enter_9 : decode cX4_enter 9 = .ok (.getfield 130, 3) := by decide +kernel
theorem dX4_enter_12 : decode cX4_enter 12 = .ok (.if_icmp .lt 5, 3) := by decide +kernel
theorem dX4_enter_15 : decode cX4_enter 15 = .ok (.iconst (-1), 1) := by decide +kernel
theorem dX4_enter_16 : decode cX4_enter 16 = .ok (.ireturn, 1) := by decide +kernel
theorem dX4_enter_17 : decode cX4_enter 17 = .ok (.iload_n 1, 1) := by decide +kernel
theorem dX4_enter_18 : decode cX4_enter 18 = .ok (.aload_n 0, 1) := by decide +kernel
theorem dX4_enter_19 : decode cX4_enter 19 = .ok (.getfield 16, 3) := by decide +kernel
theorem dX4_enter_22 : decode cX4_enter 22 = .ok (.getfield 133, 3) := by decide +kernel
theorem dX4_enter_25 : decode cX4_enter 25 = .ok (.imul, 1) := by decide +kernel
theorem dX4_enter_26 : decode cX4_enter 26 = .ok (.istore_n 2, 1) := by decide +kernel
theorem dX4_enter_27 : decode cX4_enter 27 = .ok (.aload_n 0, 1) := by decide +kernel
theorem dX4_enter_28 : decode cX4_enter 28 = .ok (.getfield 33, 3) := by decide +kernel
theorem dX4_enter_31 : decode cX4_enter 31 = .ok (.getfield 100, 3) := by decide +kernel
theorem dX4_enter_34 : decode cX4_enter 34 = .ok (.bipush (-9), 2) := by decide +kernel
theorem dX4_enter_36 : decode cX4_enter 36 = .ok (.if_icmp .ne 30, 3) := by decide +kernel
theorem dX4_enter_39 : decode cX4_enter 39 = .ok (.aload_n 0, 1) := by decide +kernel
theorem dX4_enter_40 : decode cX4_enter 40 = .ok (.getfield 33, 3) := by decide +kernel
theorem dX4_enter_43 : decode cX4_enter 43 = .ok (.getfield 122, 3) := by decide +kernel
theorem dX4_enter_46 : decode cX4_enter 46 = .ok (.iload_n 2, 1) := by decide +kernel
theorem dX4_enter_47 : decode cX4_enter 47 = .ok (.invokestatic 96, 3) := by decide +kernel
theorem dX4_enter_50 : decode cX4_enter 50 = .ok (.ifCond .ne 16, 3) := by decide +kernel
theorem dX4_enter_53 : decode cX4_enter 53 = .ok (.aload_n 0, 1) := by decide +kernel
theorem dX4_enter_54 : decode cX4_enter 54 = .ok (.getfield 33, 3) := by decide +kernel
theorem dX4_enter_57 : decode cX4_enter 57 = .ok (.getfield 103, 3) := by decide +kernel
theorem dX4_enter_60 : decode cX4_enter 60 = .ok (.sipush 199, 3) := by decide +kernel
theorem dX4_enter_63 : decode cX4_enter 63 = .ok (.if_icmp .lt 6, 3) := by decide +kernel
theorem dX4_enter_66 : decode cX4_enter 66 = .ok (.bipush (-2), 2) := by decide +kernel
theorem dX4_enter_68 : decode cX4_enter 68 = .ok (.ireturn, 1) := by decide +kernel
theorem dX4_enter_69 : decode cX4_enter 69 = .ok (.aload_n 0, 1) := by decide +kernel
theorem dX4_enter_70 : decode cX4_enter 70 = .ok (.getfield 33, 3) := by decide +kernel
theorem dX4_enter_73 : decode cX4_enter 73 = .ok (.iload_n 2, 1) := by decide +kernel
theorem dX4_enter_74 : decode cX4_enter 74 = .ok (.putfield 100, 3) := by decide +kernel
theorem dX4_enter_77 : decode cX4_enter 77 = .ok (.aload_n 0, 1) := by decide +kernel
theorem dX4_enter_78 : decode cX4_enter 78 = .ok (.getfield 33, 3) := by decide +kernel
theorem dX4_enter_81 : decode cX4_enter 81 = .ok (.aload_n 0, 1) := by decide +kernel
theorem dX4_enter_82 : decode cX4_enter 82 = .ok (.getfield 16, 3) := by decide +kernel
theorem dX4_enter_85 : decode cX4_enter 85 = .ok (.invokevirtual 118, 3) := by decide +kernel
theorem dX4_enter_88 : decode cX4_enter 88 = .ok (.pop, 1) := by decide +kernel
theorem dX4_enter_89 : decode cX4_enter 89 = .ok (.aload_n 0, 1) := by decide +kernel
theorem dX4_enter_90 : decode cX4_enter 90 = .ok (.getfield 33, 3) := by decide +kernel
theorem dX4_enter_93 : decode cX4_enter 93 = .ok (.getfield 100, 3) := by decide +kernel
theorem dX4_enter_96 : decode cX4_enter 96 = .ok (.ireturn, 1) := by decide +kernel
set_option maxRecDepth 20000 in
theorem ggX4_move_X0_cellBy : GoodIn wsX4_move wsX0_cellBy := goodIn_r _ [11, 12, 13, 14, 15, 10, 16, 17, 18, 19, 20, 21, 118, 119, 120, 121, 122, 123, 124, 125, 126, 127, 128, 129] (by decide +kernel) (by decide +kernel)
set_option maxRecDepth 20000 in
theorem gX4_move_X0_cellBy : GoodIn wsX4_move (wsV RX4 136 RX0 yX0_cellBy wsX0_cellBy) := goodIn_app (goodIn_of _ (by decide +kernel)) ggX4_move_X0_cellBy
set_option maxRecDepth 20000 in
theorem ggX4_move_X4_hasBit : GoodIn wsX4_move wsX4_hasBit := goodIn_r _ [25] (by decide +kernel) (by decide +kernel)
set_option maxRecDepth 20000 in
theorem gX4_move_X4_hasBit : GoodIn wsX4_move (va_wsS RX4 96 yX4_hasBit wsX4_hasBit) := goodIn_app (goodIn_of _ (by decide +kernel)) ggX4_move_X4_hasBit
set_option maxRecDepth 20000 in
theorem ggX4_move_X2_passMinute : GoodIn wsX4_move wsX2_passMinute := goodIn_r _ [30, 31, 32, 33, 34, 35, 36, 37, 38, 29, 39, 40, 24, 41, 42, 43, 44, 45, 46, 47, 48, 10, 49, 50, 51, 52, 53, 54, 55, 12, 56, 57, 58, 59, 60, 61, 13, 14, 15, 16, 62, 63, 64, 65, 66, 67, 68, 69, 70, 23, 25, 71, 72, 73, 74, 75, 76, 77, 78, 79, 80, 81, 82, 83, 84, 85, 86, 87, 88, 89, 90, 91, 92, 93, 94, 95, 96, 97, 98, 110, 111, 112, 113, 114, 115, 116, 117, 118, 119, 120, 121, 122, 123, 124, 125, 126, 127, 128, 129] (by decide +kernel) (by decide +kernel)
set_option maxRecDepth 20000 in
theorem gX4_move_X2_passMinute : GoodIn wsX4_move (wsV RX4 118 RX2 yX2_passMinute wsX2_passMinute) := goodIn_app (goodIn_of _ (by decide +kernel)) ggX4_move_X2_passMinute
theorem dX4_move_0 : decode cX4_move 0 = .ok (.iload_n 1, 1) := by decide +kernel
theorem dX4_move_1 : decode cX4_move 1 = .ok (.ifCond .lt 8, 3) := by decide +kernel
theorem dX4_move_4 : decode cX4_move 4 = .ok (.iload_n 1, 1) := by decide +kernel
theorem dX4_move_5 : decode cX4_move 5 = .ok (.iconst 4, 1) := by decide +kernel
theorem dX4_move_6 : decode cX4_move 6 = .ok (.if_icmp .le 5, 3) := by decide +kernel
theorem dX4_move_9 : decode cX4_move 9 = .ok (.iconst (-1), 1) := by decide +kernel
theorem dX4_move_10 : decode cX4_move 10 = .ok (.ireturn, 1) := by decide +kernel
theorem dX4_move_11 : decode cX4_move 11 = .ok (.aload_n 0, 1) := by decide +kernel
theorem dX4_move_12 : decode cX4_move 12 = .ok (.getfield 33, 3) := by decide +kernel
theorem dX4_move_15 : decode cX4_move 15 = .ok (.getfield 100, 3) := by decide +kernel
theorem dX4_move_18 : decode cX4_move 18 = .ok (.bipush (-9), 2) := by decide +kernel
theorem dX4_move_20 : decode cX4_move 20 = .ok (.if_icmp .eq 16, 3) := by decide +kernel
theorem dX4_move_23 : decode cX4_move 23 = .ok (.aload_n 0, 1) := by decide +kernel
theorem dX4_move_24 : decode cX4_move 24 = .ok (.getfield 33, 3) := by decide +kernel
theorem dX4_move_27 : decode cX4_move 27 = .ok (.getfield 103, 3) := by decide +kernel
theorem dX4_move_30 : decode cX4_move 30 = .ok (.sipush 199, 3) := by decide +kernel
theorem dX4_move_33 : decode cX4_move 33 = .ok (.if_icmp .lt 6, 3) := by decide +kernel
theorem dX4_move_36 : decode cX4_move 36 = .ok (.bipush (-2), 2) := by decide +kernel
theorem dX4_move_38 : decode cX4_move 38 = .ok (.ireturn, 1) := by decide +kernel
theorem dX4_move_39 : decode cX4_move 39 = .ok (.aload_n 0, 1) := by decide +kernel
theorem dX4_move_40 : decode cX4_move 40 = .ok (.getfield 16, 3) := by decide +kernel
theorem dX4_move_43 : decode cX4_move 43 = .ok (.aload_n 0, 1) := by decide +kernel
theorem dX4_move_44 : decode cX4_move 44 = .ok (.getfield 33, 3) := by decide +kernel
theorem dX4_move_47 : decode cX4_move 47 = .ok (.getfield 100, 3) := by decide +kernel
theorem dX4_move_50 : decode cX4_move 50 = .ok (.iload_n 1, 1) := by decide +kernel
theorem dX4_move_51 : decode cX4_move 51 = .ok (.invokevirtual 136, 3) := by decide +kernel
theorem dX4_move_54 : decode cX4_move 54 = .ok (.istore_n 2, 1) := by decide +kernel
theorem dX4_move_55 : decode cX4_move 55 = .ok (.iload_n 2, 1) := by decide +kernel
theorem dX4_move_56 : decode cX4_move 56 = .ok (.bipush (-9), 2) := by decide +kernel
theorem dX4_move_58 : decode cX4_move 58 = .ok (.if_icmp .ne 16, 3) := by decide +kernel
theorem dX4_move_61 : decode cX4_move 61 = .ok (.iload_n 1, 1) := by decide +kernel
theorem dX4_move_62 : decode cX4_move 62 = .ok (.ifCond .eq 8, 3) := by decide +kernel
theorem dX4_move_65 : decode cX4_move 65 = .ok (.iload_n 1, 1) := by decide +kernel
theorem dX4_move_66 : decode cX4_move 66 = .ok (.iconst 3, 1) := by decide +kernel
theorem dX4_move_67 : decode cX4_move 67 = .ok (.if_icmp .ne 7, 3) := by decide +kernel
theorem dX4_move_70 : decode cX4_move 70 = .ok (.iconst 1, 1) := by decide +kernel
theorem dX4_move_71 : decode cX4_move 71 = .ok (.goto 4, 3) := by decide +kernel
theorem dX4_move_74 : decode cX4_move 74 = .ok (.iconst 0, 1) := by decide +kernel
theorem dX4_move_75 : decode cX4_move 75 = .ok (.istore_n 3, 1) := by decide +kernel
theorem dX4_move_76 : decode cX4_move 76 = .ok (.iload_n 3, 1) := by decide +kernel
theorem dX4_move_77 : decode cX4_move 77 = .ok (.ifCond .ne 26, 3) := by decide +kernel
theorem dX4_move_80 : decode cX4_move 80 = .ok (.iload_n 2, 1) := by decide +kernel
theorem dX4_move_81 : decode cX4_move 81 = .ok (.bipush (-9), 2) := by decide +kernel
theorem dX4_move_83 : decode cX4_move 83 = .ok (.if_icmp .eq 17, 3) := by decide +kernel
theorem dX4_move_86 : decode cX4_move 86 = .ok (.aload_n 0, 1) := by decide +kernel
theorem dX4_move_87 : decode cX4_move 87 = .ok (.getfield 33, 3) := by decide +kernel
theorem dX4_move_90 : decode cX4_move 90 = .ok (.getfield 122, 3) := by decide +kernel
theorem dX4_move_93 : decode cX4_move 93 = .ok (.iload_n 2, 1) := by decide +kernel
theorem dX4_move_94 : decode cX4_move 94 = .ok (.invokestatic 96, 3) := by decide +kernel
theorem dX4_move_97 : decode cX4_move 97 = .ok (.ifCond .eq 6, 3) := by decide +kernel
theorem dX4_move_100 : decode cX4_move 100 = .ok (.bipush (-2), 2) := by decide +kernel
theorem dX4_move_102 : decode cX4_move 102 = .ok (.ireturn, 1) := by decide +kernel
theorem dX4_move_103 : decode cX4_move 103 = .ok (.iload_n 3, 1) := by decide +kernel
theorem dX4_move_104 : decode cX4_move 104 = .ok (.ifCond .eq 20, 3) := by decide +kernel
theorem dX4_move_107 : decode cX4_move 107 = .ok (.iload_n 1, 1) := by decide +kernel
theorem dX4_move_108 : decode cX4_move 108 = .ok (.ifCond .ne 16, 3) := by decide +kernel
theorem dX4_move_111 : decode cX4_move 111 = .ok (.aload_n 0, 1) := by decide +kernel
theorem dX4_move_112 : decode cX4_move 112 = .ok (.getfield 33, 3) := by decide +kernel
theorem dX4_move_115 : decode cX4_move 115 = .ok (.dup, 1) := by decide +kernel
theorem dX4_move_116 : decode cX4_move 116 = .ok (.getfield 115, 3) := by decide +kernel
theorem dX4_move_119 : decode cX4_move 119 = .ok (.iconst 1, 1) := by decide +kernel
theorem dX4_move_120 : decode cX4_move 120 = .ok (.iadd, 1) := by decide +kernel
theorem dX4_move_121 : decode cX4_move 121 = .ok (.putfield 115, 3) := by decide +kernel
theorem dX4_move_124 : decode cX4_move 124 = .ok (.aload_n 0, 1) := by decide +kernel
theorem dX4_move_125 : decode cX4_move 125 = .ok (.getfield 33, 3) := by decide +kernel
theorem dX4_move_128 : decode cX4_move 128 = .ok (.iload_n 2, 1) := by decide +kernel
theorem dX4_move_129 : decode cX4_move 129 = .ok (.putfield 100, 3) := by decide +kernel
theorem dX4_move_132 : decode cX4_move 132 = .ok (.aload_n 0, 1) := by decide +kernel
theorem dX4_move_133 : decode cX4_move 133 = .ok (.getfield 33, 3) := by decide +kernel
theorem dX4_move_136 : decode cX4_move 136 = .ok (.aload_n 0, 1) := by decide +kernel
theorem dX4_move_137 : decode cX4_move 137 = .ok (.getfield 16, 3) := by decide +kernel
theorem dX4_move_140 : decode cX4_move 140 = .ok (.invokevirtual 118, 3) := by decide +kernel
theorem dX4_move_143 : decode cX4_move 143 = .ok (.pop, 1) := by decide +kernel
theorem dX4_move_144 : decode cX4_move 144 = .ok (.aload_n 0, 1) := by decide +kernel
theorem dX4_move_145 : decode cX4_move 145 = .ok (.getfield 33, 3) := by decide +kernel
theorem dX4_move_148 : decode cX4_move 148 = .ok (.getfield 100, 3) := by decide +kernel
theorem dX4_move_151 : decode cX4_move 151 = .ok (.ireturn, 1) := by decide +kernel
set_option maxRecDepth 20000 in
theorem ggX4_at_X4_isCat : GoodIn wsX4_at wsX4_isCat := goodIn_r _ [6, 1, 7, 109, 110, 111, 112, 113, 114, 115, 116, 117, 118, 119, 120, 121, 122, 123, 124, 125, 126, 127, 128, 129, 130, 131] (by decide +kernel) (by decide +kernel)
set_option maxRecDepth 20000 in
theorem gX4_at_X4_isCat : GoodIn wsX4_at (wsV RX4 70 RX4 yX4_isCat wsX4_isCat) := goodIn_app (goodIn_of _ (by decide +kernel)) ggX4_at_X4_isCat
set_option maxRecDepth 20000 in
theorem ggX4_at_X4_sketchWith : GoodIn wsX4_at wsX4_sketchWith := goodIn_r _ [11, 12, 13, 14, 15, 16, 17, 18, 19, 20, 21, 22, 23, 24, 25, 26, 27, 28, 29, 30, 31, 32, 33, 34, 35, 5, 36, 37, 38, 39, 40, 41, 42, 43, 44, 45, 46, 47, 48, 109, 110, 111, 112, 113, 114, 115, 116, 117, 118, 119, 132, 133, 134, 135, 136, 137, 138, 139] (by decide +kernel) (by decide +kernel)
set_option maxRecDepth 20000 in
theorem gX4_at_X4_sketchWith : GoodIn wsX4_at (wsV RX4 140 RX4 yX4_sketchWith wsX4_sketchWith) := goodIn_app (goodIn_of _ (by decide +kernel)) ggX4_at_X4_sketchWith
set_option maxRecDepth 20000 in
theorem ggX4_at_X2_passMinute : GoodIn wsX4_at wsX2_passMinute := goodIn_r _ [52, 24, 19, 25, 29, 27, 31, 32, 33, 17, 34, 35, 5, 36, 53, 54, 55, 56, 57, 58, 59, 60, 61, 62, 63, 64, 65, 66, 67, 68, 69, 70, 71, 72, 73, 74, 75, 76, 77, 78, 79, 80, 81, 82, 83, 84, 85, 86, 26, 43, 44, 87, 88, 89, 90, 91, 92, 93, 94, 95, 96, 97, 98, 99, 100, 101, 102, 103, 37, 38, 104, 105, 106, 107, 30, 39, 40, 41, 42, 132, 133, 134, 135, 136, 137, 138, 139, 120, 121, 122, 123, 124, 125, 126, 127, 128, 129, 130, 131] (by decide +kernel) (by decide +kernel)
set_option maxRecDepth 20000 in
theorem gX4_at_X2_passMinute : GoodIn wsX4_at (wsV RX4 118 RX2 yX2_passMinute wsX2_passMinute) := goodIn_app (goodIn_of _ (by decide +kernel)) ggX4_at_X2_passMinute
set_option maxRecDepth 20000 in
theorem ggX4_at_X2_cellOf : GoodIn wsX4_at wsX2_cellOf := goodIn_r _ [34, 29, 35, 5, 36, 132, 133, 134, 135, 136, 137, 138, 139] (by decide +kernel) (by decide +kernel)
set_option maxRecDepth 20000 in
theorem gX4_at_X2_cellOf : GoodIn wsX4_at (wsV RX4 74 RX2 yX2_cellOf wsX2_cellOf) := goodIn_app (goodIn_of _ (by decide +kernel)) ggX4_at_X2_cellOf
theorem dX4_at_0 : decode cX4_at 0 = .ok (.aload_n 0, 1) := by decide +kernel
theorem dX4_at_1 : decode cX4_at 1 = .ok (.iload_n 1, 1) := by decide +kernel
theorem dX4_at_2 : decode cX4_at 2 = .ok (.invokevirtual 70, 3) := by decide +kernel
theorem dX4_at_5 : decode cX4_at 5 = .ok (.ifCond .eq 13, 3) := by decide +kernel
theorem dX4_at_8 : decode cX4_at 8 = .ok (.iload_n 2, 1) := by decide +kernel
theorem dX4_at_9 : decode cX4_at 9 = .ok (.ifCond .lt 9, 3) := by decide +kernel
theorem dX4_at_12 : decode cX4_at 12 = .ok (.iload_n 2, 1) := by decide +kernel
theorem dX4_at_13 : decode cX4_at 13 = .ok (.bipush 40, 2) := by decide +kernel
theorem dX4_at_15 : decode cX4_at 15 = .ok (.if_icmp .le 5, 3) := by decide +kernel
theorem dX4_at_18 : decode cX4_at 18 = .ok (.iconst (-1), 1) := by decide +kernel
theorem dX4_at_19 : decode cX4_at 19 = .ok (.ireturn, 1) := by decide +kernel
theorem dX4_at_20 : decode cX4_at 20 = .ok (.aload_n 0, 1) := by decide +kernel
theorem dX4_at_21 : decode cX4_at 21 = .ok (.iconst 0, 1) := by decide +kernel
theorem dX4_at_22 : decode cX4_at 22 = .ok (.invokevirtual 140, 3) := by decide +kernel
theorem dX4_at_25 : decode cX4_at 25 = .ok (.astore_n 3, 1) := by decide +kernel
theorem dX4_at_26 : decode cX4_at 26 = .ok (.iconst 0, 1) := by decide +kernel
theorem dX4_at_27 : decode cX4_at 27 = .ok (.istore 4, 2) := by decide +kernel
theorem dX4_at_29 : decode cX4_at 29 = .ok (.iload 4, 2) := by decide +kernel
theorem dX4_at_31 : decode cX4_at 31 = .ok (.iload_n 2, 1) := by decide +kernel
theorem dX4_at_32 : decode cX4_at 32 = .ok (.if_icmp .ge 18, 3) := by decide +kernel
theorem dX4_at_35 : decode cX4_at 35 = .ok (.aload_n 3, 1) := by decide +kernel
theorem dX4_at_36 : decode cX4_at 36 = .ok (.aload_n 0, 1) := by decide +kernel
theorem dX4_at_37 : decode cX4_at 37 = .ok (.getfield 16, 3) := by decide +kernel
theorem dX4_at_40 : decode cX4_at 40 = .ok (.invokevirtual 118, 3) := by decide +kernel
theorem dX4_at_43 : decode cX4_at 43 = .ok (.pop, 1) := by decide +kernel
theorem dX4_at_44 : decode cX4_at 44 = .ok (.iinc 4 1, 3) := by decide +kernel
theorem dX4_at_47 : decode cX4_at 47 = .ok (.goto (-18), 3) := by decide +kernel
theorem dX4_at_50 : decode cX4_at 50 = .ok (.aload_n 3, 1) := by decide +kernel
theorem dX4_at_51 : decode cX4_at 51 = .ok (.iload_n 1, 1) := by decide +kernel
theorem dX4_at_52 : decode cX4_at 52 = .ok (.invokevirtual 74, 3) := by decide +kernel
theorem dX4_at_55 : decode cX4_at 55 = .ok (.ireturn, 1) := by decide +kernel
set_option maxRecDepth 20000 in
theorem ggX4_soonest_X4_soonestWith : GoodIn wsX4_soonest wsX4_soonestWith := goodIn_r _ [5, 6, 7, 8, 9, 4, 10, 11, 12, 13, 14, 15, 16, 17, 18, 19, 20, 21, 22, 23, 24, 25, 26, 27, 28, 29, 30, 31, 32, 33, 34, 35, 36, 37, 38, 39, 40, 41, 42, 43, 44, 45, 46, 47, 48, 49, 50, 51, 52, 53, 54, 55, 56, 57, 58, 59, 60, 61, 62, 63, 64, 65, 66, 67, 68, 69, 70, 71, 72, 73, 74, 75, 76, 77, 78, 79, 80, 81, 82, 83, 84, 85, 86, 87, 88, 89, 90, 91, 92, 93, 94, 95, 96, 97, 98, 99, 100, 101, 102, 103, 104, 105, 106, 107, 108, 109, 110, 111, 112, 113, 114, 115, 116, 117, 118, 119, 120, 121, 122, 123, 124, 125, 126, 127, 128, 129, 130, 131, 132, 133, 134, 135, 136, 137, 138, 139, 140, 141, 142, 143, 144, 145, 146, 147, 148, 149, 150, 151, 152, 153, 154, 155, 156, 157, 158, 159, 160, 161] (by decide +kernel) (by decide +kernel)
set_option maxRecDepth 20000 in
theorem gX4_soonest_X4_soonestWith : GoodIn wsX4_soonest (wsV RX4 144 RX4 yX4_soonestWith wsX4_soonestWith) := goodIn_app (goodIn_of _ (by decide +kernel)) ggX4_soonest_X4_soonestWith
theorem dX4_soonest_0 : decode cX4_soonest 0 = .ok (.aload_n 0, 1) := by decide +kernel
theorem dX4_soonest_1 : decode cX4_soonest 1 = .ok (.iconst 0, 1) := by decide +kernel
theorem dX4_soonest_2 : decode cX4_soonest 2 = .ok (.invokevirtual 144, 3) := by decide +kernel
theorem dX4_soonest_5 : decode cX4_soonest 5 = .ok (.ireturn, 1) := by decide +kernel
set_option maxRecDepth 20000 in
theorem ggX4_step_X4_soonestWith : GoodIn wsX4_step wsX4_soonestWith := goodIn_r _ [7, 2, 8, 9, 10, 6, 11, 12, 13, 14, 15, 16, 17, 18, 19, 20, 21, 22, 23, 24, 25, 26, 27, 28, 29, 30, 31, 32, 33, 34, 35, 36, 37, 38, 39, 40, 41, 42, 43, 44, 45, 46, 47, 48, 49, 50, 51, 52, 53, 54, 55, 56, 57, 58, 59, 60, 61, 62, 63, 64, 65, 66, 67, 68, 69, 70, 71, 72, 73, 74, 75, 76, 77, 78, 79, 80, 81, 82, 83, 84, 85, 86, 87, 88, 89, 90, 91, 92, 93, 94, 95, 96, 97, 98, 99, 100, 101, 102, 103, 104, 105, 106, 107, 108, 109, 110, 111, 112, 113, 114, 115, 116, 117, 118, 119, 120, 121, 122, 123, 124, 125, 126, 127, 128, 129, 130, 131, 159, 160, 161, 162, 163, 164, 165, 166, 167, 168, 169, 170, 171, 172, 173, 174, 175, 176, 177, 178, 179, 180, 181, 182, 183, 184, 185, 186, 187, 188, 189] (by decide +kernel) (by decide +kernel)
set_option maxRecDepth 20000 in
theorem gX4_step_X4_soonestWith : GoodIn wsX4_step (wsV RX4 144 RX4 yX4_soonestWith wsX4_soonestWith) := goodIn_app (goodIn_of _ (by decide +kernel)) ggX4_step_X4_soonestWith
set_option maxRecDepth 20000 in
theorem ggX4_step_X4_sketchWith : GoodIn wsX4_step wsX4_sketchWith := goodIn_r _ [11, 12, 13, 14, 15, 16, 17, 18, 19, 20, 21, 22, 23, 24, 25, 26, 27, 28, 29, 30, 31, 32, 33, 34, 35, 6, 36, 37, 38, 39, 40, 41, 42, 43, 44, 45, 46, 47, 48, 159, 160, 161, 162, 163, 164, 165, 166, 167, 168, 169, 170, 171, 172, 173, 174, 175, 176, 177] (by decide +kernel) (by decide +kernel)
set_option maxRecDepth 20000 in
theorem gX4_step_X4_sketchWith : GoodIn wsX4_step (wsV RX4 140 RX4 yX4_sketchWith wsX4_sketchWith) := goodIn_app (goodIn_of _ (by decide +kernel)) ggX4_step_X4_sketchWith
set_option maxRecDepth 20000 in
theorem ggX4_step_X3_firstWay : GoodIn wsX4_step wsX3_firstWay := goodIn_r _ [135, 53, 136, 137, 138, 51, 139, 140, 54, 141, 37, 6, 38, 62, 63, 64, 17, 65, 24, 19, 25, 29, 27, 31, 32, 33, 34, 35, 36, 66, 67, 68, 69, 70, 71, 72, 58, 73, 74, 75, 76, 77, 78, 79, 61, 80, 81, 82, 83, 84, 85, 86, 87, 88, 89, 90, 91, 92, 93, 94, 95, 96, 97, 26, 43, 44, 98, 99, 100, 101, 102, 103, 104, 105, 106, 107, 108, 109, 110, 111, 112, 113, 114, 115, 116, 117, 118, 30, 39, 40, 41, 42, 55, 56, 57, 59, 60, 119, 120, 121, 122, 123, 124, 125, 126, 127, 128, 129, 130, 131, 142, 143, 144, 145, 146, 147, 148, 149, 150, 151, 152, 153, 154, 155, 156, 157, 158, 178, 179, 180, 181, 182, 183, 184, 185, 186, 187, 188, 189, 190, 191, 192, 193, 170, 171, 172, 173, 174, 175, 176, 177] (by decide +kernel) (by decide +kernel)
set_option maxRecDepth 20000 in
theorem gX4_step_X3_firstWay : GoodIn wsX4_step (wsV RX4 147 RX3 yX3_firstWay wsX3_firstWay) := goodIn_app (goodIn_of _ (by decide +kernel)) ggX4_step_X3_firstWay
theorem dX4_step_0 : decode cX4_step 0 = .ok (.iload_n 1, 1) := by decide +kernel
theorem dX4_step_1 : decode cX4_step 1 = .ok (.ifCond .ge 5, 3) := by decide +kernel
theorem dX4_step_4 : decode cX4_step 4 = .ok (.iconst (-1), 1) := by decide +kernel
theorem dX4_step_5 : decode cX4_step 5 = .ok (.ireturn, 1) := by decide +kernel
theorem dX4_step_6 : decode cX4_step 6 = .ok (.aload_n 0, 1) := by decide +kernel
theorem dX4_step_7 : decode cX4_step 7 = .ok (.iconst 0, 1) := by decide +kernel
theorem dX4_step_8 : decode cX4_step 8 = .ok (.invokevirtual 144, 3) := by decide +kernel
theorem dX4_step_11 : decode cX4_step 11 = .ok (.istore_n 2, 1) := by decide +kernel
theorem dX4_step_12 : decode cX4_step 12 = .ok (.iload_n 2, 1) := by decide +kernel
theorem dX4_step_13 : decode cX4_step 13 = .ok (.bipush (-9), 2) := by decide +kernel
theorem dX4_step_15 : decode cX4_step 15 = .ok (.if_icmp .ne 6, 3) := by decide +kernel
theorem dX4_step_18 : decode cX4_step 18 = .ok (.bipush (-9), 2) := by decide +kernel
theorem dX4_step_20 : decode cX4_step 20 = .ok (.ireturn, 1) := by decide +kernel
theorem dX4_step_21 : decode cX4_step 21 = .ok (.iload_n 1, 1) := by decide +kernel
theorem dX4_step_22 : decode cX4_step 22 = .ok (.iload_n 2, 1) := by decide +kernel
theorem dX4_step_23 : decode cX4_step 23 = .ok (.if_icmp .lt 6, 3) := by decide +kernel
theorem dX4_step_26 : decode cX4_step 26 = .ok (.bipush (-5), 2) := by decide +kernel
theorem dX4_step_28 : decode cX4_step 28 = .ok (.ireturn, 1) := by decide +kernel
theorem dX4_step_29 : decode cX4_step 29 = .ok (.aload_n 0, 1) := by decide +kernel
theorem dX4_step_30 : decode cX4_step 30 = .ok (.getfield 51, 3) := by decide +kernel
theorem dX4_step_33 : decode cX4_step 33 = .ok (.aload_n 0, 1) := by decide +kernel
theorem dX4_step_34 : decode cX4_step 34 = .ok (.getfield 16, 3) := by decide +kernel
theorem dX4_step_37 : decode cX4_step 37 = .ok (.aload_n 0, 1) := by decide +kernel
theorem dX4_step_38 : decode cX4_step 38 = .ok (.iconst 0, 1) := by decide +kernel
theorem dX4_step_39 : decode cX4_step 39 = .ok (.invokevirtual 140, 3) := by decide +kernel
theorem dX4_step_42 : decode cX4_step 42 = .ok (.iload_n 2, 1) := by decide +kernel
theorem dX4_step_43 : decode cX4_step 43 = .ok (.iload_n 1, 1) := by decide +kernel
theorem dX4_step_44 : decode cX4_step 44 = .ok (.invokevirtual 147, 3) := by decide +kernel
theorem dX4_step_47 : decode cX4_step 47 = .ok (.ireturn, 1) := by decide +kernel
set_option maxRecDepth 20000 in
theorem ggX4_ways_X4_sketchWith : GoodIn wsX4_ways wsX4_sketchWith := goodIn_r _ [8, 9, 10, 11, 12, 13, 14, 15, 16, 17, 18, 19, 20, 21, 22, 23, 24, 25, 26, 27, 28, 29, 30, 31, 32, 7, 33, 34, 35, 36, 37, 38, 39, 40, 41, 42, 43, 44, 45, 153, 154, 155, 156, 157, 158, 159, 160, 161, 162, 163, 164, 165, 166, 167, 168, 169, 170, 171] (by decide +kernel) (by decide +kernel)
set_option maxRecDepth 20000 in
theorem gX4_ways_X4_sketchWith : GoodIn wsX4_ways (wsV RX4 140 RX4 yX4_sketchWith wsX4_sketchWith) := goodIn_app (goodIn_of _ (by decide +kernel)) ggX4_ways_X4_sketchWith
set_option maxRecDepth 20000 in
theorem ggX4_ways_X3_countThrough : GoodIn wsX4_ways wsX3_countThrough := goodIn_r _ [50, 51, 52, 53, 54, 55, 56, 57, 58, 59, 60, 61, 14, 62, 21, 16, 22, 26, 24, 28, 29, 30, 31, 32, 7, 33, 63, 64, 65, 66, 67, 68, 69, 70, 71, 72, 73, 74, 75, 76, 77, 78, 79, 80, 81, 82, 83, 84, 85, 86, 87, 88, 89, 90, 91, 92, 93, 94, 95, 96, 23, 40, 41, 97, 98, 99, 100, 101, 102, 103, 104, 105, 106, 107, 108, 109, 110, 111, 112, 113, 34, 35, 114, 115, 116, 117, 27, 36, 37, 38, 39, 118, 119, 120, 49, 121, 122, 123, 124, 125, 126, 127, 128, 129, 130, 131, 132, 133, 134, 135, 136, 137, 138, 139, 140, 141, 142, 143, 144, 145, 146, 147, 148, 149, 150, 151, 152, 172, 173, 174, 175, 164, 165, 166, 167, 168, 169, 170, 171, 176, 177, 178, 179, 180, 181, 182, 183, 184, 185, 186, 187] (by decide +kernel) (by decide +kernel)
set_option maxRecDepth 20000 in
theorem gX4_ways_X3_countThrough : GoodIn wsX4_ways (wsV RX4 153 RX3 yX3_countThrough wsX3_countThrough) := goodIn_app (goodIn_of _ (by decide +kernel)) ggX4_ways_X3_countThrough
theorem dX4_ways_0 : decode cX4_ways 0 = .ok (.iload_n 1, 1) := by decide +kernel
theorem dX4_ways_1 : decode cX4_ways 1 = .ok (.iconst 1, 1) := by decide +kernel
theorem dX4_ways_2 : decode cX4_ways 2 = .ok (.if_icmp .lt 9, 3) := by decide +kernel
theorem dX4_ways_5 : decode cX4_ways 5 = .ok (.iload_n 1, 1) := by decide +kernel
theorem dX4_ways_6 : decode cX4_ways 6 = .ok (.bipush 20, 2) := by decide +kernel
theorem dX4_ways_8 : decode cX4_ways 8 = .ok (.if_icmp .le 7, 3) := by decide +kernel
theorem dX4_ways_11 : decode cX4_ways 11 = .ok (.ldc2_w 151, 3) := by decide +kernel
theorem dX4_ways_14 : decode cX4_ways 14 = .ok (.lreturn, 1) := by decide +kernel
theorem dX4_ways_15 : decode cX4_ways 15 = .ok (.aload_n 0, 1) := by decide +kernel
theorem dX4_ways_16 : decode cX4_ways 16 = .ok (.getfield 51, 3) := by decide +kernel
theorem dX4_ways_19 : decode cX4_ways 19 = .ok (.aload_n 0, 1) := by decide +kernel
theorem dX4_ways_20 : decode cX4_ways 20 = .ok (.getfield 16, 3) := by decide +kernel
theorem dX4_ways_23 : decode cX4_ways 23 = .ok (.aload_n 0, 1) := by decide +kernel
theorem dX4_ways_24 : decode cX4_ways 24 = .ok (.iconst 0, 1) := by decide +kernel
theorem dX4_ways_25 : decode cX4_ways 25 = .ok (.invokevirtual 140, 3) := by decide +kernel
theorem dX4_ways_28 : decode cX4_ways 28 = .ok (.iconst 0, 1) := by decide +kernel
theorem dX4_ways_29 : decode cX4_ways 29 = .ok (.iload_n 1, 1) := by decide +kernel
theorem dX4_ways_30 : decode cX4_ways 30 = .ok (.invokevirtual 153, 3) := by decide +kernel
theorem dX4_ways_33 : decode cX4_ways 33 = .ok (.lreturn, 1) := by decide +kernel
set_option maxRecDepth 20000 in
theorem ggX4_bait_J6_bitCount_0f7a4 : GoodIn wsX4_bait wsJ6_bitCount_0f7a4 := goodIn_r _ [8, 9, 10, 11] (by decide +kernel) (by decide +kernel)
set_option maxRecDepth 20000 in
theorem gX4_bait_J6_bitCount_0f7a4 : GoodIn wsX4_bait (va_wsS RX4 125 yJ6_bitCount_0f7a4 wsJ6_bitCount_0f7a4) := goodIn_app (goodIn_of _ (by decide +kernel)) ggX4_bait_J6_bitCount_0f7a4
set_option maxRecDepth 20000 in
theorem ggX4_bait_X0_cells : GoodIn wsX4_bait wsX0_cells := goodIn_r _ [16, 17, 18, 164, 165, 166, 167, 168, 169, 170, 171, 172, 173, 174, 175] (by decide +kernel) (by decide +kernel)
set_option maxRecDepth 20000 in
theorem gX4_bait_X0_cells : GoodIn wsX4_bait (wsV RX4 157 RX0 yX0_cells wsX0_cells) := goodIn_app (goodIn_of _ (by decide +kernel)) ggX4_bait_X0_cells
set_option maxRecDepth 20000 in
theorem ggX4_bait_X4_hasBit : GoodIn wsX4_bait wsX4_hasBit := goodIn_r _ [22] (by decide +kernel) (by decide +kernel)
set_option maxRecDepth 20000 in
theorem gX4_bait_X4_hasBit : GoodIn wsX4_bait (va_wsS RX4 96 yX4_hasBit wsX4_hasBit) := goodIn_app (goodIn_of _ (by decide +kernel)) ggX4_bait_X4_hasBit
set_option maxRecDepth 20000 in
theorem ggX4_bait_X4_soonestBaited : GoodIn wsX4_bait wsX4_soonestBaited := goodIn_r _ [26, 2, 3, 27, 28, 29, 21, 30, 31, 1, 32, 33, 34, 35, 36, 37, 38, 39, 40, 41, 42, 43, 44, 45, 46, 47, 48, 49, 50, 51, 52, 53, 54, 55, 56, 57, 58, 59, 60, 20, 22, 61, 62, 63, 64, 65, 66, 67, 68, 69, 70, 71, 72, 73, 15, 74, 18, 17, 75, 76, 77, 78, 79, 80, 81, 82, 83, 84, 85, 86, 87, 88, 89, 90, 91, 92, 93, 94, 95, 96, 97, 98, 99, 100, 101, 102, 103, 104, 105, 106, 107, 108, 109, 110, 111, 112, 113, 114, 115, 116, 117, 118, 119, 120, 121, 122, 123, 124, 125, 126, 127, 128, 129, 130, 131, 132, 133, 134, 135, 136, 137, 138, 139, 140, 141, 13, 14, 16, 156, 157, 158, 159, 160, 161, 162, 163, 145, 146, 147, 148, 149, 150, 151, 152, 153, 154, 155, 164, 165, 166, 167, 168, 169, 170, 171, 172, 173, 174, 175] (by decide +kernel) (by decide +kernel)
set_option maxRecDepth 20000 in
theorem gX4_bait_X4_soonestBaited : GoodIn wsX4_bait (wsV RX4 161 RX4 yX4_soonestBaited wsX4_soonestBaited) := goodIn_app (goodIn_of _ (by decide +kernel)) ggX4_bait_X4_soonestBaited
set_option maxRecDepth 20000 in
theorem ggX4_bait_X4_isSooner : GoodIn wsX4_bait wsX4_isSooner := goodIn_r _ [144] (by decide +kernel) (by decide +kernel)
set_option maxRecDepth 20000 in
theorem gX4_bait_X4_isSooner : GoodIn wsX4_bait (va_wsS RX4 164 yX4_isSooner wsX4_isSooner) := goodIn_app (goodIn_of _ (by decide +kernel)) ggX4_bait_X4_isSooner
theorem dX4_bait_0 : decode cX4_bait 0 = .ok (.iload_n 1, 1) := by decide +kernel
theorem dX4_bait_1 : decode cX4_bait 1 = .ok (.ifCond .lt 8, 3) := by decide +kernel
theorem dX4_bait_4 : decode cX4_bait 4 = .ok (.iload_n 1, 1) := by decide +kernel
theorem dX4_bait_5 : decode cX4_bait 5 = .ok (.iconst 1, 1) := by decide +kernel
theorem dX4_bait_6 : decode cX4_bait 6 = .ok (.if_icmp .le 5, 3) := by decide +kernel
theorem dX4_bait_9 : decode cX4_bait 9 = .ok (.iconst (-1), 1) := by decide +kernel
theorem dX4_bait_10 : decode cX4_bait 10 = .ok (.ireturn, 1) := by decide +kernel
theorem dX4_bait_11 : decode cX4_bait 11 = .ok (.bipush (-9), 2) := by decide +kernel
theorem dX4_bait_13 : decode cX4_bait 13 = .ok (.istore_n 2, 1) := by decide +kernel
theorem dX4_bait_14 : decode cX4_bait 14 = .ok (.bipush (-9), 2) := by decide +kernel
theorem dX4_bait_16 : decode cX4_bait 16 = .ok (.istore_n 3, 1) := by decide +kernel
theorem dX4_bait_17 : decode cX4_bait 17 = .ok (.aload_n 0, 1) := by decide +kernel
theorem dX4_bait_18 : decode cX4_bait 18 = .ok (.getfield 33, 3) := by decide +kernel
theorem dX4_bait_21 : decode cX4_bait 21 = .ok (.getfield 93, 3) := by decide +kernel
theorem dX4_bait_24 : decode cX4_bait 24 = .ok (.invokestatic 125, 3) := by decide +kernel
theorem dX4_bait_27 : decode cX4_bait 27 = .ok (.iconst 4, 1) := by decide +kernel
theorem dX4_bait_28 : decode cX4_bait 28 = .ok (.if_icmp .ge 13, 3) := by decide +kernel
theorem dX4_bait_31 : decode cX4_bait 31 = .ok (.aload_n 0, 1) := by decide +kernel
theorem dX4_bait_32 : decode cX4_bait 32 = .ok (.getfield 16, 3) := by decide +kernel
theorem dX4_bait_35 : decode cX4_bait 35 = .ok (.invokevirtual 157, 3) := by decide +kernel
theorem dX4_bait_38 : decode cX4_bait 38 = .ok (.goto 4, 3) := by decide +kernel
theorem dX4_bait_41 : decode cX4_bait 41 = .ok (.iconst 0, 1) := by decide +kernel
theorem dX4_bait_42 : decode cX4_bait 42 = .ok (.istore 4, 2) := by decide +kernel
theorem dX4_bait_44 : decode cX4_bait 44 = .ok (.iconst 0, 1) := by decide +kernel
theorem dX4_bait_45 : decode cX4_bait 45 = .ok (.istore 5, 2) := by decide +kernel
theorem dX4_bait_47 : decode cX4_bait 47 = .ok (.iload 5, 2) := by decide +kernel
theorem dX4_bait_49 : decode cX4_bait 49 = .ok (.iload 4, 2) := by decide +kernel
theorem dX4_bait_51 : decode cX4_bait 51 = .ok (.if_icmp .ge 61, 3) := by decide +kernel
theorem dX4_bait_54 : decode cX4_bait 54 = .ok (.aload_n 0, 1) := by decide +kernel
theorem dX4_bait_55 : decode cX4_bait 55 = .ok (.getfield 33, 3) := by decide +kernel
theorem dX4_bait_58 : decode cX4_bait 58 = .ok (.getfield 93, 3) := by decide +kernel
theorem dX4_bait_61 : decode cX4_bait 61 = .ok (.aload_n 0, 1) := by decide +kernel
theorem dX4_bait_62 : decode cX4_bait 62 = .ok (.getfield 33, 3) := by decide +kernel
theorem dX4_bait_65 : decode cX4_bait 65 = .ok (.getfield 122, 3) := by decide +kernel
theorem dX4_bait_68 : decode cX4_bait 68 = .ok (.ior, 1) := by decide +kernel
theorem dX4_bait_69 : decode cX4_bait 69 = .ok (.iload 5, 2) := by decide +kernel
theorem dX4_bait_71 : decode cX4_bait 71 = .ok (.invokestatic 96, 3) := by decide +kernel
theorem dX4_bait_74 : decode cX4_bait 74 = .ok (.ifCond .ne 32, 3) := by decide +kernel
theorem dX4_bait_77 : decode cX4_bait 77 = .ok (.aload_n 0, 1) := by decide +kernel
theorem dX4_bait_78 : decode cX4_bait 78 = .ok (.iload 5, 2) := by decide +kernel
theorem dX4_bait_80 : decode cX4_bait 80 = .ok (.invokevirtual 161, 3) := by decide +kernel
theorem dX4_bait_83 : decode cX4_bait 83 = .ok (.istore 6, 2) := by decide +kernel
theorem dX4_bait_85 : decode cX4_bait 85 = .ok (.iload_n 2, 1) := by decide +kernel
theorem dX4_bait_86 : decode cX4_bait 86 = .ok (.bipush (-9), 2) := by decide +kernel
theorem dX4_bait_88 : decode cX4_bait 88 = .ok (.if_icmp .eq 12, 3) := by decide +kernel
theorem dX4_bait_91 : decode cX4_bait 91 = .ok (.iload 6, 2) := by decide +kernel
theorem dX4_bait_93 : decode cX4_bait 93 = .ok (.iload_n 3, 1) := by decide +kernel
theorem dX4_bait_94 : decode cX4_bait 94 = .ok (.invokestatic 164, 3) := by decide +kernel
theorem dX4_bait_97 : decode cX4_bait 97 = .ok (.ifCond .eq 9, 3) := by decide +kernel
theorem dX4_bait_100 : decode cX4_bait 100 = .ok (.iload 5, 2) := by decide +kernel
theorem dX4_bait_102 : decode cX4_bait 102 = .ok (.istore_n 2, 1) := by decide +kernel
theorem dX4_bait_103 : decode cX4_bait 103 = .ok (.iload 6, 2) := by decide +kernel
theorem dX4_bait_105 : decode cX4_bait 105 = .ok (.istore_n 3, 1) := by decide +kernel
theorem dX4_bait_106 : decode cX4_bait 106 = .ok (.iinc 5 1, 3) := by decide +kernel
theorem dX4_bait_109 : decode cX4_bait 109 = .ok (.goto (-62), 3) := by decide +kernel
theorem dX4_bait_112 : decode cX4_bait 112 = .ok (.iload_n 1, 1) := by decide +kernel
theorem dX4_bait_113 : decode cX4_bait 113 = .ok (.ifCond .ne 7, 3) := by decide +kernel
theorem dX4_bait_116 : decode cX4_bait 116 = .ok (.iload_n 2, 1) := by decide +kernel
theorem dX4_bait_117 : decode cX4_bait 117 = .ok (.goto 4, 3) := by decide +kernel
theorem dX4_bait_120 : decode cX4_bait 120 = .ok (.iload_n 3, 1) := by decide +kernel
theorem dX4_bait_121 : decode cX4_bait 121 = .ok (.ireturn, 1) := by decide +kernel
set_option maxRecDepth 20000 in
theorem ggX4_tenth_X4_worstCell : GoodIn wsX4_tenth wsX4_worstCell := goodIn_r _ [5, 6, 7, 8, 9, 10, 11, 12, 13, 14, 15, 16, 4, 17, 18, 19, 20, 21, 22, 23, 24, 25, 26, 27, 28, 29, 30, 31, 32, 33, 34, 35, 36, 37, 38, 39, 40, 41, 42, 43, 44, 45, 46, 47, 48, 49, 50, 51, 52, 53, 54, 55, 56, 57, 58, 59, 60, 61, 62, 63, 64, 65, 66, 67, 68, 69, 70, 71, 72, 73, 74, 75, 76, 77, 78, 79, 80, 81, 82, 83, 84, 85, 86, 87, 88, 89, 90, 91, 92, 93, 94, 95, 96, 97, 98, 99, 100, 101, 102, 103, 104, 105, 106, 107, 108, 109, 110, 111, 112, 113, 114, 115, 116, 117, 118, 119, 120, 121, 122, 123, 124, 125, 126, 127, 128, 129, 130, 131, 132, 133, 134, 135, 136, 137, 138, 139, 140, 141, 142, 143, 144, 149, 150, 151, 152, 153, 154, 155, 156, 157, 158, 159, 160, 161, 162, 163, 164, 165, 166, 167, 168, 169, 170, 171, 172, 173, 174, 175, 176, 177, 178, 179] (by decide +kernel) (by decide +kernel)
set_option maxRecDepth 20000 in
theorem gX4_tenth_X4_worstCell : GoodIn wsX4_tenth (wsV RX4 167 RX4 yX4_worstCell wsX4_worstCell) := goodIn_app (goodIn_of _ (by decide +kernel)) ggX4_tenth_X4_worstCell
set_option maxRecDepth 20000 in
theorem ggX4_tenth_X4_isFree : GoodIn wsX4_tenth wsX4_isFree := goodIn_r _ [17, 6, 18, 19, 20, 21, 22, 10, 23, 24, 8, 9, 11, 12, 13, 25, 26, 4, 27, 149, 150, 151, 152, 153, 154, 155, 156, 157, 158, 159, 172, 173, 174, 175, 176, 177, 178, 179, 160, 161, 162, 163, 164, 165, 166, 167, 168, 169, 170, 171] (by decide +kernel) (by decide +kernel)
set_option maxRecDepth 20000 in
theorem gX4_tenth_X4_isFree : GoodIn wsX4_tenth (wsV RX4 170 RX4 yX4_isFree wsX4_isFree) := goodIn_app (goodIn_of _ (by decide +kernel)) ggX4_tenth_X4_isFree
set_option maxRecDepth 20000 in
theorem ggX4_tenth_X4_soonestWith : GoodIn wsX4_tenth wsX4_soonestWith := goodIn_r _ [148, 6, 28, 29, 30, 4, 31, 32, 18, 33, 34, 35, 36, 37, 38, 39, 40, 41, 42, 43, 44, 45, 46, 47, 48, 49, 50, 51, 52, 53, 54, 55, 56, 57, 58, 59, 60, 61, 26, 27, 62, 63, 64, 65, 66, 67, 68, 69, 70, 71, 72, 73, 74, 10, 75, 13, 12, 76, 77, 78, 79, 80, 81, 82, 83, 84, 85, 86, 87, 88, 89, 90, 91, 92, 93, 94, 95, 96, 97, 98, 99, 100, 101, 102, 103, 104, 105, 106, 107, 108, 109, 110, 111, 112, 113, 114, 115, 116, 117, 118, 119, 120, 121, 122, 123, 124, 125, 126, 127, 128, 129, 130, 131, 132, 133, 134, 135, 136, 137, 138, 139, 140, 141, 24, 8, 9, 11, 149, 150, 151, 152, 153, 154, 155, 156, 157, 158, 159, 172, 173, 174, 175, 176, 177, 178, 179, 160, 161, 162, 163, 164, 165, 166, 167, 168, 169, 170, 171] (by decide +kernel) (by decide +kernel)
set_option maxRecDepth 20000 in
theorem gX4_tenth_X4_soonestWith : GoodIn wsX4_tenth (wsV RX4 144 RX4 yX4_soonestWith wsX4_soonestWith) := goodIn_app (goodIn_of _ (by decide +kernel)) ggX4_tenth_X4_soonestWith
theorem dX4_tenth_0 : decode cX4_tenth 0 = .ok (.iload_n 1, 1) := by decide +kernel
theorem dX4_tenth_1 : decode cX4_tenth 1 = .ok (.iconst (-1), 1) := by decide +kernel
theorem dX4_tenth_2 : decode cX4_tenth 2 = .ok (.if_icmp .ne 8, 3) := by decide +kernel
theorem dX4_tenth_5 : decode cX4_tenth 5 = .ok (.aload_n 0, 1) := by decide +kernel
theorem dX4_tenth_6 : decode cX4_tenth 6 = .ok (.invokevirtual 167, 3) := by decide +kernel
theorem dX4_tenth_9 : decode cX4_tenth 9 = .ok (.ireturn, 1) := by decide +kernel
theorem dX4_tenth_10 : decode cX4_tenth 10 = .ok (.aload_n 0, 1) := by decide +kernel
theorem dX4_tenth_11 : decode cX4_tenth 11 = .ok (.iload_n 1, 1) := by decide +kernel
theorem dX4_tenth_12 : decode cX4_tenth 12 = .ok (.invokevirtual 170, 3) := by decide +kernel
theorem dX4_tenth_15 : decode cX4_tenth 15 = .ok (.ifCond .ne 5, 3) := by decide +kernel
theorem dX4_tenth_18 : decode cX4_tenth 18 = .ok (.iconst (-1), 1) := by decide +kernel
theorem dX4_tenth_19 : decode cX4_tenth 19 = .ok (.ireturn, 1) := by decide +kernel
theorem dX4_tenth_20 : decode cX4_tenth 20 = .ok (.aload_n 0, 1) := by decide +kernel
theorem dX4_tenth_21 : decode cX4_tenth 21 = .ok (.iconst 1, 1) := by decide +kernel
theorem dX4_tenth_22 : decode cX4_tenth 22 = .ok (.iload_n 1, 1) := by decide +kernel
theorem dX4_tenth_23 : decode cX4_tenth 23 = .ok (.ishl, 1) := by decide +kernel
theorem dX4_tenth_24 : decode cX4_tenth 24 = .ok (.invokevirtual 144, 3) := by decide +kernel
theorem dX4_tenth_27 : decode cX4_tenth 27 = .ok (.ireturn, 1) := by decide +kernel
set_option maxRecDepth 20000 in
theorem ggX4_close_X4_canClose : GoodIn wsX4_close wsX4_canClose := goodIn_r _ [7, 8, 9, 10, 11, 12, 13, 14, 15, 16, 17, 18, 19, 20, 21, 22, 23, 24, 25, 26, 27, 28, 29, 30, 6, 31, 32, 33, 34, 35, 36, 37, 38, 39, 40, 41, 42, 43, 44, 45, 46, 47, 48, 49, 50, 51, 52, 53, 54, 55, 56, 57, 58, 59, 60, 61, 62, 63, 64, 65, 66, 67, 68, 69, 70, 71, 72, 73, 74, 75, 76, 77, 78, 79, 80, 81, 82, 83, 84, 85, 86, 87, 88, 89, 90, 91, 92, 93, 94, 95, 96, 97, 98, 99, 100, 101, 102, 103, 104, 105, 106, 107, 108, 109, 110, 111, 112, 113, 114, 115, 116, 117, 118, 119, 120, 121, 122, 123, 124, 125, 126, 127, 128, 4, 5, 140, 141, 142, 143, 144, 145, 146, 147, 148, 149, 150, 151, 152, 153, 154, 155, 156, 157, 158, 159] (by decide +kernel) (by decide +kernel)
set_option maxRecDepth 20000 in
theorem gX4_close_X4_canClose : GoodIn wsX4_close (va_wsS RX4 173 yX4_canClose wsX4_canClose) := goodIn_app (goodIn_of _ (by decide +kernel)) ggX4_close_X4_canClose
theorem dX4_close_0 : decode cX4_close 0 = .ok (.iconst 0, 1) := by decide +kernel
theorem dX4_close_1 : decode cX4_close 1 = .ok (.istore_n 1, 1) := by decide +kernel
theorem dX4_close_2 : decode cX4_close 2 = .ok (.iload_n 1, 1) := by decide +kernel
theorem dX4_close_3 : decode cX4_close 3 = .ok (.iconst 3, 1) := by decide +kernel
theorem dX4_close_4 : decode cX4_close 4 = .ok (.if_icmp .gt 32, 3) := by decide +kernel
theorem dX4_close_7 : decode cX4_close 7 = .ok (.aload_n 0, 1) := by decide +kernel
theorem dX4_close_8 : decode cX4_close 8 = .ok (.getfield 16, 3) := by decide +kernel
theorem dX4_close_11 : decode cX4_close 11 = .ok (.aload_n 0, 1) := by decide +kernel
theorem dX4_close_12 : decode cX4_close 12 = .ok (.getfield 33, 3) := by decide +kernel
theorem dX4_close_15 : decode cX4_close 15 = .ok (.aload_n 0, 1) := by decide +kernel
theorem dX4_close_16 : decode cX4_close 16 = .ok (.getfield 37, 3) := by decide +kernel
theorem dX4_close_19 : decode cX4_close 19 = .ok (.iconst 0, 1) := by decide +kernel
theorem dX4_close_20 : decode cX4_close 20 = .ok (.iconst 0, 1) := by decide +kernel
theorem dX4_close_21 : decode cX4_close 21 = .ok (.iload_n 1, 1) := by decide +kernel
theorem dX4_close_22 : decode cX4_close 22 = .ok (.invokestatic 173, 3) := by decide +kernel
theorem dX4_close_25 : decode cX4_close 25 = .ok (.ifCond .eq 5, 3) := by decide +kernel
theorem dX4_close_28 : decode cX4_close 28 = .ok (.iload_n 1, 1) := by decide +kernel
theorem dX4_close_29 : decode cX4_close 29 = .ok (.ireturn, 1) := by decide +kernel
theorem dX4_close_30 : decode cX4_close 30 = .ok (.iinc 1 1, 3) := by decide +kernel
theorem dX4_close_33 : decode cX4_close 33 = .ok (.goto (-31), 3) := by decide +kernel
theorem dX4_close_36 : decode cX4_close 36 = .ok (.bipush (-9), 2) := by decide +kernel
theorem dX4_close_38 : decode cX4_close 38 = .ok (.ireturn, 1) := by decide +kernel
set_option maxRecDepth 20000 in
theorem ggX4_marks_X0_allCells : GoodIn wsX4_marks wsX0_allCells := goodIn_r _ [8, 9, 10, 11, 7, 12, 13, 14, 169, 170, 171, 172, 173, 174, 175, 176, 177, 178, 179, 180] (by decide +kernel) (by decide +kernel)
set_option maxRecDepth 20000 in
theorem gX4_marks_X0_allCells : GoodIn wsX4_marks (wsV RX4 177 RX0 yX0_allCells wsX0_allCells) := goodIn_app (goodIn_of _ (by decide +kernel)) ggX4_marks_X0_allCells
set_option maxRecDepth 20000 in
theorem ggX4_marks_J6_bitCount_0f7a4 : GoodIn wsX4_marks wsJ6_bitCount_0f7a4 := goodIn_r _ [18, 19, 20, 21] (by decide +kernel) (by decide +kernel)
set_option maxRecDepth 20000 in
theorem gX4_marks_J6_bitCount_0f7a4 : GoodIn wsX4_marks (va_wsS RX4 125 yJ6_bitCount_0f7a4 wsJ6_bitCount_0f7a4) := goodIn_app (goodIn_of _ (by decide +kernel)) ggX4_marks_J6_bitCount_0f7a4
set_option maxRecDepth 20000 in
theorem ggX4_marks_X4_sketchWith : GoodIn wsX4_marks wsX4_sketchWith := goodIn_r _ [26, 27, 28, 29, 30, 31, 32, 33, 34, 35, 36, 37, 38, 39, 40, 41, 42, 43, 44, 45, 46, 47, 48, 49, 50, 25, 51, 52, 53, 54, 55, 56, 57, 58, 59, 60, 61, 62, 63, 158, 159, 160, 161, 162, 163, 164, 165, 166, 167, 168, 181, 182, 183, 184, 185, 186, 187, 188] (by decide +kernel) (by decide +kernel)
set_option maxRecDepth 20000 in
theorem gX4_marks_X4_sketchWith : GoodIn wsX4_marks (wsV RX4 140 RX4 yX4_sketchWith wsX4_sketchWith) := goodIn_app (goodIn_of _ (by decide +kernel)) ggX4_marks_X4_sketchWith
set_option maxRecDepth 20000 in
theorem ggX4_marks_X3_countThrough : GoodIn wsX4_marks wsX3_countThrough := goodIn_r _ [68, 69, 70, 71, 72, 73, 74, 75, 76, 77, 78, 79, 32, 80, 39, 34, 40, 44, 42, 46, 47, 48, 49, 50, 25, 51, 81, 82, 83, 84, 85, 86, 87, 7, 88, 89, 90, 91, 92, 93, 94, 13, 95, 96, 97, 98, 99, 100, 101, 102, 103, 104, 105, 106, 107, 108, 109, 110, 111, 112, 41, 58, 59, 113, 114, 115, 116, 117, 118, 119, 120, 121, 122, 123, 124, 125, 126, 127, 128, 129, 52, 53, 130, 131, 132, 133, 45, 54, 55, 56, 57, 134, 135, 136, 67, 137, 138, 139, 16, 17, 18, 19, 20, 21, 140, 10, 11, 12, 14, 141, 142, 143, 144, 145, 146, 147, 148, 149, 9, 150, 151, 152, 153, 154, 155, 156, 157, 189, 190, 191, 192, 181, 182, 183, 184, 185, 186, 187, 188, 169, 170, 171, 172, 173, 174, 175, 176, 177, 178, 179, 180] (by decide +kernel) (by decide +kernel)
set_option maxRecDepth 20000 in
theorem gX4_marks_X3_countThrough : GoodIn wsX4_marks (wsV RX4 153 RX3 yX3_countThrough wsX3_countThrough) := goodIn_app (goodIn_of _ (by decide +kernel)) ggX4_marks_X3_countThrough
theorem dX4_marks_0 : decode cX4_marks 0 = .ok (.iload_n 1, 1) := by decide +kernel
theorem dX4_marks_1 : decode cX4_marks 1 = .ok (.aload_n 0, 1) := by decide +kernel
theorem dX4_marks_2 : decode cX4_marks 2 = .ok (.getfield 16, 3) := by decide +kernel
theorem dX4_marks_5 : decode cX4_marks 5 = .ok (.invokevirtual 177, 3) := by decide +kernel
theorem dX4_marks_8 : decode cX4_marks 8 = .ok (.iconst (-1), 1) := by decide +kernel
theorem dX4_marks_9 : decode cX4_marks 9 = .ok (.ixor, 1) := by decide +kernel
theorem dX4_marks_10 : decode cX4_marks 10 = .ok (.iand, 1) := by decide +kernel
theorem dX4_marks_11 : decode cX4_marks 11 = .ok (.ifCond .ne 22, 3) := by decide +kernel
theorem dX4_marks_14 : decode cX4_marks 14 = .ok (.iload_n 1, 1) := by decide +kernel
theorem dX4_marks_15 : decode cX4_marks 15 = .ok (.invokestatic 125, 3) := by decide +kernel
theorem dX4_marks_18 : decode cX4_marks 18 = .ok (.iconst 4, 1) := by decide +kernel
theorem dX4_marks_19 : decode cX4_marks 19 = .ok (.if_icmp .gt 14, 3) := by decide +kernel
theorem dX4_marks_22 : decode cX4_marks 22 = .ok (.iload_n 2, 1) := by decide +kernel
theorem dX4_marks_23 : decode cX4_marks 23 = .ok (.iconst 1, 1) := by decide +kernel
theorem dX4_marks_24 : decode cX4_marks 24 = .ok (.if_icmp .lt 9, 3) := by decide +kernel
theorem dX4_marks_27 : decode cX4_marks 27 = .ok (.iload_n 2, 1) := by decide +kernel
theorem dX4_marks_28 : decode cX4_marks 28 = .ok (.bipush 20, 2) := by decide +kernel
theorem dX4_marks_30 : decode cX4_marks 30 = .ok (.if_icmp .le 7, 3) := by decide +kernel
theorem dX4_marks_33 : decode cX4_marks 33 = .ok (.ldc2_w 151, 3) := by decide +kernel
theorem dX4_marks_36 : decode cX4_marks 36 = .ok (.lreturn, 1) := by decide +kernel
theorem dX4_marks_37 : decode cX4_marks 37 = .ok (.aload_n 0, 1) := by decide +kernel
theorem dX4_marks_38 : decode cX4_marks 38 = .ok (.getfield 51, 3) := by decide +kernel
theorem dX4_marks_41 : decode cX4_marks 41 = .ok (.aload_n 0, 1) := by decide +kernel
theorem dX4_marks_42 : decode cX4_marks 42 = .ok (.getfield 16, 3) := by decide +kernel
theorem dX4_marks_45 : decode cX4_marks 45 = .ok (.aload_n 0, 1) := by decide +kernel
theorem dX4_marks_46 : decode cX4_marks 46 = .ok (.iconst 0, 1) := by decide +kernel
theorem dX4_marks_47 : decode cX4_marks 47 = .ok (.invokevirtual 140, 3) := by decide +kernel
theorem dX4_marks_50 : decode cX4_marks 50 = .ok (.iload_n 1, 1) := by decide +kernel
theorem dX4_marks_51 : decode cX4_marks 51 = .ok (.iload_n 2, 1) := by decide +kernel
theorem dX4_marks_52 : decode cX4_marks 52 = .ok (.invokevirtual 153, 3) := by decide +kernel
theorem dX4_marks_55 : decode cX4_marks 55 = .ok (.lreturn, 1) := by decide +kernel
set_option maxRecDepth 20000 in
theorem ggX4_mark_X4_isCat : GoodIn wsX4_mark wsX4_isCat := goodIn_r _ [6, 7, 8, 61, 62, 63, 64, 65, 66, 67, 68, 69, 70, 71, 72, 73, 74, 75, 76, 77, 78, 79, 80, 81, 82, 83] (by decide +kernel) (by decide +kernel)
set_option maxRecDepth 20000 in
theorem gX4_mark_X4_isCat : GoodIn wsX4_mark (wsV RX4 70 RX4 yX4_isCat wsX4_isCat) := goodIn_app (goodIn_of _ (by decide +kernel)) ggX4_mark_X4_isCat
set_option maxRecDepth 20000 in
theorem ggX4_mark_X4_asCat : GoodIn wsX4_mark wsX4_asCat := goodIn_r _ [12, 13, 14, 15, 16, 17, 18, 19, 20, 21, 5, 22, 61, 62, 63, 64, 65, 66, 67, 68, 69, 70, 71, 84, 85, 86, 87, 88, 89, 90, 91] (by decide +kernel) (by decide +kernel)
set_option maxRecDepth 20000 in
theorem gX4_mark_X4_asCat : GoodIn wsX4_mark (wsV RX4 181 RX4 yX4_asCat wsX4_asCat) := goodIn_app (goodIn_of _ (by decide +kernel)) ggX4_mark_X4_asCat
set_option maxRecDepth 20000 in
theorem ggX4_mark_X4_asTom : GoodIn wsX4_mark wsX4_asTom := goodIn_r _ [26, 13, 27, 7, 9, 10, 11, 5, 12, 14, 15, 16, 17, 18, 19, 20, 21, 22, 28, 29, 30, 31, 32, 33, 34, 61, 62, 63, 64, 65, 66, 67, 68, 69, 70, 71, 84, 85, 86, 87, 88, 89, 90, 91, 72, 73, 74, 75, 76, 77, 78, 79, 80, 81, 82, 83] (by decide +kernel) (by decide +kernel)
set_option maxRecDepth 20000 in
theorem gX4_mark_X4_asTom : GoodIn wsX4_mark (wsV RX4 184 RX4 yX4_asTom wsX4_asTom) := goodIn_app (goodIn_of _ (by decide +kernel)) ggX4_mark_X4_asTom
set_option maxRecDepth 20000 in
theorem ggX4_mark_X4_asKitten : GoodIn wsX4_mark wsX4_asKitten := goodIn_r _ [38, 13, 39, 14, 9, 10, 11, 5, 12, 15, 16, 17, 18, 19, 20, 21, 22, 40, 41, 42, 43, 44, 61, 62, 63, 64, 65, 66, 67, 68, 69, 70, 71, 84, 85, 86, 87, 88, 89, 90, 91] (by decide +kernel) (by decide +kernel)
set_option maxRecDepth 20000 in
theorem gX4_mark_X4_asKitten : GoodIn wsX4_mark (wsV RX4 187 RX4 yX4_asKitten wsX4_asKitten) := goodIn_app (goodIn_of _ (by decide +kernel)) ggX4_mark_X4_asKitten
set_option maxRecDepth 20000 in
theorem ggX4_mark_X4_asGinger : GoodIn wsX4_mark wsX4_asGinger := goodIn_r _ [48, 13, 49, 23, 24, 25, 5, 26, 27, 7, 9, 10, 11, 12, 14, 15, 16, 17, 18, 19, 20, 21, 22, 28, 29, 30, 31, 32, 33, 34, 61, 62, 63, 64, 65, 66, 67, 68, 69, 70, 71, 84, 85, 86, 87, 88, 89, 90, 91, 72, 73, 74, 75, 76, 77, 78, 79, 80, 81, 82, 83] (by decide +kernel) (by decide +kernel)
set_option maxRecDepth 20000 in
theorem gX4_mark_X4_asGinger : GoodIn wsX4_mark (wsV RX4 190 RX4 yX4_asGinger wsX4_asGinger) := goodIn_app (goodIn_of _ (by decide +kernel)) ggX4_mark_X4_asGinger
set_option maxRecDepth 20000 in
theorem ggX4_mark_X4_asStray : GoodIn wsX4_mark wsX4_asStray := goodIn_r _ [53, 13, 54, 35, 36, 37, 5, 38, 39, 14, 9, 10, 11, 12, 15, 16, 17, 18, 19, 20, 21, 22, 40, 41, 42, 43, 44, 61, 62, 63, 64, 65, 66, 67, 68, 69, 70, 71, 84, 85, 86, 87, 88, 89, 90, 91] (by decide +kernel) (by decide +kernel)
set_option maxRecDepth 20000 in
theorem gX4_mark_X4_asStray : GoodIn wsX4_mark (wsV RX4 193 RX4 yX4_asStray wsX4_asStray) := goodIn_app (goodIn_of _ (by decide +kernel)) ggX4_mark_X4_asStray
set_option maxRecDepth 20000 in
theorem ggX4_mark_X4_asGhost : GoodIn wsX4_mark wsX4_asGhost := goodIn_r _ [58, 13, 59, 14, 60, 9, 10, 11, 5, 12, 15, 16, 17, 18, 19, 20, 21, 22, 61, 62, 63, 64, 65, 66, 67, 68, 69, 70, 71, 84, 85, 86, 87, 88, 89, 90, 91] (by decide +kernel) (by decide +kernel)
set_option maxRecDepth 20000 in
theorem gX4_mark_X4_asGhost : GoodIn wsX4_mark (wsV RX4 196 RX4 yX4_asGhost wsX4_asGhost) := goodIn_app (goodIn_of _ (by decide +kernel)) ggX4_mark_X4_asGhost
theorem dX4_mark_0 : decode cX4_mark 0 = .ok (.iload_n 1, 1) := by decide +kernel
theorem dX4_mark_1 : decode cX4_mark 1 = .ok (.ifCond .lt 17, 3) := by decide +kernel
theorem dX4_mark_4 : decode cX4_mark 4 = .ok (.iload_n 1, 1) := by decide +kernel
theorem dX4_mark_5 : decode cX4_mark 5 = .ok (.bipush 6, 2) := by decide +kernel
theorem dX4_mark_7 : decode cX4_mark 7 = .ok (.if_icmp .ge 11, 3) := by decide +kernel
theorem dX4_mark_10 : decode cX4_mark 10 = .ok (.aload_n 0, 1) := by decide +kernel
theorem dX4_mark_11 : decode cX4_mark 11 = .ok (.iload_n 2, 1) := by decide +kernel
theorem dX4_mark_12 : decode cX4_mark 12 = .ok (.invokevirtual 70, 3) := by decide +kernel
theorem dX4_mark_15 : decode cX4_mark 15 = .ok (.ifCond .ne 6, 3) := by decide +kernel
theorem dX4_mark_18 : decode cX4_mark 18 = .ok (.ldc 180, 2) := by decide +kernel
theorem dX4_mark_20 : decode cX4_mark 20 = .ok (.ireturn, 1) := by decide +kernel
theorem dX4_mark_21 : decode cX4_mark 21 = .ok (.iload_n 1, 1) := by decide +kernel
theorem dX4_mark_22 : decode cX4_mark 22 = .ok (.tableswitch 64 0 4 #[34, 40, 46, 52, 58], 34) := by decide +kernel
theorem dX4_mark_56 : decode cX4_mark 56 = .ok (.aload_n 0, 1) := by decide +kernel
theorem dX4_mark_57 : decode cX4_mark 57 = .ok (.iload_n 2, 1) := by decide +kernel
theorem dX4_mark_58 : decode cX4_mark 58 = .ok (.invokevirtual 181, 3) := by decide +kernel
theorem dX4_mark_61 : decode cX4_mark 61 = .ok (.ireturn, 1) := by decide +kernel
theorem dX4_mark_62 : decode cX4_mark 62 = .ok (.aload_n 0, 1) := by decide +kernel
theorem dX4_mark_63 : decode cX4_mark 63 = .ok (.iload_n 2, 1) := by decide +kernel
theorem dX4_mark_64 : decode cX4_mark 64 = .ok (.invokevirtual 184, 3) := by decide +kernel
theorem dX4_mark_67 : decode cX4_mark 67 = .ok (.ireturn, 1) := by decide +kernel
theorem dX4_mark_68 : decode cX4_mark 68 = .ok (.aload_n 0, 1) := by decide +kernel
theorem dX4_mark_69 : decode cX4_mark 69 = .ok (.iload_n 2, 1) := by decide +kernel
theorem dX4_mark_70 : decode cX4_mark 70 = .ok (.invokevirtual 187, 3) := by decide +kernel
theorem dX4_mark_73 : decode cX4_mark 73 = .ok (.ireturn, 1) := by decide +kernel
theorem dX4_mark_74 : decode cX4_mark 74 = .ok (.aload_n 0, 1) := by decide +kernel
theorem dX4_mark_75 : decode cX4_mark 75 = .ok (.iload_n 2, 1) := by decide +kernel
theorem dX4_mark_76 : decode cX4_mark 76 = .ok (.invokevirtual 190, 3) := by decide +kernel
theorem dX4_mark_79 : decode cX4_mark 79 = .ok (.ireturn, 1) := by decide +kernel
theorem dX4_mark_80 : decode cX4_mark 80 = .ok (.aload_n 0, 1) := by decide +kernel
theorem dX4_mark_81 : decode cX4_mark 81 = .ok (.iload_n 2, 1) := by decide +kernel
theorem dX4_mark_82 : decode cX4_mark 82 = .ok (.invokevirtual 193, 3) := by decide +kernel
theorem dX4_mark_85 : decode cX4_mark 85 = .ok (.ireturn, 1) := by decide +kernel
theorem dX4_mark_86 : decode cX4_mark 86 = .ok (.aload_n 0, 1) := by decide +kernel
theorem dX4_mark_87 : decode cX4_mark 87 = .ok (.iload_n 2, 1) := by decide +kernel
theorem dX4_mark_88 : decode cX4_mark 88 = .ok (.invokevirtual 196, 3) := by decide +kernel
theorem dX4_mark_91 : decode cX4_mark 91 = .ok (.ireturn, 1) := by decide +kernel
set_option maxRecDepth 20000 in
theorem ggX4_keep_X4_isImage : GoodIn wsX4_keep wsX4_isImage := goodIn_r _ [9, 1, 3, 35, 36, 37, 38, 39, 40, 41, 42, 43, 44, 45] (by decide +kernel) (by decide +kernel)
set_option maxRecDepth 20000 in
theorem gX4_keep_X4_isImage : GoodIn wsX4_keep (wsV RX4 199 RX4 yX4_isImage wsX4_isImage) := goodIn_app (goodIn_of _ (by decide +kernel)) ggX4_keep_X4_isImage
set_option maxRecDepth 20000 in
theorem ggX4_keep_X2_copyFrom : GoodIn wsX4_keep wsX2_copyFrom := goodIn_r _ [14, 15, 16, 17, 18, 19, 20, 21, 22, 23, 24, 25, 13, 26, 27, 8, 28, 29, 30, 31, 32, 33, 34, 46, 47, 48, 49, 50, 51, 52, 53] (by decide +kernel) (by decide +kernel)
set_option maxRecDepth 20000 in
theorem gX4_keep_X2_copyFrom : GoodIn wsX4_keep (wsV RX4 202 RX2 yX2_copyFrom wsX2_copyFrom) := goodIn_app (goodIn_of _ (by decide +kernel)) ggX4_keep_X2_copyFrom
theorem dX4_keep_0 : decode cX4_keep 0 = .ok (.aload_n 0, 1) := by decide +kernel
theorem dX4_keep_1 : decode cX4_keep 1 = .ok (.iload_n 1, 1) := by decide +kernel
theorem dX4_keep_2 : decode cX4_keep 2 = .ok (.invokevirtual 199, 3) := by decide +kernel
theorem dX4_keep_5 : decode cX4_keep 5 = .ok (.ifCond .ne 5, 3) := by decide +kernel
theorem dX4_keep_8 : decode cX4_keep 8 = .ok (.iconst (-1), 1) := by decide +kernel
theorem dX4_keep_9 : decode cX4_keep 9 = .ok (.ireturn, 1) := by decide +kernel
theorem dX4_keep_10 : decode cX4_keep 10 = .ok (.aload_n 0, 1) := by decide +kernel
theorem dX4_keep_11 : decode cX4_keep 11 = .ok (.getfield 40, 3) := by decide +kernel
theorem dX4_keep_14 : decode cX4_keep 14 = .ok (.iload_n 1, 1) := by decide +kernel
theorem dX4_keep_15 : decode cX4_keep 15 = .ok (.aaload, 1) := by decide +kernel
theorem dX4_keep_16 : decode cX4_keep 16 = .ok (.aload_n 0, 1) := by decide +kernel
theorem dX4_keep_17 : decode cX4_keep 17 = .ok (.getfield 33, 3) := by decide +kernel
theorem dX4_keep_20 : decode cX4_keep 20 = .ok (.invokevirtual 202, 3) := by decide +kernel
theorem dX4_keep_23 : decode cX4_keep 23 = .ok (.aload_n 0, 1) := by decide +kernel
theorem dX4_keep_24 : decode cX4_keep 24 = .ok (.getfield 44, 3) := by decide +kernel
theorem dX4_keep_27 : decode cX4_keep 27 = .ok (.iload_n 1, 1) := by decide +kernel
theorem dX4_keep_28 : decode cX4_keep 28 = .ok (.iconst 1, 1) := by decide +kernel
theorem dX4_keep_29 : decode cX4_keep 29 = .ok (.bastore, 1) := by decide +kernel
theorem dX4_keep_30 : decode cX4_keep 30 = .ok (.aload_n 0, 1) := by decide +kernel
theorem dX4_keep_31 : decode cX4_keep 31 = .ok (.getfield 33, 3) := by decide +kernel
theorem dX4_keep_34 : decode cX4_keep 34 = .ok (.getfield 103, 3) := by decide +kernel
theorem dX4_keep_37 : decode cX4_keep 37 = .ok (.ireturn, 1) := by decide +kernel
set_option maxRecDepth 20000 in
theorem ggX4_back_X4_isImage : GoodIn wsX4_back wsX4_isImage := goodIn_r _ [9, 3, 1, 35, 36, 37, 38, 39, 40, 41, 42, 43, 44, 45] (by decide +kernel) (by decide +kernel)
set_option maxRecDepth 20000 in
theorem gX4_back_X4_isImage : GoodIn wsX4_back (wsV RX4 199 RX4 yX4_isImage wsX4_isImage) := goodIn_app (goodIn_of _ (by decide +kernel)) ggX4_back_X4_isImage
set_option maxRecDepth 20000 in
theorem ggX4_back_X2_copyFrom : GoodIn wsX4_back wsX2_copyFrom := goodIn_r _ [14, 15, 16, 17, 18, 19, 20, 21, 22, 23, 24, 25, 13, 26, 27, 8, 28, 29, 30, 31, 32, 33, 34, 46, 47, 48, 49, 50, 51, 52, 53] (by decide +kernel) (by decide +kernel)
set_option maxRecDepth 20000 in
theorem gX4_back_X2_copyFrom : GoodIn wsX4_back (wsV RX4 202 RX2 yX2_copyFrom wsX2_copyFrom) := goodIn_app (goodIn_of _ (by decide +kernel)) ggX4_back_X2_copyFrom
theorem dX4_back_0 : decode cX4_back 0 = .ok (.aload_n 0, 1) := by decide +kernel
theorem dX4_back_1 : decode cX4_back 1 = .ok (.iload_n 1, 1) := by decide +kernel
theorem dX4_back_2 : decode cX4_back 2 = .ok (.invokevirtual 199, 3) := by decide +kernel
theorem dX4_back_5 : decode cX4_back 5 = .ok (.ifCond .ne 5, 3) := by decide +kernel
theorem dX4_back_8 : decode cX4_back 8 = .ok (.iconst (-1), 1) := by decide +kernel
theorem dX4_back_9 : decode cX4_back 9 = .ok (.ireturn, 1) := by decide +kernel
theorem dX4_back_10 : decode cX4_back 10 = .ok (.aload_n 0, 1) := by decide +kernel
theorem dX4_back_11 : decode cX4_back 11 = .ok (.getfield 44, 3) := by decide +kernel
theorem dX4_back_14 : decode cX4_back 14 = .ok (.iload_n 1, 1) := by decide +kernel
theorem dX4_back_15 : decode cX4_back 15 = .ok (.baload, 1) := by decide +kernel
theorem dX4_back_16 : decode cX4_back 16 = .ok (.ifCond .ne 6, 3) := by decide +kernel
theorem dX4_back_19 : decode cX4_back 19 = .ok (.bipush (-2), 2) := by decide +kernel
theorem dX4_back_21 : decode cX4_back 21 = .ok (.ireturn, 1) := by decide +kernel
theorem dX4_back_22 : decode cX4_back 22 = .ok (.aload_n 0, 1) := by decide +kernel
theorem dX4_back_23 : decode cX4_back 23 = .ok (.getfield 33, 3) := by decide +kernel
theorem dX4_back_26 : decode cX4_back 26 = .ok (.aload_n 0, 1) := by decide +kernel
theorem dX4_back_27 : decode cX4_back 27 = .ok (.getfield 40, 3) := by decide +kernel
theorem dX4_back_30 : decode cX4_back 30 = .ok (.iload_n 1, 1) := by decide +kernel
theorem dX4_back_31 : decode cX4_back 31 = .ok (.aaload, 1) := by decide +kernel
theorem dX4_back_32 : decode cX4_back 32 = .ok (.invokevirtual 202, 3) := by decide +kernel
theorem dX4_back_35 : decode cX4_back 35 = .ok (.aload_n 0, 1) := by decide +kernel
theorem dX4_back_36 : decode cX4_back 36 = .ok (.getfield 33, 3) := by decide +kernel
theorem dX4_back_39 : decode cX4_back 39 = .ok (.getfield 103, 3) := by decide +kernel
theorem dX4_back_42 : decode cX4_back 42 = .ok (.ireturn, 1) := by decide +kernel
set_option maxRecDepth 20000 in
theorem ggX4_count_J6_bitCount_0f7a4 : GoodIn wsX4_count wsJ6_bitCount_0f7a4 := goodIn_r _ [11, 12, 13, 14] (by decide +kernel) (by decide +kernel)
set_option maxRecDepth 20000 in
theorem gX4_count_J6_bitCount_0f7a4 : GoodIn wsX4_count (va_wsS RX4 125 yJ6_bitCount_0f7a4 wsJ6_bitCount_0f7a4) := goodIn_app (goodIn_of _ (by decide +kernel)) ggX4_count_J6_bitCount_0f7a4
theorem dX4_count_0 : decode cX4_count 0 = .ok (.iload_n 1, 1) := by decide +kernel
theorem dX4_count_1 : decode cX4_count 1 = .ok (.tableswitch 75 0 4 #[35, 43, 51, 59, 70], 35) := by decide +kernel
theorem dX4_count_36 : decode cX4_count 36 = .ok (.aload_n 0, 1) := by decide +kernel
theorem dX4_count_37 : decode cX4_count 37 = .ok (.getfield 16, 3) := by decide +kernel
theorem dX4_count_40 : decode cX4_count 40 = .ok (.getfield 133, 3) := by decide +kernel
theorem dX4_count_43 : decode cX4_count 43 = .ok (.ireturn, 1) := by decide +kernel
theorem dX4_count_44 : decode cX4_count 44 = .ok (.aload_n 0, 1) := by decide +kernel
theorem dX4_count_45 : decode cX4_count 45 = .ok (.getfield 16, 3) := by decide +kernel
theorem dX4_count_48 : decode cX4_count 48 = .ok (.getfield 130, 3) := by decide +kernel
theorem dX4_count_51 : decode cX4_count 51 = .ok (.ireturn, 1) := by decide +kernel
theorem dX4_count_52 : decode cX4_count 52 = .ok (.aload_n 0, 1) := by decide +kernel
theorem dX4_count_53 : decode cX4_count 53 = .ok (.getfield 16, 3) := by decide +kernel
theorem dX4_count_56 : decode cX4_count 56 = .ok (.getfield 206, 3) := by decide +kernel
theorem dX4_count_59 : decode cX4_count 59 = .ok (.ireturn, 1) := by decide +kernel
theorem dX4_count_60 : decode cX4_count 60 = .ok (.aload_n 0, 1) := by decide +kernel
theorem dX4_count_61 : decode cX4_count 61 = .ok (.getfield 33, 3) := by decide +kernel
theorem dX4_count_64 : decode cX4_count 64 = .ok (.getfield 93, 3) := by decide +kernel
theorem dX4_count_67 : decode cX4_count 67 = .ok (.invokestatic 125, 3) := by decide +kernel
theorem dX4_count_70 : decode cX4_count 70 = .ok (.ireturn, 1) := by decide +kernel
theorem dX4_count_71 : decode cX4_count 71 = .ok (.aload_n 0, 1) := by decide +kernel
theorem dX4_count_72 : decode cX4_count 72 = .ok (.getfield 59, 3) := by decide +kernel
theorem dX4_count_75 : decode cX4_count 75 = .ok (.ireturn, 1) := by decide +kernel
theorem dX4_count_76 : decode cX4_count 76 = .ok (.iconst (-1), 1) := by decide +kernel
theorem dX4_count_77 : decode cX4_count 77 = .ok (.ireturn, 1) := by decide +kernel
theorem dX4_trace_0 : decode cX4_trace 0 = .ok (.aload_n 0, 1) := by decide +kernel
theorem dX4_trace_1 : decode cX4_trace 1 = .ok (.getfield 209, 3) := by decide +kernel
theorem dX4_trace_4 : decode cX4_trace 4 = .ok (.lreturn, 1) := by decide +kernel
theorem dX4_isCat_0 : decode cX4_isCat 0 = .ok (.iload_n 1, 1) := by decide +kernel
theorem dX4_isCat_1 : decode cX4_isCat 1 = .ok (.ifCond .lt 18, 3) := by decide +kernel
theorem dX4_isCat_4 : decode cX4_isCat 4 = .ok (.iload_n 1, 1) := by decide +kernel
theorem dX4_isCat_5 : decode cX4_isCat 5 = .ok (.aload_n 0, 1) := by decide +kernel
theorem dX4_isCat_6 : decode cX4_isCat 6 = .ok (.getfield 16, 3) := by decide +kernel
theorem dX4_isCat_9 : decode cX4_isCat 9 = .ok (.getfield 206, 3) := by decide +kernel
theorem dX4_isCat_12 : decode cX4_isCat 12 = .ok (.if_icmp .ge 7, 3) := by decide +kernel
theorem dX4_isCat_15 : decode cX4_isCat 15 = .ok (.iconst 1, 1) := by decide +kernel
theorem dX4_isCat_16 : decode cX4_isCat 16 = .ok (.goto 4, 3) := by decide +kernel
theorem dX4_isCat_19 : decode cX4_isCat 19 = .ok (.iconst 0, 1) := by decide +kernel
theorem dX4_isCat_20 : decode cX4_isCat 20 = .ok (.ireturn, 1) := by decide +kernel
set_option maxRecDepth 20000 in
theorem ggX4_isFree_X0_isCell : GoodIn wsX4_isFree wsX0_isCell := goodIn_r _ [8, 9, 10, 11, 7, 12, 13, 14, 38, 39, 40, 41, 42, 43, 44, 45, 46, 47, 48, 49] (by decide +kernel) (by decide +kernel)
set_option maxRecDepth 20000 in
theorem gX4_isFree_X0_isCell : GoodIn wsX4_isFree (wsV RX4 87 RX0 yX0_isCell wsX0_isCell) := goodIn_app (goodIn_of _ (by decide +kernel)) ggX4_isFree_X0_isCell
set_option maxRecDepth 20000 in
theorem ggX4_isFree_X4_hasBit : GoodIn wsX4_isFree wsX4_hasBit := goodIn_r _ [18] (by decide +kernel) (by decide +kernel)
set_option maxRecDepth 20000 in
theorem gX4_isFree_X4_hasBit : GoodIn wsX4_isFree (va_wsS RX4 96 yX4_hasBit wsX4_hasBit) := goodIn_app (goodIn_of _ (by decide +kernel)) ggX4_isFree_X4_hasBit
theorem dX4_isFree_0 : decode cX4_isFree 0 = .ok (.aload_n 0, 1) := by decide +kernel
theorem dX4_isFree_1 : decode cX4_isFree 1 = .ok (.getfield 16, 3) := by decide +kernel
theorem dX4_isFree_4 : decode cX4_isFree 4 = .ok (.iload_n 1, 1) := by decide +kernel
theorem dX4_isFree_5 : decode cX4_isFree 5 = .ok (.invokevirtual 87, 3) := by decide +kernel
theorem dX4_isFree_8 : decode cX4_isFree 8 = .ok (.ifCond .eq 21, 3) := by decide +kernel
theorem dX4_isFree_11 : decode cX4_isFree 11 = .ok (.aload_n 0, 1) := by decide +kernel
theorem dX4_isFree_12 : decode cX4_isFree 12 = .ok (.getfield 33, 3) := by decide +kernel
theorem dX4_isFree_15 : decode cX4_isFree 15 = .ok (.getfield 122, 3) := by decide +kernel
theorem dX4_isFree_18 : decode cX4_isFree 18 = .ok (.iload_n 1, 1) := by decide +kernel
theorem dX4_isFree_19 : decode cX4_isFree 19 = .ok (.invokestatic 96, 3) := by decide +kernel
theorem dX4_isFree_22 : decode cX4_isFree 22 = .ok (.ifCond .ne 7, 3) := by decide +kernel
theorem dX4_isFree_25 : decode cX4_isFree 25 = .ok (.iconst 1, 1) := by decide +kernel
theorem dX4_isFree_26 : decode cX4_isFree 26 = .ok (.goto 4, 3) := by decide +kernel
theorem dX4_isFree_29 : decode cX4_isFree 29 = .ok (.iconst 0, 1) := by decide +kernel
theorem dX4_isFree_30 : decode cX4_isFree 30 = .ok (.ireturn, 1) := by decide +kernel
theorem dX4_isImage_0 : decode cX4_isImage 0 = .ok (.iload_n 1, 1) := by decide +kernel
theorem dX4_isImage_1 : decode cX4_isImage 1 = .ok (.ifCond .lt 25, 3) := by decide +kernel
theorem dX4_isImage_4 : decode cX4_isImage 4 = .ok (.iload_n 1, 1) := by decide +kernel
theorem dX4_isImage_5 : decode cX4_isImage 5 = .ok (.aload_n 0, 1) := by decide +kernel
theorem dX4_isImage_6 : decode cX4_isImage 6 = .ok (.getfield 40, 3) := by decide +kernel
theorem dX4_isImage_9 : decode cX4_isImage 9 = .ok (.arraylength, 1) := by decide +kernel
theorem dX4_isImage_10 : decode cX4_isImage 10 = .ok (.if_icmp .ge 16, 3) := by decide +kernel
theorem dX4_isImage_13 : decode cX4_isImage 13 = .ok (.iload_n 1, 1) := by decide +kernel
theorem dX4_isImage_14 : decode cX4_isImage 14 = .ok (.aload_n 0, 1) := by decide +kernel
theorem dX4_isImage_15 : decode cX4_isImage 15 = .ok (.getfield 44, 3) := by decide +kernel
theorem dX4_isImage_18 : decode cX4_isImage 18 = .ok (.arraylength, 1) := by decide +kernel
theorem dX4_isImage_19 : decode cX4_isImage 19 = .ok (.if_icmp .ge 7, 3) := by decide +kernel
theorem dX4_isImage_22 : decode cX4_isImage 22 = .ok (.iconst 1, 1) := by decide +kernel
theorem dX4_isImage_23 : decode cX4_isImage 23 = .ok (.goto 4, 3) := by decide +kernel
theorem dX4_isImage_26 : decode cX4_isImage 26 = .ok (.iconst 0, 1) := by decide +kernel
theorem dX4_isImage_27 : decode cX4_isImage 27 = .ok (.ireturn, 1) := by decide +kernel
set_option maxRecDepth 20000 in
theorem ggX4_sketchWith_X2_foresee : GoodIn wsX4_sketchWith wsX2_foresee := goodIn_r _ [7, 8, 9, 10, 11, 6, 12, 13, 14, 15, 16, 17, 18, 19, 20, 21, 22, 23, 24, 25, 26, 27, 28, 29, 30, 31, 32, 33, 34, 35, 36, 37, 38, 50, 51, 52, 53, 54, 55, 56, 57] (by decide +kernel) (by decide +kernel)
set_option maxRecDepth 20000 in
theorem gX4_sketchWith_X2_foresee : GoodIn wsX4_sketchWith (wsV RX4 213 RX2 yX2_foresee wsX2_foresee) := goodIn_app (goodIn_of _ (by decide +kernel)) ggX4_sketchWith_X2_foresee
theorem dX4_sketchWith_0 : decode cX4_sketchWith 0 = .ok (.aload_n 0, 1) := by decide +kernel
theorem dX4_sketchWith_1 : decode cX4_sketchWith 1 = .ok (.getfield 37, 3) := by decide +kernel
theorem dX4_sketchWith_4 : decode cX4_sketchWith 4 = .ok (.aload_n 0, 1) := by decide +kernel
theorem dX4_sketchWith_5 : decode cX4_sketchWith 5 = .ok (.getfield 33, 3) := by decide +kernel
theorem dX4_sketchWith_8 : decode cX4_sketchWith 8 = .ok (.iload_n 1, 1) := by decide +kernel
theorem dX4_sketchWith_9 : decode cX4_sketchWith 9 = .ok (.invokevirtual 213, 3) := by decide +kernel
theorem dX4_sketchWith_12 : decode cX4_sketchWith 12 = .ok (.aload_n 0, 1) := by decide +kernel
theorem dX4_sketchWith_13 : decode cX4_sketchWith 13 = .ok (.getfield 37, 3) := by decide +kernel
theorem dX4_sketchWith_16 : decode cX4_sketchWith 16 = .ok (.areturn, 1) := by decide +kernel
set_option maxRecDepth 20000 in
theorem ggX4_soonestWith_X4_sketchWith : GoodIn wsX4_soonestWith wsX4_sketchWith := goodIn_r _ [6, 7, 8, 9, 10, 11, 12, 13, 14, 15, 16, 17, 18, 19, 20, 21, 22, 23, 24, 25, 26, 27, 28, 29, 30, 5, 31, 32, 33, 34, 35, 36, 37, 38, 39, 40, 41, 42, 43, 127, 128, 129, 130, 131, 132, 133, 134, 135, 136, 137, 138, 139, 140, 141, 142, 143, 144, 145] (by decide +kernel) (by decide +kernel)
set_option maxRecDepth 20000 in
theorem gX4_soonestWith_X4_sketchWith : GoodIn wsX4_soonestWith (wsV RX4 140 RX4 yX4_sketchWith wsX4_sketchWith) := goodIn_app (goodIn_of _ (by decide +kernel)) ggX4_soonestWith_X4_sketchWith
set_option maxRecDepth 20000 in
theorem ggX4_soonestWith_X3_soonestFrom : GoodIn wsX4_soonestWith wsX3_soonestFrom := goodIn_r _ [47, 48, 49, 50, 51, 52, 53, 54, 55, 56, 57, 58, 59, 12, 60, 19, 14, 20, 24, 22, 26, 27, 28, 29, 30, 5, 31, 61, 62, 63, 64, 65, 66, 67, 68, 69, 70, 71, 72, 73, 74, 75, 76, 77, 78, 79, 80, 81, 82, 83, 84, 85, 86, 87, 88, 89, 90, 91, 92, 21, 38, 39, 93, 94, 95, 96, 97, 98, 99, 100, 101, 102, 103, 104, 105, 106, 107, 108, 109, 32, 33, 110, 111, 112, 113, 25, 34, 35, 36, 37, 114, 115, 116, 117, 118, 119, 120, 121, 122, 123, 124, 125, 126, 146, 147, 148, 149, 150, 151, 152, 153, 154, 155, 156, 157, 138, 139, 140, 141, 142, 143, 144, 145] (by decide +kernel) (by decide +kernel)
set_option maxRecDepth 20000 in
theorem gX4_soonestWith_X3_soonestFrom : GoodIn wsX4_soonestWith (va_wsS RX4 217 yX3_soonestFrom wsX3_soonestFrom) := goodIn_app (goodIn_of _ (by decide +kernel)) ggX4_soonestWith_X3_soonestFrom
theorem dX4_soonestWith_0 : decode cX4_soonestWith 0 = .ok (.aload_n 0, 1) := by decide +kernel
theorem dX4_soonestWith_1 : decode cX4_soonestWith 1 = .ok (.getfield 16, 3) := by decide +kernel
theorem dX4_soonestWith_4 : decode cX4_soonestWith 4 = .ok (.aload_n 0, 1) := by decide +kernel
theorem dX4_soonestWith_5 : decode cX4_soonestWith 5 = .ok (.iload_n 1, 1) := by decide +kernel
theorem dX4_soonestWith_6 : decode cX4_soonestWith 6 = .ok (.invokevirtual 140, 3) := by decide +kernel
theorem dX4_soonestWith_9 : decode cX4_soonestWith 9 = .ok (.invokestatic 217, 3) := by decide +kernel
theorem dX4_soonestWith_12 : decode cX4_soonestWith 12 = .ok (.ireturn, 1) := by decide +kernel
set_option maxRecDepth 20000 in
theorem ggX4_soonestBaited_X4_sketchWith : GoodIn wsX4_soonestBaited wsX4_sketchWith := goodIn_r _ [7, 8, 9, 10, 11, 12, 13, 14, 15, 16, 17, 18, 19, 20, 21, 22, 23, 24, 25, 26, 27, 28, 29, 30, 31, 6, 32, 33, 34, 35, 36, 37, 38, 39, 40, 41, 42, 43, 44, 136, 137, 138, 139, 140, 141, 142, 143, 144, 145, 146, 128, 129, 130, 131, 132, 133, 134, 135] (by decide +kernel) (by decide +kernel)
set_option maxRecDepth 20000 in
theorem gX4_soonestBaited_X4_sketchWith : GoodIn wsX4_soonestBaited (wsV RX4 140 RX4 yX4_sketchWith wsX4_sketchWith) := goodIn_app (goodIn_of _ (by decide +kernel)) ggX4_soonestBaited_X4_sketchWith
set_option maxRecDepth 20000 in
theorem ggX4_soonestBaited_X3_soonestFrom : GoodIn wsX4_soonestBaited wsX3_soonestFrom := goodIn_r _ [48, 49, 50, 51, 52, 53, 54, 55, 56, 57, 58, 59, 60, 13, 61, 20, 15, 21, 25, 23, 27, 28, 29, 30, 31, 6, 32, 62, 63, 64, 65, 66, 67, 68, 69, 70, 71, 72, 73, 74, 75, 76, 77, 78, 79, 80, 81, 82, 83, 84, 85, 86, 87, 88, 89, 90, 91, 92, 93, 22, 39, 40, 94, 95, 96, 97, 98, 99, 100, 101, 102, 103, 104, 105, 106, 107, 108, 109, 110, 33, 34, 111, 112, 113, 114, 26, 35, 36, 37, 38, 115, 116, 117, 118, 119, 120, 121, 122, 123, 124, 125, 126, 127, 147, 148, 149, 150, 151, 152, 153, 154, 155, 156, 157, 158, 128, 129, 130, 131, 132, 133, 134, 135] (by decide +kernel) (by decide +kernel)
set_option maxRecDepth 20000 in
theorem gX4_soonestBaited_X3_soonestFrom : GoodIn wsX4_soonestBaited (va_wsS RX4 217 yX3_soonestFrom wsX3_soonestFrom) := goodIn_app (goodIn_of _ (by decide +kernel)) ggX4_soonestBaited_X3_soonestFrom
theorem dX4_soonestBaited_0 : decode cX4_soonestBaited 0 = .ok (.aload_n 0, 1) := by decide +kernel
theorem dX4_soonestBaited_1 : decode cX4_soonestBaited 1 = .ok (.iconst 0, 1) := by decide +kernel
theorem dX4_soonestBaited_2 : decode cX4_soonestBaited 2 = .ok (.invokevirtual 140, 3) := by decide +kernel
theorem dX4_soonestBaited_5 : decode cX4_soonestBaited 5 = .ok (.astore_n 2, 1) := by decide +kernel
theorem dX4_soonestBaited_6 : decode cX4_soonestBaited 6 = .ok (.aload_n 2, 1) := by decide +kernel
theorem dX4_soonestBaited_7 : decode cX4_soonestBaited 7 = .ok (.dup, 1) := by decide +kernel
theorem dX4_soonestBaited_8 : decode cX4_soonestBaited 8 = .ok (.getfield 93, 3) := by decide +kernel
theorem dX4_soonestBaited_11 : decode cX4_soonestBaited 11 = .ok (.iconst 1, 1) := by decide +kernel
theorem dX4_soonestBaited_12 : decode cX4_soonestBaited 12 = .ok (.iload_n 1, 1) := by decide +kernel
theorem dX4_soonestBaited_13 : decode cX4_soonestBaited 13 = .ok (.ishl, 1) := by decide +kernel
theorem dX4_soonestBaited_14 : decode cX4_soonestBaited 14 = .ok (.ior, 1) := by decide +kernel
theorem dX4_soonestBaited_15 : decode cX4_soonestBaited 15 = .ok (.putfield 93, 3) := by decide +kernel
theorem dX4_soonestBaited_18 : decode cX4_soonestBaited 18 = .ok (.aload_n 0, 1) := by decide +kernel
theorem dX4_soonestBaited_19 : decode cX4_soonestBaited 19 = .ok (.getfield 16, 3) := by decide +kernel
theorem dX4_soonestBaited_22 : decode cX4_soonestBaited 22 = .ok (.aload_n 2, 1) := by decide +kernel
theorem dX4_soonestBaited_23 : decode cX4_soonestBaited 23 = .ok (.invokestatic 217, 3) := by decide +kernel
theorem dX4_soonestBaited_26 : decode cX4_soonestBaited 26 = .ok (.ireturn, 1) := by decide +kernel
set_option maxRecDepth 20000 in
theorem ggX4_worstCell_X0_cells : GoodIn wsX4_worstCell wsX0_cells := goodIn_r _ [6, 7, 8, 152, 153, 154, 155, 156, 157, 158, 159, 160, 161, 162, 163] (by decide +kernel) (by decide +kernel)
set_option maxRecDepth 20000 in
theorem gX4_worstCell_X0_cells : GoodIn wsX4_worstCell (wsV RX4 157 RX0 yX0_cells wsX0_cells) := goodIn_app (goodIn_of _ (by decide +kernel)) ggX4_worstCell_X0_cells
set_option maxRecDepth 20000 in
theorem ggX4_worstCell_X4_isFree : GoodIn wsX4_worstCell wsX4_isFree := goodIn_r _ [13, 1, 14, 15, 16, 17, 18, 5, 19, 20, 3, 4, 6, 7, 8, 21, 22, 12, 23, 141, 142, 143, 144, 145, 146, 147, 148, 149, 150, 151, 164, 165, 166, 167, 168, 169, 170, 171, 152, 153, 154, 155, 156, 157, 158, 159, 160, 161, 162, 163] (by decide +kernel) (by decide +kernel)
set_option maxRecDepth 20000 in
theorem gX4_worstCell_X4_isFree : GoodIn wsX4_worstCell (wsV RX4 170 RX4 yX4_isFree wsX4_isFree) := goodIn_app (goodIn_of _ (by decide +kernel)) ggX4_worstCell_X4_isFree
set_option maxRecDepth 20000 in
theorem ggX4_worstCell_X4_sketchWith : GoodIn wsX4_worstCell wsX4_sketchWith := goodIn_r _ [27, 28, 14, 29, 30, 31, 32, 33, 34, 35, 36, 37, 38, 39, 40, 41, 42, 43, 44, 45, 46, 47, 48, 49, 50, 12, 51, 52, 53, 54, 55, 56, 57, 22, 23, 58, 59, 60, 61, 141, 142, 143, 144, 145, 146, 147, 148, 149, 150, 151, 164, 165, 166, 167, 168, 169, 170, 171] (by decide +kernel) (by decide +kernel)
set_option maxRecDepth 20000 in
theorem gX4_worstCell_X4_sketchWith : GoodIn wsX4_worstCell (wsV RX4 140 RX4 yX4_sketchWith wsX4_sketchWith) := goodIn_app (goodIn_of _ (by decide +kernel)) ggX4_worstCell_X4_sketchWith
set_option maxRecDepth 20000 in
theorem ggX4_worstCell_X3_soonestFrom : GoodIn wsX4_worstCell wsX3_soonestFrom := goodIn_r _ [65, 66, 67, 68, 69, 70, 5, 71, 8, 7, 72, 73, 74, 32, 75, 39, 34, 40, 44, 42, 46, 47, 48, 49, 50, 12, 51, 76, 77, 78, 79, 80, 81, 82, 83, 84, 85, 86, 87, 88, 89, 90, 91, 92, 93, 94, 95, 96, 97, 98, 99, 100, 101, 102, 103, 104, 105, 106, 107, 41, 22, 23, 108, 109, 110, 111, 112, 113, 114, 115, 116, 117, 118, 119, 120, 121, 122, 123, 124, 52, 53, 125, 126, 127, 128, 45, 54, 55, 56, 57, 129, 130, 131, 132, 133, 134, 135, 136, 137, 20, 3, 4, 6, 152, 153, 154, 155, 156, 157, 158, 159, 160, 161, 162, 163, 164, 165, 166, 167, 168, 169, 170, 171] (by decide +kernel) (by decide +kernel)
set_option maxRecDepth 20000 in
theorem gX4_worstCell_X3_soonestFrom : GoodIn wsX4_worstCell (va_wsS RX4 217 yX3_soonestFrom wsX3_soonestFrom) := goodIn_app (goodIn_of _ (by decide +kernel)) ggX4_worstCell_X3_soonestFrom
set_option maxRecDepth 20000 in
theorem ggX4_worstCell_X4_isSooner : GoodIn wsX4_worstCell wsX4_isSooner := goodIn_r _ [140] (by decide +kernel) (by decide +kernel)
set_option maxRecDepth 20000 in
theorem gX4_worstCell_X4_isSooner : GoodIn wsX4_worstCell (va_wsS RX4 164 yX4_isSooner wsX4_isSooner) := goodIn_app (goodIn_of _ (by decide +kernel)) ggX4_worstCell_X4_isSooner
theorem dX4_worstCell_0 : decode cX4_worstCell 0 = .ok (.bipush (-9), 2) := by decide +kernel
theorem dX4_worstCell_2 : decode cX4_worstCell 2 = .ok (.istore_n 1, 1) := by decide +kernel
theorem dX4_worstCell_3 : decode cX4_worstCell 3 = .ok (.bipush (-9), 2) := by decide +kernel
theorem dX4_worstCell_5 : decode cX4_worstCell 5 = .ok (.istore_n 2, 1) := by decide +kernel
theorem dX4_worstCell_6 : decode cX4_worstCell 6 = .ok (.iconst 0, 1) := by decide +kernel
theorem dX4_worstCell_7 : decode cX4_worstCell 7 = .ok (.istore_n 3, 1) := by decide +kernel
theorem dX4_worstCell_8 : decode cX4_worstCell 8 = .ok (.iload_n 3, 1) := by decide +kernel
theorem dX4_worstCell_9 : decode cX4_worstCell 9 = .ok (.aload_n 0, 1) := by decide +kernel
theorem dX4_worstCell_10 : decode cX4_worstCell 10 = .ok (.getfield 16, 3) := by decide +kernel
theorem dX4_worstCell_13 : decode cX4_worstCell 13 = .ok (.invokevirtual 157, 3) := by decide +kernel
theorem dX4_worstCell_16 : decode cX4_worstCell 16 = .ok (.if_icmp .ge 53, 3) := by decide +kernel
theorem dX4_worstCell_19 : decode cX4_worstCell 19 = .ok (.aload_n 0, 1) := by decide +kernel
theorem dX4_worstCell_20 : decode cX4_worstCell 20 = .ok (.iload_n 3, 1) := by decide +kernel
theorem dX4_worstCell_21 : decode cX4_worstCell 21 = .ok (.invokevirtual 170, 3) := by decide +kernel
theorem dX4_worstCell_24 : decode cX4_worstCell 24 = .ok (.ifCond .eq 39, 3) := by decide +kernel
theorem dX4_worstCell_27 : decode cX4_worstCell 27 = .ok (.aload_n 0, 1) := by decide +kernel
theorem dX4_worstCell_28 : decode cX4_worstCell 28 = .ok (.getfield 16, 3) := by decide +kernel
theorem dX4_worstCell_31 : decode cX4_worstCell 31 = .ok (.aload_n 0, 1) := by decide +kernel
theorem dX4_worstCell_32 : decode cX4_worstCell 32 = .ok (.iconst 1, 1) := by decide +kernel
theorem dX4_worstCell_33 : decode cX4_worstCell 33 = .ok (.iload_n 3, 1) := by decide +kernel
theorem dX4_worstCell_34 : decode cX4_worstCell 34 = .ok (.ishl, 1) := by decide +kernel
theorem dX4_worstCell_35 : decode cX4_worstCell 35 = .ok (.invokevirtual 140, 3) := by decide +kernel
theorem dX4_worstCell_38 : decode cX4_worstCell 38 = .ok (.invokestatic 217, 3) := by decide +kernel
theorem dX4_worstCell_41 : decode cX4_worstCell 41 = .ok (.istore 4, 2) := by decide +kernel
theorem dX4_worstCell_43 : decode cX4_worstCell 43 = .ok (.iload_n 1, 1) := by decide +kernel
theorem dX4_worstCell_44 : decode cX4_worstCell 44 = .ok (.bipush (-9), 2) := by decide +kernel
theorem dX4_worstCell_46 : decode cX4_worstCell 46 = .ok (.if_icmp .eq 12, 3) := by decide +kernel
theorem dX4_worstCell_49 : decode cX4_worstCell 49 = .ok (.iload_n 2, 1) := by decide +kernel
theorem dX4_worstCell_50 : decode cX4_worstCell 50 = .ok (.iload 4, 2) := by decide +kernel
theorem dX4_worstCell_52 : decode cX4_worstCell 52 = .ok (.invokestatic 164, 3) := by decide +kernel
theorem dX4_worstCell_55 : decode cX4_worstCell 55 = .ok (.ifCond .eq 8, 3) := by decide +kernel
theorem dX4_worstCell_58 : decode cX4_worstCell 58 = .ok (.iload_n 3, 1) := by decide +kernel
theorem dX4_worstCell_59 : decode cX4_worstCell 59 = .ok (.istore_n 1, 1) := by decide +kernel
theorem dX4_worstCell_60 : decode cX4_worstCell 60 = .ok (.iload 4, 2) := by decide +kernel
theorem dX4_worstCell_62 : decode cX4_worstCell 62 = .ok (.istore_n 2, 1) := by decide +kernel
theorem dX4_worstCell_63 : decode cX4_worstCell 63 = .ok (.iinc 3 1, 3) := by decide +kernel
theorem dX4_worstCell_66 : decode cX4_worstCell 66 = .ok (.goto (-58), 3) := by decide +kernel
theorem dX4_worstCell_69 : decode cX4_worstCell 69 = .ok (.iload_n 1, 1) := by decide +kernel
theorem dX4_worstCell_70 : decode cX4_worstCell 70 = .ok (.ireturn, 1) := by decide +kernel
set_option maxRecDepth 20000 in
theorem ggX4_canClose_X2_foresee : GoodIn wsX4_canClose wsX2_foresee := goodIn_r _ [6, 7, 8, 9, 10, 5, 11, 12, 13, 14, 15, 16, 17, 18, 19, 20, 21, 22, 23, 24, 25, 26, 27, 28, 29, 30, 31, 32, 33, 34, 35, 36, 37, 125, 126, 127, 128, 129, 130, 131, 132] (by decide +kernel) (by decide +kernel)
set_option maxRecDepth 20000 in
theorem gX4_canClose_X2_foresee : GoodIn wsX4_canClose (wsV RX4 213 RX2 yX2_foresee wsX2_foresee) := goodIn_app (goodIn_of _ (by decide +kernel)) ggX4_canClose_X2_foresee
set_option maxRecDepth 20000 in
theorem ggX4_canClose_X3_soonestFrom : GoodIn wsX4_canClose wsX3_soonestFrom := goodIn_r _ [41, 42, 43, 44, 45, 46, 47, 48, 49, 50, 51, 52, 53, 5, 54, 12, 7, 13, 17, 15, 19, 20, 21, 22, 23, 24, 25, 55, 56, 57, 58, 59, 60, 61, 62, 63, 64, 65, 66, 67, 68, 69, 70, 71, 72, 73, 74, 75, 76, 77, 78, 79, 80, 81, 82, 83, 84, 85, 86, 14, 32, 33, 87, 88, 89, 90, 91, 92, 93, 94, 95, 96, 97, 98, 99, 100, 101, 102, 103, 26, 27, 104, 105, 106, 107, 18, 28, 29, 30, 31, 108, 109, 110, 111, 112, 113, 114, 115, 116, 117, 118, 119, 120, 133, 134, 135, 136, 137, 138, 139, 140, 141, 142, 143, 144, 125, 126, 127, 128, 129, 130, 131, 132] (by decide +kernel) (by decide +kernel)
set_option maxRecDepth 20000 in
theorem gX4_canClose_X3_soonestFrom : GoodIn wsX4_canClose (va_wsS RX4 217 yX3_soonestFrom wsX3_soonestFrom) := goodIn_app (goodIn_of _ (by decide +kernel)) ggX4_canClose_X3_soonestFrom
set_option maxRecDepth 20000 in
theorem ggX4_canClose_X0_cells : GoodIn wsX4_canClose wsX0_cells := goodIn_r _ [120, 50, 49, 133, 134, 135, 136, 137, 138, 139, 140, 141, 142, 143, 144] (by decide +kernel) (by decide +kernel)
set_option maxRecDepth 20000 in
theorem gX4_canClose_X0_cells : GoodIn wsX4_canClose (wsV RX4 157 RX0 yX0_cells wsX0_cells) := goodIn_app (goodIn_of _ (by decide +kernel)) ggX4_canClose_X0_cells
set_option maxRecDepth 20000 in
theorem ggX4_canClose_X4_hasBit : GoodIn wsX4_canClose wsX4_hasBit := goodIn_r _ [33] (by decide +kernel) (by decide +kernel)
set_option maxRecDepth 20000 in
theorem gX4_canClose_X4_hasBit : GoodIn wsX4_canClose (va_wsS RX4 96 yX4_hasBit wsX4_hasBit) := goodIn_app (goodIn_of _ (by decide +kernel)) ggX4_canClose_X4_hasBit
set_option maxRecDepth 20000 in
theorem ggX4_canClose_X4_canClose : GoodIn wsX4_canClose wsX4_canClose := goodIn_r _ [0, 1, 2, 3, 4, 5, 6, 7, 8, 9, 10, 11, 12, 13, 14, 15, 16, 17, 18, 19, 20, 21, 22, 23, 24, 25, 26, 27, 28, 29, 30, 31, 32, 33, 34, 35, 36, 37, 38, 39, 40, 41, 42, 43, 44, 45, 46, 47, 48, 49, 50, 51, 52, 53, 54, 55, 56, 57, 58, 59, 60, 61, 62, 63, 64, 65, 66, 67, 68, 69, 70, 71, 72, 73, 74, 75, 76, 77, 78, 79, 80, 81, 82, 83, 84, 85, 86, 87, 88, 89, 90, 91, 92, 93, 94, 95, 96, 97, 98, 99, 100, 101, 102, 103, 104, 105, 106, 107, 108, 109, 110, 111, 112, 113, 114, 115, 116, 117, 118, 119, 120, 121, 122, 123, 124, 125, 126, 127, 128, 129, 130, 131, 132, 133, 134, 135, 136, 137, 138, 139, 140, 141, 142, 143, 144] (by decide +kernel) (by decide +kernel)
set_option maxRecDepth 20000 in
theorem gX4_canClose_X4_canClose : GoodIn wsX4_canClose (va_wsS RX4 173 yX4_canClose wsX4_canClose) := goodIn_app (goodIn_of _ (by decide +kernel)) ggX4_canClose_X4_canClose
theorem dX4_canClose_0 : decode cX4_canClose 0 = .ok (.iload 5, 2) := by decide +kernel
theorem dX4_canClose_2 : decode cX4_canClose 2 = .ok (.iconst 3, 1) := by decide +kernel
theorem dX4_canClose_3 : decode cX4_canClose 3 = .ok (.if_icmp .le 5, 3) := by decide +kernel
theorem dX4_canClose_6 : decode cX4_canClose 6 = .ok (.iconst 0, 1) := by decide +kernel
theorem dX4_canClose_7 : decode cX4_canClose 7 = .ok (.ireturn, 1) := by decide +kernel
theorem dX4_canClose_8 : decode cX4_canClose 8 = .ok (.iload 5, 2) := by decide +kernel
theorem dX4_canClose_10 : decode cX4_canClose 10 = .ok (.ifCond .gt 25, 3) := by decide +kernel
theorem dX4_canClose_13 : decode cX4_canClose 13 = .ok (.aload_n 2, 1) := by decide +kernel
theorem dX4_canClose_14 : decode cX4_canClose 14 = .ok (.aload_n 1, 1) := by decide +kernel
theorem dX4_canClose_15 : decode cX4_canClose 15 = .ok (.iload_n 3, 1) := by decide +kernel
theorem dX4_canClose_16 : decode cX4_canClose 16 = .ok (.invokevirtual 213, 3) := by decide +kernel
theorem dX4_canClose_19 : decode cX4_canClose 19 = .ok (.aload_n 0, 1) := by decide +kernel
theorem dX4_canClose_20 : decode cX4_canClose 20 = .ok (.aload_n 2, 1) := by decide +kernel
theorem dX4_canClose_21 : decode cX4_canClose 21 = .ok (.invokestatic 217, 3) := by decide +kernel
theorem dX4_canClose_24 : decode cX4_canClose 24 = .ok (.bipush (-9), 2) := by decide +kernel
theorem dX4_canClose_26 : decode cX4_canClose 26 = .ok (.if_icmp .ne 7, 3) := by decide +kernel
theorem dX4_canClose_29 : decode cX4_canClose 29 = .ok (.iconst 1, 1) := by decide +kernel
theorem dX4_canClose_30 : decode cX4_canClose 30 = .ok (.goto 4, 3) := by decide +kernel
theorem dX4_canClose_33 : decode cX4_canClose 33 = .ok (.iconst 0, 1) := by decide +kernel
theorem dX4_canClose_34 : decode cX4_canClose 34 = .ok (.ireturn, 1) := by decide +kernel
theorem dX4_canClose_35 : decode cX4_canClose 35 = .ok (.iload 4, 2) := by decide +kernel
theorem dX4_canClose_37 : decode cX4_canClose 37 = .ok (.istore 6, 2) := by decide +kernel
theorem dX4_canClose_39 : decode cX4_canClose 39 = .ok (.iload 6, 2) := by decide +kernel
theorem dX4_canClose_41 : decode cX4_canClose 41 = .ok (.aload_n 0, 1) := by decide +kernel
theorem dX4_canClose_42 : decode cX4_canClose 42 = .ok (.invokevirtual 157, 3) := by decide +kernel
theorem dX4_canClose_45 : decode cX4_canClose 45 = .ok (.if_icmp .ge 58, 3) := by decide +kernel
theorem dX4_canClose_48 : decode cX4_canClose 48 = .ok (.aload_n 1, 1) := by decide +kernel
theorem dX4_canClose_49 : decode cX4_canClose 49 = .ok (.getfield 122, 3) := by decide +kernel
theorem dX4_canClose_52 : decode cX4_canClose 52 = .ok (.iload 6, 2) := by decide +kernel
theorem dX4_canClose_54 : decode cX4_canClose 54 = .ok (.invokestatic 96, 3) := by decide +kernel
theorem dX4_canClose_57 : decode cX4_canClose 57 = .ok (.ifCond .ne 7, 3) := by decide +kernel
theorem dX4_canClose_60 : decode cX4_canClose 60 = .ok (.iconst 1, 1) := by decide +kernel
theorem dX4_canClose_61 : decode cX4_canClose 61 = .ok (.goto 4, 3) := by decide +kernel
theorem dX4_canClose_64 : decode cX4_canClose 64 = .ok (.iconst 0, 1) := by decide +kernel
theorem dX4_canClose_65 : decode cX4_canClose 65 = .ok (.istore 7, 2) := by decide +kernel
theorem dX4_canClose_67 : decode cX4_canClose 67 = .ok (.iload 7, 2) := by decide +kernel
theorem dX4_canClose_69 : decode cX4_canClose 69 = .ok (.ifCond .eq 28, 3) := by decide +kernel
theorem dX4_canClose_72 : decode cX4_canClose 72 = .ok (.aload_n 0, 1) := by decide +kernel
theorem dX4_canClose_73 : decode cX4_canClose 73 = .ok (.aload_n 1, 1) := by decide +kernel
theorem dX4_canClose_74 : decode cX4_canClose 74 = .ok (.aload_n 2, 1) := by decide +kernel
theorem dX4_canClose_75 : decode cX4_canClose 75 = .ok (.iload_n 3, 1) := by decide +kernel
theorem dX4_canClose_76 : decode cX4_canClose 76 = .ok (.iconst 1, 1) := by decide +kernel
theorem dX4_canClose_77 : decode cX4_canClose 77 = .ok (.iload 6, 2) := by decide +kernel
theorem dX4_canClose_79 : decode cX4_canClose 79 = .ok (.ishl, 1) := by decide +kernel
theorem dX4_canClose_80 : decode cX4_canClose 80 = .ok (.ior, 1) := by decide +kernel
theorem dX4_canClose_81 : decode cX4_canClose 81 = .ok (.iload 6, 2) := by decide +kernel
theorem dX4_canClose_83 : decode cX4_canClose 83 = .ok (.iconst 1, 1) := by decide +kernel
theorem dX4_canClose_84 : decode cX4_canClose 84 = .ok (.iadd, 1) := by decide +kernel
theorem dX4_canClose_85 : decode cX4_canClose 85 = .ok (.iload 5, 2) := by decide +kernel
theorem dX4_canClose_87 : decode cX4_canClose 87 = .ok (.iconst 1, 1) := by decide +kernel
theorem dX4_canClose_88 : decode cX4_canClose 88 = .ok (.isub, 1) := by decide +kernel
theorem dX4_canClose_89 : decode cX4_canClose 89 = .ok (.invokestatic 173, 3) := by decide +kernel
theorem dX4_canClose_92 : decode cX4_canClose 92 = .ok (.ifCond .eq 5, 3) := by decide +kernel
theorem dX4_canClose_95 : decode cX4_canClose 95 = .ok (.iconst 1, 1) := by decide +kernel
theorem dX4_canClose_96 : decode cX4_canClose 96 = .ok (.ireturn, 1) := by decide +kernel
theorem dX4_canClose_97 : decode cX4_canClose 97 = .ok (.iinc 6 1, 3) := by decide +kernel
theorem dX4_canClose_100 : decode cX4_canClose 100 = .ok (.goto (-61), 3) := by decide +kernel
theorem dX4_canClose_103 : decode cX4_canClose 103 = .ok (.iconst 0, 1) := by decide +kernel
theorem dX4_canClose_104 : decode cX4_canClose 104 = .ok (.ireturn, 1) := by decide +kernel
set_option maxRecDepth 20000 in
theorem ggX4_asCat_X2_cellOf : GoodIn wsX4_asCat wsX2_cellOf := goodIn_r _ [7, 8, 9, 10, 11, 23, 24, 25, 26, 27, 28, 29, 30] (by decide +kernel) (by decide +kernel)
set_option maxRecDepth 20000 in
theorem gX4_asCat_X2_cellOf : GoodIn wsX4_asCat (wsV RX4 74 RX2 yX2_cellOf wsX2_cellOf) := goodIn_app (goodIn_of _ (by decide +kernel)) ggX4_asCat_X2_cellOf
theorem dX4_asCat_0 : decode cX4_asCat 0 = .ok (.aload_n 0, 1) := by decide +kernel
theorem dX4_asCat_1 : decode cX4_asCat 1 = .ok (.dup, 1) := by decide +kernel
theorem dX4_asCat_2 : decode cX4_asCat 2 = .ok (.getfield 209, 3) := by decide +kernel
theorem dX4_asCat_5 : decode cX4_asCat 5 = .ok (.lconst 1, 1) := by decide +kernel
theorem dX4_asCat_6 : decode cX4_asCat 6 = .ok (.ladd, 1) := by decide +kernel
theorem dX4_asCat_7 : decode cX4_asCat 7 = .ok (.putfield 209, 3) := by decide +kernel
theorem dX4_asCat_10 : decode cX4_asCat 10 = .ok (.aload_n 0, 1) := by decide +kernel
theorem dX4_asCat_11 : decode cX4_asCat 11 = .ok (.getfield 33, 3) := by decide +kernel
theorem dX4_asCat_14 : decode cX4_asCat 14 = .ok (.iload_n 1, 1) := by decide +kernel
theorem dX4_asCat_15 : decode cX4_asCat 15 = .ok (.invokevirtual 74, 3) := by decide +kernel
theorem dX4_asCat_18 : decode cX4_asCat 18 = .ok (.ireturn, 1) := by decide +kernel
set_option maxRecDepth 20000 in
theorem ggX4_asTom_X4_asCat : GoodIn wsX4_asTom wsX4_asCat := goodIn_r _ [8, 1, 9, 10, 11, 12, 13, 14, 15, 16, 7, 17, 25, 26, 27, 28, 29, 30, 31, 32, 33, 34, 35, 36, 37, 38, 39, 40, 41, 42, 43] (by decide +kernel) (by decide +kernel)
set_option maxRecDepth 20000 in
theorem gX4_asTom_X4_asCat : GoodIn wsX4_asTom (wsV RX4 181 RX4 yX4_asCat wsX4_asCat) := goodIn_app (goodIn_of _ (by decide +kernel)) ggX4_asTom_X4_asCat
set_option maxRecDepth 20000 in
theorem ggX4_asTom_X0_habitOf : GoodIn wsX4_asTom wsX0_habitOf := goodIn_r _ [22, 23, 24, 16, 7, 17, 44, 45, 46, 47, 48, 49, 50, 51, 52, 53, 54, 55] (by decide +kernel) (by decide +kernel)
set_option maxRecDepth 20000 in
theorem gX4_asTom_X0_habitOf : GoodIn wsX4_asTom (wsV RX4 78 RX0 yX0_habitOf wsX0_habitOf) := goodIn_app (goodIn_of _ (by decide +kernel)) ggX4_asTom_X0_habitOf
theorem dX4_asTom_0 : decode cX4_asTom 0 = .ok (.aload_n 0, 1) := by decide +kernel
theorem dX4_asTom_1 : decode cX4_asTom 1 = .ok (.dup, 1) := by decide +kernel
theorem dX4_asTom_2 : decode cX4_asTom 2 = .ok (.getfield 209, 3) := by decide +kernel
theorem dX4_asTom_5 : decode cX4_asTom 5 = .ok (.ldc2_w 221, 3) := by decide +kernel
theorem dX4_asTom_8 : decode cX4_asTom 8 = .ok (.ladd, 1) := by decide +kernel
theorem dX4_asTom_9 : decode cX4_asTom 9 = .ok (.putfield 209, 3) := by decide +kernel
theorem dX4_asTom_12 : decode cX4_asTom 12 = .ok (.aload_n 0, 1) := by decide +kernel
theorem dX4_asTom_13 : decode cX4_asTom 13 = .ok (.iload_n 1, 1) := by decide +kernel
theorem dX4_asTom_14 : decode cX4_asTom 14 = .ok (.invokevirtual 181, 3) := by decide +kernel
theorem dX4_asTom_17 : decode cX4_asTom 17 = .ok (.aload_n 0, 1) := by decide +kernel
theorem dX4_asTom_18 : decode cX4_asTom 18 = .ok (.getfield 16, 3) := by decide +kernel
theorem dX4_asTom_21 : decode cX4_asTom 21 = .ok (.iload_n 1, 1) := by decide +kernel
theorem dX4_asTom_22 : decode cX4_asTom 22 = .ok (.invokevirtual 78, 3) := by decide +kernel
theorem dX4_asTom_25 : decode cX4_asTom 25 = .ok (.iadd, 1) := by decide +kernel
theorem dX4_asTom_26 : decode cX4_asTom 26 = .ok (.ireturn, 1) := by decide +kernel
set_option maxRecDepth 20000 in
theorem ggX4_asKitten_X4_asCat : GoodIn wsX4_asKitten wsX4_asCat := goodIn_r _ [8, 1, 3, 9, 10, 11, 12, 13, 14, 15, 7, 16, 22, 23, 24, 25, 26, 27, 28, 29, 30, 31, 32, 33, 34, 35, 36, 37, 38, 39, 40] (by decide +kernel) (by decide +kernel)
set_option maxRecDepth 20000 in
theorem gX4_asKitten_X4_asCat : GoodIn wsX4_asKitten (wsV RX4 181 RX4 yX4_asCat wsX4_asCat) := goodIn_app (goodIn_of _ (by decide +kernel)) ggX4_asKitten_X4_asCat
set_option maxRecDepth 20000 in
theorem ggX4_asKitten_X2_eatenBy : GoodIn wsX4_asKitten wsX2_eatenBy := goodIn_r _ [20, 21, 15, 7, 16, 33, 34, 35, 36, 37, 38, 39, 40] (by decide +kernel) (by decide +kernel)
set_option maxRecDepth 20000 in
theorem gX4_asKitten_X2_eatenBy : GoodIn wsX4_asKitten (wsV RX4 84 RX2 yX2_eatenBy wsX2_eatenBy) := goodIn_app (goodIn_of _ (by decide +kernel)) ggX4_asKitten_X2_eatenBy
theorem dX4_asKitten_0 : decode cX4_asKitten 0 = .ok (.aload_n 0, 1) := by decide +kernel
theorem dX4_asKitten_1 : decode cX4_asKitten 1 = .ok (.dup, 1) := by decide +kernel
theorem dX4_asKitten_2 : decode cX4_asKitten 2 = .ok (.getfield 209, 3) := by decide +kernel
theorem dX4_asKitten_5 : decode cX4_asKitten 5 = .ok (.ldc2_w 223, 3) := by decide +kernel
theorem dX4_asKitten_8 : decode cX4_asKitten 8 = .ok (.ladd, 1) := by decide +kernel
theorem dX4_asKitten_9 : decode cX4_asKitten 9 = .ok (.putfield 209, 3) := by decide +kernel
theorem dX4_asKitten_12 : decode cX4_asKitten 12 = .ok (.aload_n 0, 1) := by decide +kernel
theorem dX4_asKitten_13 : decode cX4_asKitten 13 = .ok (.iload_n 1, 1) := by decide +kernel
theorem dX4_asKitten_14 : decode cX4_asKitten 14 = .ok (.invokevirtual 181, 3) := by decide +kernel
theorem dX4_asKitten_17 : decode cX4_asKitten 17 = .ok (.aload_n 0, 1) := by decide +kernel
theorem dX4_asKitten_18 : decode cX4_asKitten 18 = .ok (.getfield 33, 3) := by decide +kernel
theorem dX4_asKitten_21 : decode cX4_asKitten 21 = .ok (.iload_n 1, 1) := by decide +kernel
theorem dX4_asKitten_22 : decode cX4_asKitten 22 = .ok (.invokevirtual 84, 3) := by decide +kernel
theorem dX4_asKitten_25 : decode cX4_asKitten 25 = .ok (.isub, 1) := by decide +kernel
theorem dX4_asKitten_26 : decode cX4_asKitten 26 = .ok (.ireturn, 1) := by decide +kernel
set_option maxRecDepth 20000 in
theorem ggX4_asGinger_X4_asTom : GoodIn wsX4_asGinger wsX4_asTom := goodIn_r _ [7, 1, 8, 9, 10, 11, 12, 6, 13, 14, 15, 16, 17, 18, 19, 20, 21, 22, 23, 24, 25, 26, 27, 28, 29, 30, 31, 32, 33, 34, 35, 36, 37, 38, 39, 40, 41, 42, 43, 44, 45, 46, 47, 48, 49, 50, 51, 52, 53, 54, 55, 56, 57, 58, 59, 60] (by decide +kernel) (by decide +kernel)
set_option maxRecDepth 20000 in
theorem gX4_asGinger_X4_asTom : GoodIn wsX4_asGinger (wsV RX4 184 RX4 yX4_asTom wsX4_asTom) := goodIn_app (goodIn_of _ (by decide +kernel)) ggX4_asGinger_X4_asTom
theorem dX4_asGinger_0 : decode cX4_asGinger 0 = .ok (.aload_n 0, 1) := by decide +kernel
theorem dX4_asGinger_1 : decode cX4_asGinger 1 = .ok (.dup, 1) := by decide +kernel
theorem dX4_asGinger_2 : decode cX4_asGinger 2 = .ok (.getfield 209, 3) := by decide +kernel
theorem dX4_asGinger_5 : decode cX4_asGinger 5 = .ok (.ldc2_w 225, 3) := by decide +kernel
theorem dX4_asGinger_8 : decode cX4_asGinger 8 = .ok (.ladd, 1) := by decide +kernel
theorem dX4_asGinger_9 : decode cX4_asGinger 9 = .ok (.putfield 209, 3) := by decide +kernel
theorem dX4_asGinger_12 : decode cX4_asGinger 12 = .ok (.aload_n 0, 1) := by decide +kernel
theorem dX4_asGinger_13 : decode cX4_asGinger 13 = .ok (.iload_n 1, 1) := by decide +kernel
theorem dX4_asGinger_14 : decode cX4_asGinger 14 = .ok (.invokevirtual 184, 3) := by decide +kernel
theorem dX4_asGinger_17 : decode cX4_asGinger 17 = .ok (.iconst 2, 1) := by decide +kernel
theorem dX4_asGinger_18 : decode cX4_asGinger 18 = .ok (.imul, 1) := by decide +kernel
theorem dX4_asGinger_19 : decode cX4_asGinger 19 = .ok (.ireturn, 1) := by decide +kernel
set_option maxRecDepth 20000 in
theorem ggX4_asStray_X4_asKitten : GoodIn wsX4_asStray wsX4_asKitten := goodIn_r _ [7, 1, 8, 9, 10, 11, 12, 6, 13, 14, 15, 16, 17, 18, 19, 20, 21, 22, 23, 24, 25, 26, 27, 28, 29, 30, 31, 32, 33, 34, 35, 36, 37, 38, 39, 40, 41, 42, 43, 44, 45] (by decide +kernel) (by decide +kernel)
set_option maxRecDepth 20000 in
theorem gX4_asStray_X4_asKitten : GoodIn wsX4_asStray (wsV RX4 187 RX4 yX4_asKitten wsX4_asKitten) := goodIn_app (goodIn_of _ (by decide +kernel)) ggX4_asStray_X4_asKitten
theorem dX4_asStray_0 : decode cX4_asStray 0 = .ok (.aload_n 0, 1) := by decide +kernel
theorem dX4_asStray_1 : decode cX4_asStray 1 = .ok (.dup, 1) := by decide +kernel
theorem dX4_asStray_2 : decode cX4_asStray 2 = .ok (.getfield 209, 3) := by decide +kernel
theorem dX4_asStray_5 : decode cX4_asStray 5 = .ok (.ldc2_w 227, 3) := by decide +kernel
theorem dX4_asStray_8 : decode cX4_asStray 8 = .ok (.ladd, 1) := by decide +kernel
theorem dX4_asStray_9 : decode cX4_asStray 9 = .ok (.putfield 209, 3) := by decide +kernel
theorem dX4_asStray_12 : decode cX4_asStray 12 = .ok (.aload_n 0, 1) := by decide +kernel
theorem dX4_asStray_13 : decode cX4_asStray 13 = .ok (.iload_n 1, 1) := by decide +kernel
theorem dX4_asStray_14 : decode cX4_asStray 14 = .ok (.invokevirtual 187, 3) := by decide +kernel
theorem dX4_asStray_17 : decode cX4_asStray 17 = .ok (.iload_n 1, 1) := by decide +kernel
theorem dX4_asStray_18 : decode cX4_asStray 18 = .ok (.iadd, 1) := by decide +kernel
theorem dX4_asStray_19 : decode cX4_asStray 19 = .ok (.ireturn, 1) := by decide +kernel
set_option maxRecDepth 20000 in
theorem ggX4_asGhost_X4_asCat : GoodIn wsX4_asGhost wsX4_asCat := goodIn_r _ [9, 1, 3, 10, 11, 12, 13, 14, 15, 16, 8, 17, 18, 19, 20, 21, 22, 23, 24, 25, 26, 27, 28, 29, 30, 31, 32, 33, 34, 35, 36] (by decide +kernel) (by decide +kernel)
set_option maxRecDepth 20000 in
theorem gX4_asGhost_X4_asCat : GoodIn wsX4_asGhost (wsV RX4 181 RX4 yX4_asCat wsX4_asCat) := goodIn_app (goodIn_of _ (by decide +kernel)) ggX4_asGhost_X4_asCat
theorem dX4_asGhost_0 : decode cX4_asGhost 0 = .ok (.aload_n 0, 1) := by decide +kernel
theorem dX4_asGhost_1 : decode cX4_asGhost 1 = .ok (.dup, 1) := by decide +kernel
theorem dX4_asGhost_2 : decode cX4_asGhost 2 = .ok (.getfield 209, 3) := by decide +kernel
theorem dX4_asGhost_5 : decode cX4_asGhost 5 = .ok (.ldc2_w 229, 3) := by decide +kernel
theorem dX4_asGhost_8 : decode cX4_asGhost 8 = .ok (.ladd, 1) := by decide +kernel
theorem dX4_asGhost_9 : decode cX4_asGhost 9 = .ok (.putfield 209, 3) := by decide +kernel
theorem dX4_asGhost_12 : decode cX4_asGhost 12 = .ok (.aload_n 0, 1) := by decide +kernel
theorem dX4_asGhost_13 : decode cX4_asGhost 13 = .ok (.iload_n 1, 1) := by decide +kernel
theorem dX4_asGhost_14 : decode cX4_asGhost 14 = .ok (.invokevirtual 181, 3) := by decide +kernel
theorem dX4_asGhost_17 : decode cX4_asGhost 17 = .ok (.aload_n 0, 1) := by decide +kernel
theorem dX4_asGhost_18 : decode cX4_asGhost 18 = .ok (.getfield 33, 3) := by decide +kernel
theorem dX4_asGhost_21 : decode cX4_asGhost 21 = .ok (.getfield 103, 3) := by decide +kernel
theorem dX4_asGhost_24 : decode cX4_asGhost 24 = .ok (.iadd, 1) := by decide +kernel
theorem dX4_asGhost_25 : decode cX4_asGhost 25 = .ok (.ireturn, 1) := by decide +kernel
theorem dX4_isSooner_0 : decode cX4_isSooner 0 = .ok (.iload_n 0, 1) := by decide +kernel
theorem dX4_isSooner_1 : decode cX4_isSooner 1 = .ok (.bipush (-9), 2) := by decide +kernel
theorem dX4_isSooner_3 : decode cX4_isSooner 3 = .ok (.if_icmp .eq 18, 3) := by decide +kernel
theorem dX4_isSooner_6 : decode cX4_isSooner 6 = .ok (.iload_n 1, 1) := by decide +kernel
theorem dX4_isSooner_7 : decode cX4_isSooner 7 = .ok (.bipush (-9), 2) := by decide +kernel
theorem dX4_isSooner_9 : decode cX4_isSooner 9 = .ok (.if_icmp .eq 8, 3) := by decide +kernel
theorem dX4_isSooner_12 : decode cX4_isSooner 12 = .ok (.iload_n 0, 1) := by decide +kernel
theorem dX4_isSooner_13 : decode cX4_isSooner 13 = .ok (.iload_n 1, 1) := by decide +kernel
theorem dX4_isSooner_14 : decode cX4_isSooner 14 = .ok (.if_icmp .ge 7, 3) := by decide +kernel
theorem dX4_isSooner_17 : decode cX4_isSooner 17 = .ok (.iconst 1, 1) := by decide +kernel
theorem dX4_isSooner_18 : decode cX4_isSooner 18 = .ok (.goto 4, 3) := by decide +kernel
theorem dX4_isSooner_21 : decode cX4_isSooner 21 = .ok (.iconst 0, 1) := by decide +kernel
theorem dX4_isSooner_22 : decode cX4_isSooner 22 = .ok (.ireturn, 1) := by decide +kernel
theorem dX4_hasBit_0 : decode cX4_hasBit 0 = .ok (.iload_n 1, 1) := by decide +kernel
theorem dX4_hasBit_1 : decode cX4_hasBit 1 = .ok (.ifCond .lt 22, 3) := by decide +kernel
theorem dX4_hasBit_4 : decode cX4_hasBit 4 = .ok (.iload_n 1, 1) := by decide +kernel
theorem dX4_hasBit_5 : decode cX4_hasBit 5 = .ok (.bipush 24, 2) := by decide +kernel
theorem dX4_hasBit_7 : decode cX4_hasBit 7 = .ok (.if_icmp .ge 16, 3) := by decide +kernel
theorem dX4_hasBit_10 : decode cX4_hasBit 10 = .ok (.iload_n 0, 1) := by decide +kernel
theorem dX4_hasBit_11 : decode cX4_hasBit 11 = .ok (.iload_n 1, 1) := by decide +kernel
theorem dX4_hasBit_12 : decode cX4_hasBit 12 = .ok (.iushr, 1) := by decide +kernel
theorem dX4_hasBit_13 : decode cX4_hasBit 13 = .ok (.iconst 1, 1) := by decide +kernel
theorem dX4_hasBit_14 : decode cX4_hasBit 14 = .ok (.iand, 1) := by decide +kernel
theorem dX4_hasBit_15 : decode cX4_hasBit 15 = .ok (.iconst 1, 1) := by decide +kernel
theorem dX4_hasBit_16 : decode cX4_hasBit 16 = .ok (.if_icmp .ne 7, 3) := by decide +kernel
theorem dX4_hasBit_19 : decode cX4_hasBit 19 = .ok (.iconst 1, 1) := by decide +kernel
theorem dX4_hasBit_20 : decode cX4_hasBit 20 = .ok (.goto 4, 3) := by decide +kernel
theorem dX4_hasBit_23 : decode cX4_hasBit 23 = .ok (.iconst 0, 1) := by decide +kernel
theorem dX4_hasBit_24 : decode cX4_hasBit 24 = .ok (.ireturn, 1) := by decide +kernel
theorem dX4_entry_0 : decode cX4_entry 0 = .ok (.iload_n 1, 1) := by decide +kernel
theorem dX4_entry_1 : decode cX4_entry 1 = .ok (.ifCond .lt 15, 3) := by decide +kernel
theorem dX4_entry_4 : decode cX4_entry 4 = .ok (.iload_n 1, 1) := by decide +kernel
theorem dX4_entry_5 : decode cX4_entry 5 = .ok (.aload_n 0, 1) := by decide +kernel
theorem dX4_entry_6 : decode cX4_entry 6 = .ok (.arraylength, 1) := by decide +kernel
theorem dX4_entry_7 : decode cX4_entry 7 = .ok (.if_icmp .ge 9, 3) := by decide +kernel
theorem dX4_entry_10 : decode cX4_entry 10 = .ok (.aload_n 0, 1) := by decide +kernel
theorem dX4_entry_11 : decode cX4_entry 11 = .ok (.iload_n 1, 1) := by decide +kernel
theorem dX4_entry_12 : decode cX4_entry 12 = .ok (.iaload, 1) := by decide +kernel
theorem dX4_entry_13 : decode cX4_entry 13 = .ok (.goto 4, 3) := by decide +kernel
theorem dX4_entry_16 : decode cX4_entry 16 = .ok (.iconst 0, 1) := by decide +kernel
theorem dX4_entry_17 : decode cX4_entry 17 = .ok (.ireturn, 1) := by decide +kernel
theorem dX4_entry__0 : decode cX4_entry_ 0 = .ok (.iload_n 1, 1) := by decide +kernel
theorem dX4_entry__1 : decode cX4_entry_ 1 = .ok (.ifCond .lt 15, 3) := by decide +kernel
theorem dX4_entry__4 : decode cX4_entry_ 4 = .ok (.iload_n 1, 1) := by decide +kernel
theorem dX4_entry__5 : decode cX4_entry_ 5 = .ok (.aload_n 0, 1) := by decide +kernel
theorem dX4_entry__6 : decode cX4_entry_ 6 = .ok (.arraylength, 1) := by decide +kernel
theorem dX4_entry__7 : decode cX4_entry_ 7 = .ok (.if_icmp .ge 9, 3) := by decide +kernel
theorem dX4_entry__10 : decode cX4_entry_ 10 = .ok (.aload_n 0, 1) := by decide +kernel
theorem dX4_entry__11 : decode cX4_entry_ 11 = .ok (.iload_n 1, 1) := by decide +kernel
theorem dX4_entry__12 : decode cX4_entry_ 12 = .ok (.laload, 1) := by decide +kernel
theorem dX4_entry__13 : decode cX4_entry_ 13 = .ok (.goto 4, 3) := by decide +kernel
theorem dX4_entry__16 : decode cX4_entry_ 16 = .ok (.lconst 0, 1) := by decide +kernel
theorem dX4_entry__17 : decode cX4_entry_ 17 = .ok (.lreturn, 1) := by decide +kernel
theorem dX4_put_0 : decode cX4_put 0 = .ok (.iload_n 1, 1) := by decide +kernel
theorem dX4_put_1 : decode cX4_put 1 = .ok (.ifCond .lt 13, 3) := by decide +kernel
theorem dX4_put_4 : decode cX4_put 4 = .ok (.iload_n 1, 1) := by decide +kernel
theorem dX4_put_5 : decode cX4_put 5 = .ok (.aload_n 0, 1) := by decide +kernel
theorem dX4_put_6 : decode cX4_put 6 = .ok (.arraylength, 1) := by decide +kernel
theorem dX4_put_7 : decode cX4_put 7 = .ok (.if_icmp .ge 7, 3) := by decide +kernel
theorem dX4_put_10 : decode cX4_put 10 = .ok (.aload_n 0, 1) := by decide +kernel
theorem dX4_put_11 : decode cX4_put 11 = .ok (.iload_n 1, 1) := by decide +kernel
theorem dX4_put_12 : decode cX4_put 12 = .ok (.iload_n 2, 1) := by decide +kernel
theorem dX4_put_13 : decode cX4_put 13 = .ok (.iastore, 1) := by decide +kernel
theorem dX4_put_14 : decode cX4_put 14 = .ok (.return_, 1) := by decide +kernel
theorem dX4_add_0 : decode cX4_add 0 = .ok (.iload_n 1, 1) := by decide +kernel
theorem dX4_add_1 : decode cX4_add 1 = .ok (.ifCond .lt 16, 3) := by decide +kernel
theorem dX4_add_4 : decode cX4_add 4 = .ok (.iload_n 1, 1) := by decide +kernel
theorem dX4_add_5 : decode cX4_add 5 = .ok (.aload_n 0, 1) := by decide +kernel
theorem dX4_add_6 : decode cX4_add 6 = .ok (.arraylength, 1) := by decide +kernel
theorem dX4_add_7 : decode cX4_add 7 = .ok (.if_icmp .ge 10, 3) := by decide +kernel
theorem dX4_add_10 : decode cX4_add 10 = .ok (.aload_n 0, 1) := by decide +kernel
theorem dX4_add_11 : decode cX4_add 11 = .ok (.iload_n 1, 1) := by decide +kernel
theorem dX4_add_12 : decode cX4_add 12 = .ok (.dup2, 1) := by decide +kernel
theorem dX4_add_13 : decode cX4_add 13 = .ok (.laload, 1) := by decide +kernel
theorem dX4_add_14 : decode cX4_add 14 = .ok (.lload_n 2, 1) := by decide +kernel
theorem dX4_add_15 : decode cX4_add 15 = .ok (.ladd, 1) := by decide +kernel
theorem dX4_add_16 : decode cX4_add 16 = .ok (.lastore, 1) := by decide +kernel
theorem dX4_add_17 : decode cX4_add 17 = .ok (.return_, 1) := by decide +kernel
