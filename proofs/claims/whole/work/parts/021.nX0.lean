set_option maxRecDepth 20000 in
theorem ggX0_init_X0_becomeAsAtFirst : GoodIn wsX0_init wsX0_becomeAsAtFirst := goodIn_r _ [12, 13, 14, 15, 16, 17, 18, 19, 20, 21, 22, 23, 24, 25, 26, 27, 28, 29, 30, 31, 32, 33] (by decide +kernel) (by decide +kernel)
set_option maxRecDepth 20000 in
theorem gX0_init_X0_becomeAsAtFirst : GoodIn wsX0_init (wsV RX0 21 RX0 yX0_becomeAsAtFirst wsX0_becomeAsAtFirst) := goodIn_app (goodIn_of _ (by decide +kernel)) ggX0_init_X0_becomeAsAtFirst
theorem dX0_init_0 : decode cX0_init 0 = .ok (.aload_n 0, 1) := by decide +kernel
theorem dX0_init_1 : decode cX0_init 1 = .ok (.invokespecial 3, 3) := by decide +kernel
theorem dX0_init_4 : decode cX0_init 4 = .ok (.aload_n 0, 1) := by decide +kernel
theorem dX0_init_5 : decode cX0_init 5 = .ok (.iconst 5, 1) := by decide +kernel
theorem dX0_init_6 : decode cX0_init 6 = .ok (.newarray .int, 2) := by decide +kernel
theorem dX0_init_8 : decode cX0_init 8 = .ok (.putfield 9, 3) := by decide +kernel
theorem dX0_init_11 : decode cX0_init 11 = .ok (.aload_n 0, 1) := by decide +kernel
theorem dX0_init_12 : decode cX0_init 12 = .ok (.iconst 5, 1) := by decide +kernel
theorem dX0_init_13 : decode cX0_init 13 = .ok (.newarray .int, 2) := by decide +kernel
theorem dX0_init_15 : decode cX0_init 15 = .ok (.putfield 15, 3) := by decide +kernel
theorem dX0_init_18 : decode cX0_init 18 = .ok (.aload_n 0, 1) := by decide +kernel
theorem dX0_init_19 : decode cX0_init 19 = .ok (.iconst 5, 1) := by decide +kernel
theorem dX0_init_20 : decode cX0_init 20 = .ok (.newarray .int, 2) := by decide +kernel
theorem dX0_init_22 : decode cX0_init 22 = .ok (.putfield 18, 3) := by decide +kernel
theorem dX0_init_25 : decode cX0_init 25 = .ok (.aload_n 0, 1) := by decide +kernel
theorem dX0_init_26 : decode cX0_init 26 = .ok (.invokevirtual 21, 3) := by decide +kernel
theorem dX0_init_29 : decode cX0_init 29 = .ok (.return_, 1) := by decide +kernel
theorem dX0_becomeAsAtFirst_0 : decode cX0_becomeAsAtFirst 0 = .ok (.aload_n 0, 1) := by decide +kernel
theorem dX0_becomeAsAtFirst_1 : decode cX0_becomeAsAtFirst 1 = .ok (.iconst 5, 1) := by decide +kernel
theorem dX0_becomeAsAtFirst_2 : decode cX0_becomeAsAtFirst 2 = .ok (.putfield 24, 3) := by decide +kernel
theorem dX0_becomeAsAtFirst_5 : decode cX0_becomeAsAtFirst 5 = .ok (.aload_n 0, 1) := by decide +kernel
theorem dX0_becomeAsAtFirst_6 : decode cX0_becomeAsAtFirst 6 = .ok (.iconst 2, 1) := by decide +kernel
theorem dX0_becomeAsAtFirst_7 : decode cX0_becomeAsAtFirst 7 = .ok (.putfield 28, 3) := by decide +kernel
theorem dX0_becomeAsAtFirst_10 : decode cX0_becomeAsAtFirst 10 = .ok (.aload_n 0, 1) := by decide +kernel
theorem dX0_becomeAsAtFirst_11 : decode cX0_becomeAsAtFirst 11 = .ok (.iconst 0, 1) := by decide +kernel
theorem dX0_becomeAsAtFirst_12 : decode cX0_becomeAsAtFirst 12 = .ok (.putfield 31, 3) := by decide +kernel
theorem dX0_becomeAsAtFirst_15 : decode cX0_becomeAsAtFirst 15 = .ok (.aload_n 0, 1) := by decide +kernel
theorem dX0_becomeAsAtFirst_16 : decode cX0_becomeAsAtFirst 16 = .ok (.iconst 1, 1) := by decide +kernel
theorem dX0_becomeAsAtFirst_17 : decode cX0_becomeAsAtFirst 17 = .ok (.putfield 34, 3) := by decide +kernel
theorem dX0_becomeAsAtFirst_20 : decode cX0_becomeAsAtFirst 20 = .ok (.aload_n 0, 1) := by decide +kernel
theorem dX0_becomeAsAtFirst_21 : decode cX0_becomeAsAtFirst 21 = .ok (.iconst 3, 1) := by decide +kernel
theorem dX0_becomeAsAtFirst_22 : decode cX0_becomeAsAtFirst 22 = .ok (.putfield 37, 3) := by decide +kernel
theorem dX0_becomeAsAtFirst_25 : decode cX0_becomeAsAtFirst 25 = .ok (.aload_n 0, 1) := by decide +kernel
theorem dX0_becomeAsAtFirst_26 : decode cX0_becomeAsAtFirst 26 = .ok (.iconst 0, 1) := by decide +kernel
theorem dX0_becomeAsAtFirst_27 : decode cX0_becomeAsAtFirst 27 = .ok (.putfield 40, 3) := by decide +kernel
theorem dX0_becomeAsAtFirst_30 : decode cX0_becomeAsAtFirst 30 = .ok (.aload_n 0, 1) := by decide +kernel
theorem dX0_becomeAsAtFirst_31 : decode cX0_becomeAsAtFirst 31 = .ok (.iconst 1, 1) := by decide +kernel
theorem dX0_becomeAsAtFirst_32 : decode cX0_becomeAsAtFirst 32 = .ok (.putfield 43, 3) := by decide +kernel
theorem dX0_becomeAsAtFirst_35 : decode cX0_becomeAsAtFirst 35 = .ok (.aload_n 0, 1) := by decide +kernel
theorem dX0_becomeAsAtFirst_36 : decode cX0_becomeAsAtFirst 36 = .ok (.iconst 1, 1) := by decide +kernel
theorem dX0_becomeAsAtFirst_37 : decode cX0_becomeAsAtFirst 37 = .ok (.putfield 47, 3) := by decide +kernel
theorem dX0_becomeAsAtFirst_40 : decode cX0_becomeAsAtFirst 40 = .ok (.aload_n 0, 1) := by decide +kernel
theorem dX0_becomeAsAtFirst_41 : decode cX0_becomeAsAtFirst 41 = .ok (.iconst 1, 1) := by decide +kernel
theorem dX0_becomeAsAtFirst_42 : decode cX0_becomeAsAtFirst 42 = .ok (.putfield 50, 3) := by decide +kernel
theorem dX0_becomeAsAtFirst_45 : decode cX0_becomeAsAtFirst 45 = .ok (.return_, 1) := by decide +kernel
set_option maxRecDepth 20000 in
theorem ggX0_addCat_X4_put : GoodIn wsX0_addCat wsX4_put := goodIn_r _ [7] (by decide +kernel) (by decide +kernel)
set_option maxRecDepth 20000 in
theorem gX0_addCat_X4_put_n53 : GoodIn wsX0_addCat (wsX4_put) := ggX0_addCat_X4_put
theorem dX0_addCat_0 : decode cX0_addCat 0 = .ok (.aload_n 0, 1) := by decide +kernel
theorem dX0_addCat_1 : decode cX0_addCat 1 = .ok (.getfield 40, 3) := by decide +kernel
theorem dX0_addCat_4 : decode cX0_addCat 4 = .ok (.iconst 5, 1) := by decide +kernel
theorem dX0_addCat_5 : decode cX0_addCat 5 = .ok (.if_icmp .ge 49, 3) := by decide +kernel
theorem dX0_addCat_8 : decode cX0_addCat 8 = .ok (.aload_n 0, 1) := by decide +kernel
theorem dX0_addCat_9 : decode cX0_addCat 9 = .ok (.getfield 9, 3) := by decide +kernel
theorem dX0_addCat_12 : decode cX0_addCat 12 = .ok (.aload_n 0, 1) := by decide +kernel
theorem dX0_addCat_13 : decode cX0_addCat 13 = .ok (.getfield 40, 3) := by decide +kernel
theorem dX0_addCat_16 : decode cX0_addCat 16 = .ok (.iload_n 1, 1) := by decide +kernel
theorem dX0_addCat_17 : decode cX0_addCat 17 = .ok (.invokestatic 53, 3) := by decide +kernel
theorem dX0_addCat_20 : decode cX0_addCat 20 = .ok (.aload_n 0, 1) := by decide +kernel
theorem dX0_addCat_21 : decode cX0_addCat 21 = .ok (.getfield 15, 3) := by decide +kernel
theorem dX0_addCat_24 : decode cX0_addCat 24 = .ok (.aload_n 0, 1) := by decide +kernel
theorem dX0_addCat_25 : decode cX0_addCat 25 = .ok (.getfield 40, 3) := by decide +kernel
theorem dX0_addCat_28 : decode cX0_addCat 28 = .ok (.iload_n 2, 1) := by decide +kernel
theorem dX0_addCat_29 : decode cX0_addCat 29 = .ok (.invokestatic 53, 3) := by decide +kernel
theorem dX0_addCat_32 : decode cX0_addCat 32 = .ok (.aload_n 0, 1) := by decide +kernel
theorem dX0_addCat_33 : decode cX0_addCat 33 = .ok (.getfield 18, 3) := by decide +kernel
theorem dX0_addCat_36 : decode cX0_addCat 36 = .ok (.aload_n 0, 1) := by decide +kernel
theorem dX0_addCat_37 : decode cX0_addCat 37 = .ok (.getfield 40, 3) := by decide +kernel
theorem dX0_addCat_40 : decode cX0_addCat 40 = .ok (.iload_n 3, 1) := by decide +kernel
theorem dX0_addCat_41 : decode cX0_addCat 41 = .ok (.invokestatic 53, 3) := by decide +kernel
theorem dX0_addCat_44 : decode cX0_addCat 44 = .ok (.aload_n 0, 1) := by decide +kernel
theorem dX0_addCat_45 : decode cX0_addCat 45 = .ok (.dup, 1) := by decide +kernel
theorem dX0_addCat_46 : decode cX0_addCat 46 = .ok (.getfield 40, 3) := by decide +kernel
theorem dX0_addCat_49 : decode cX0_addCat 49 = .ok (.iconst 1, 1) := by decide +kernel
theorem dX0_addCat_50 : decode cX0_addCat 50 = .ok (.iadd, 1) := by decide +kernel
theorem dX0_addCat_51 : decode cX0_addCat 51 = .ok (.putfield 40, 3) := by decide +kernel
theorem dX0_addCat_54 : decode cX0_addCat 54 = .ok (.return_, 1) := by decide +kernel
set_option maxRecDepth 20000 in
theorem ggX0_startOf_X4_entry : GoodIn wsX0_startOf wsX4_entry := goodIn_r _ [4] (by decide +kernel) (by decide +kernel)
set_option maxRecDepth 20000 in
theorem gX0_startOf_X4_entry_n57 : GoodIn wsX0_startOf (wsX4_entry) := ggX0_startOf_X4_entry
theorem dX0_startOf_0 : decode cX0_startOf 0 = .ok (.aload_n 0, 1) := by decide +kernel
theorem dX0_startOf_1 : decode cX0_startOf 1 = .ok (.getfield 9, 3) := by decide +kernel
theorem dX0_startOf_4 : decode cX0_startOf 4 = .ok (.iload_n 1, 1) := by decide +kernel
theorem dX0_startOf_5 : decode cX0_startOf 5 = .ok (.invokestatic 57, 3) := by decide +kernel
theorem dX0_startOf_8 : decode cX0_startOf 8 = .ok (.ireturn, 1) := by decide +kernel
set_option maxRecDepth 20000 in
theorem ggX0_habitOf_X4_entry : GoodIn wsX0_habitOf wsX4_entry := goodIn_r _ [5] (by decide +kernel) (by decide +kernel)
set_option maxRecDepth 20000 in
theorem gX0_habitOf_X4_entry_n57 : GoodIn wsX0_habitOf (wsX4_entry) := ggX0_habitOf_X4_entry
theorem dX0_habitOf_0 : decode cX0_habitOf 0 = .ok (.iload_n 1, 1) := by decide +kernel
theorem dX0_habitOf_1 : decode cX0_habitOf 1 = .ok (.aload_n 0, 1) := by decide +kernel
theorem dX0_habitOf_2 : decode cX0_habitOf 2 = .ok (.getfield 40, 3) := by decide +kernel
theorem dX0_habitOf_5 : decode cX0_habitOf 5 = .ok (.if_icmp .ge 14, 3) := by decide +kernel
theorem dX0_habitOf_8 : decode cX0_habitOf 8 = .ok (.aload_n 0, 1) := by decide +kernel
theorem dX0_habitOf_9 : decode cX0_habitOf 9 = .ok (.getfield 15, 3) := by decide +kernel
theorem dX0_habitOf_12 : decode cX0_habitOf 12 = .ok (.iload_n 1, 1) := by decide +kernel
theorem dX0_habitOf_13 : decode cX0_habitOf 13 = .ok (.invokestatic 57, 3) := by decide +kernel
theorem dX0_habitOf_16 : decode cX0_habitOf 16 = .ok (.goto 4, 3) := by decide +kernel
theorem dX0_habitOf_19 : decode cX0_habitOf 19 = .ok (.iconst 0, 1) := by decide +kernel
theorem dX0_habitOf_20 : decode cX0_habitOf 20 = .ok (.ireturn, 1) := by decide +kernel
set_option maxRecDepth 20000 in
theorem ggX0_leaderOf_X4_entry : GoodIn wsX0_leaderOf wsX4_entry := goodIn_r _ [4] (by decide +kernel) (by decide +kernel)
set_option maxRecDepth 20000 in
theorem gX0_leaderOf_X4_entry_n57 : GoodIn wsX0_leaderOf (wsX4_entry) := ggX0_leaderOf_X4_entry
theorem dX0_leaderOf_0 : decode cX0_leaderOf 0 = .ok (.aload_n 0, 1) := by decide +kernel
theorem dX0_leaderOf_1 : decode cX0_leaderOf 1 = .ok (.getfield 18, 3) := by decide +kernel
theorem dX0_leaderOf_4 : decode cX0_leaderOf 4 = .ok (.iload_n 1, 1) := by decide +kernel
theorem dX0_leaderOf_5 : decode cX0_leaderOf 5 = .ok (.invokestatic 57, 3) := by decide +kernel
theorem dX0_leaderOf_8 : decode cX0_leaderOf 8 = .ok (.ireturn, 1) := by decide +kernel
set_option maxRecDepth 20000 in
theorem ggX0_tellsCatIn_X0_startOf : GoodIn wsX0_tellsCatIn wsX0_startOf := goodIn_r _ [6, 7, 8, 9, 10, 11, 12, 13, 14, 15, 16, 17, 18, 19, 20, 21, 22] (by decide +kernel) (by decide +kernel)
set_option maxRecDepth 20000 in
theorem gX0_tellsCatIn_X0_startOf : GoodIn wsX0_tellsCatIn (wsV RX0 61 RX0 yX0_startOf wsX0_startOf) := goodIn_app (goodIn_of _ (by decide +kernel)) ggX0_tellsCatIn_X0_startOf
theorem dX0_tellsCatIn_0 : decode cX0_tellsCatIn 0 = .ok (.iconst 0, 1) := by decide +kernel
theorem dX0_tellsCatIn_1 : decode cX0_tellsCatIn 1 = .ok (.istore_n 2, 1) := by decide +kernel
theorem dX0_tellsCatIn_2 : decode cX0_tellsCatIn 2 = .ok (.iload_n 2, 1) := by decide +kernel
theorem dX0_tellsCatIn_3 : decode cX0_tellsCatIn 3 = .ok (.aload_n 0, 1) := by decide +kernel
theorem dX0_tellsCatIn_4 : decode cX0_tellsCatIn 4 = .ok (.getfield 40, 3) := by decide +kernel
theorem dX0_tellsCatIn_7 : decode cX0_tellsCatIn 7 = .ok (.if_icmp .ge 20, 3) := by decide +kernel
theorem dX0_tellsCatIn_10 : decode cX0_tellsCatIn 10 = .ok (.aload_n 0, 1) := by decide +kernel
theorem dX0_tellsCatIn_11 : decode cX0_tellsCatIn 11 = .ok (.iload_n 2, 1) := by decide +kernel
theorem dX0_tellsCatIn_12 : decode cX0_tellsCatIn 12 = .ok (.invokevirtual 61, 3) := by decide +kernel
theorem dX0_tellsCatIn_15 : decode cX0_tellsCatIn 15 = .ok (.iload_n 1, 1) := by decide +kernel
theorem dX0_tellsCatIn_16 : decode cX0_tellsCatIn 16 = .ok (.if_icmp .ne 5, 3) := by decide +kernel
theorem dX0_tellsCatIn_19 : decode cX0_tellsCatIn 19 = .ok (.iconst 1, 1) := by decide +kernel
theorem dX0_tellsCatIn_20 : decode cX0_tellsCatIn 20 = .ok (.ireturn, 1) := by decide +kernel
theorem dX0_tellsCatIn_21 : decode cX0_tellsCatIn 21 = .ok (.iinc 2 1, 3) := by decide +kernel
theorem dX0_tellsCatIn_24 : decode cX0_tellsCatIn 24 = .ok (.goto (-22), 3) := by decide +kernel
theorem dX0_tellsCatIn_27 : decode cX0_tellsCatIn 27 = .ok (.iconst 0, 1) := by decide +kernel
theorem dX0_tellsCatIn_28 : decode cX0_tellsCatIn 28 = .ok (.ireturn, 1) := by decide +kernel
theorem dX0_cells_0 : decode cX0_cells 0 = .ok (.aload_n 0, 1) := by decide +kernel
theorem dX0_cells_1 : decode cX0_cells 1 = .ok (.getfield 24, 3) := by decide +kernel
theorem dX0_cells_4 : decode cX0_cells 4 = .ok (.aload_n 0, 1) := by decide +kernel
theorem dX0_cells_5 : decode cX0_cells 5 = .ok (.getfield 28, 3) := by decide +kernel
theorem dX0_cells_8 : decode cX0_cells 8 = .ok (.imul, 1) := by decide +kernel
theorem dX0_cells_9 : decode cX0_cells 9 = .ok (.ireturn, 1) := by decide +kernel
set_option maxRecDepth 20000 in
theorem ggX0_isCell_X0_cells : GoodIn wsX0_isCell wsX0_cells := goodIn_r _ [5, 6, 7, 8, 9, 10, 11, 12, 13, 14, 15, 16, 17, 18, 19] (by decide +kernel) (by decide +kernel)
set_option maxRecDepth 20000 in
theorem gX0_isCell_X0_cells : GoodIn wsX0_isCell (wsV RX0 65 RX0 yX0_cells wsX0_cells) := goodIn_app (goodIn_of _ (by decide +kernel)) ggX0_isCell_X0_cells
theorem dX0_isCell_0 : decode cX0_isCell 0 = .ok (.iload_n 1, 1) := by decide +kernel
theorem dX0_isCell_1 : decode cX0_isCell 1 = .ok (.ifCond .lt 15, 3) := by decide +kernel
theorem dX0_isCell_4 : decode cX0_isCell 4 = .ok (.iload_n 1, 1) := by decide +kernel
theorem dX0_isCell_5 : decode cX0_isCell 5 = .ok (.aload_n 0, 1) := by decide +kernel
theorem dX0_isCell_6 : decode cX0_isCell 6 = .ok (.invokevirtual 65, 3) := by decide +kernel
theorem dX0_isCell_9 : decode cX0_isCell 9 = .ok (.if_icmp .ge 7, 3) := by decide +kernel
theorem dX0_isCell_12 : decode cX0_isCell 12 = .ok (.iconst 1, 1) := by decide +kernel
theorem dX0_isCell_13 : decode cX0_isCell 13 = .ok (.goto 4, 3) := by decide +kernel
theorem dX0_isCell_16 : decode cX0_isCell 16 = .ok (.iconst 0, 1) := by decide +kernel
theorem dX0_isCell_17 : decode cX0_isCell 17 = .ok (.ireturn, 1) := by decide +kernel
set_option maxRecDepth 20000 in
theorem ggX0_allCells_X0_cells : GoodIn wsX0_allCells wsX0_cells := goodIn_r _ [5, 6, 7, 8, 9, 10, 11, 12, 13, 14, 15, 16, 17, 18, 19] (by decide +kernel) (by decide +kernel)
set_option maxRecDepth 20000 in
theorem gX0_allCells_X0_cells : GoodIn wsX0_allCells (wsV RX0 65 RX0 yX0_cells wsX0_cells) := goodIn_app (goodIn_of _ (by decide +kernel)) ggX0_allCells_X0_cells
theorem dX0_allCells_0 : decode cX0_allCells 0 = .ok (.iconst 1, 1) := by decide +kernel
theorem dX0_allCells_1 : decode cX0_allCells 1 = .ok (.aload_n 0, 1) := by decide +kernel
theorem dX0_allCells_2 : decode cX0_allCells 2 = .ok (.invokevirtual 65, 3) := by decide +kernel
theorem dX0_allCells_5 : decode cX0_allCells 5 = .ok (.ishl, 1) := by decide +kernel
theorem dX0_allCells_6 : decode cX0_allCells 6 = .ok (.iconst 1, 1) := by decide +kernel
theorem dX0_allCells_7 : decode cX0_allCells 7 = .ok (.isub, 1) := by decide +kernel
theorem dX0_allCells_8 : decode cX0_allCells 8 = .ok (.ireturn, 1) := by decide +kernel
theorem dX0_columnCells_0 : decode cX0_columnCells 0 = .ok (.iconst 0, 1) := by decide +kernel
theorem dX0_columnCells_1 : decode cX0_columnCells 1 = .ok (.istore_n 2, 1) := by decide +kernel
theorem dX0_columnCells_2 : decode cX0_columnCells 2 = .ok (.iconst 0, 1) := by decide +kernel
theorem dX0_columnCells_3 : decode cX0_columnCells 3 = .ok (.istore_n 3, 1) := by decide +kernel
theorem dX0_columnCells_4 : decode cX0_columnCells 4 = .ok (.iload_n 3, 1) := by decide +kernel
theorem dX0_columnCells_5 : decode cX0_columnCells 5 = .ok (.aload_n 0, 1) := by decide +kernel
theorem dX0_columnCells_6 : decode cX0_columnCells 6 = .ok (.getfield 28, 3) := by decide +kernel
theorem dX0_columnCells_9 : decode cX0_columnCells 9 = .ok (.if_icmp .ge 22, 3) := by decide +kernel
theorem dX0_columnCells_12 : decode cX0_columnCells 12 = .ok (.iload_n 2, 1) := by decide +kernel
theorem dX0_columnCells_13 : decode cX0_columnCells 13 = .ok (.iconst 1, 1) := by decide +kernel
theorem dX0_columnCells_14 : decode cX0_columnCells 14 = .ok (.iload_n 3, 1) := by decide +kernel
theorem dX0_columnCells_15 : decode cX0_columnCells 15 = .ok (.aload_n 0, 1) := by decide +kernel
theorem dX0_columnCells_16 : decode cX0_columnCells 16 = .ok (.getfield 24, 3) := by decide +kernel
theorem dX0_columnCells_19 : decode cX0_columnCells 19 = .ok (.imul, 1) := by decide +kernel
theorem dX0_columnCells_20 : decode cX0_columnCells 20 = .ok (.iload_n 1, 1) := by decide +kernel
theorem dX0_columnCells_21 : decode cX0_columnCells 21 = .ok (.iadd, 1) := by decide +kernel
theorem dX0_columnCells_22 : decode cX0_columnCells 22 = .ok (.ishl, 1) := by decide +kernel
theorem dX0_columnCells_23 : decode cX0_columnCells 23 = .ok (.ior, 1) := by decide +kernel
theorem dX0_columnCells_24 : decode cX0_columnCells 24 = .ok (.istore_n 2, 1) := by decide +kernel
theorem dX0_columnCells_25 : decode cX0_columnCells 25 = .ok (.iinc 3 1, 3) := by decide +kernel
theorem dX0_columnCells_28 : decode cX0_columnCells 28 = .ok (.goto (-24), 3) := by decide +kernel
theorem dX0_columnCells_31 : decode cX0_columnCells 31 = .ok (.iload_n 2, 1) := by decide +kernel
theorem dX0_columnCells_32 : decode cX0_columnCells 32 = .ok (.ireturn, 1) := by decide +kernel
theorem dX0_columnOf_0 : decode cX0_columnOf 0 = .ok (.aload_n 0, 1) := by decide +kernel
theorem dX0_columnOf_1 : decode cX0_columnOf 1 = .ok (.getfield 24, 3) := by decide +kernel
theorem dX0_columnOf_4 : decode cX0_columnOf 4 = .ok (.iconst 1, 1) := by decide +kernel
theorem dX0_columnOf_5 : decode cX0_columnOf 5 = .ok (.if_icmp .ge 7, 3) := by decide +kernel
theorem dX0_columnOf_8 : decode cX0_columnOf 8 = .ok (.iconst 0, 1) := by decide +kernel
theorem dX0_columnOf_9 : decode cX0_columnOf 9 = .ok (.goto 9, 3) := by decide +kernel
theorem dX0_columnOf_12 : decode cX0_columnOf 12 = .ok (.iload_n 1, 1) := by decide +kernel
theorem dX0_columnOf_13 : decode cX0_columnOf 13 = .ok (.aload_n 0, 1) := by decide +kernel
theorem dX0_columnOf_14 : decode cX0_columnOf 14 = .ok (.getfield 24, 3) := by decide +kernel
theorem dX0_columnOf_17 : decode cX0_columnOf 17 = .ok (.irem, 1) := by decide +kernel
theorem dX0_columnOf_18 : decode cX0_columnOf 18 = .ok (.ireturn, 1) := by decide +kernel
theorem dX0_sunColumn_0 : decode cX0_sunColumn 0 = .ok (.aload_n 0, 1) := by decide +kernel
theorem dX0_sunColumn_1 : decode cX0_sunColumn 1 = .ok (.getfield 24, 3) := by decide +kernel
theorem dX0_sunColumn_4 : decode cX0_sunColumn 4 = .ok (.iconst 1, 1) := by decide +kernel
theorem dX0_sunColumn_5 : decode cX0_sunColumn 5 = .ok (.if_icmp .lt 11, 3) := by decide +kernel
theorem dX0_sunColumn_8 : decode cX0_sunColumn 8 = .ok (.aload_n 0, 1) := by decide +kernel
theorem dX0_sunColumn_9 : decode cX0_sunColumn 9 = .ok (.getfield 34, 3) := by decide +kernel
theorem dX0_sunColumn_12 : decode cX0_sunColumn 12 = .ok (.iconst 1, 1) := by decide +kernel
theorem dX0_sunColumn_13 : decode cX0_sunColumn 13 = .ok (.if_icmp .ge 7, 3) := by decide +kernel
theorem dX0_sunColumn_16 : decode cX0_sunColumn 16 = .ok (.iconst 0, 1) := by decide +kernel
theorem dX0_sunColumn_17 : decode cX0_sunColumn 17 = .ok (.goto 19, 3) := by decide +kernel
theorem dX0_sunColumn_20 : decode cX0_sunColumn 20 = .ok (.aload_n 0, 1) := by decide +kernel
theorem dX0_sunColumn_21 : decode cX0_sunColumn 21 = .ok (.getfield 31, 3) := by decide +kernel
theorem dX0_sunColumn_24 : decode cX0_sunColumn 24 = .ok (.iload_n 1, 1) := by decide +kernel
theorem dX0_sunColumn_25 : decode cX0_sunColumn 25 = .ok (.aload_n 0, 1) := by decide +kernel
theorem dX0_sunColumn_26 : decode cX0_sunColumn 26 = .ok (.getfield 34, 3) := by decide +kernel
theorem dX0_sunColumn_29 : decode cX0_sunColumn 29 = .ok (.idiv, 1) := by decide +kernel
theorem dX0_sunColumn_30 : decode cX0_sunColumn 30 = .ok (.iadd, 1) := by decide +kernel
theorem dX0_sunColumn_31 : decode cX0_sunColumn 31 = .ok (.aload_n 0, 1) := by decide +kernel
theorem dX0_sunColumn_32 : decode cX0_sunColumn 32 = .ok (.getfield 24, 3) := by decide +kernel
theorem dX0_sunColumn_35 : decode cX0_sunColumn 35 = .ok (.irem, 1) := by decide +kernel
theorem dX0_sunColumn_36 : decode cX0_sunColumn 36 = .ok (.ireturn, 1) := by decide +kernel
theorem dX0_stepsBetween_0 : decode cX0_stepsBetween 0 = .ok (.aload_n 0, 1) := by decide +kernel
theorem dX0_stepsBetween_1 : decode cX0_stepsBetween 1 = .ok (.getfield 24, 3) := by decide +kernel
theorem dX0_stepsBetween_4 : decode cX0_stepsBetween 4 = .ok (.iconst 1, 1) := by decide +kernel
theorem dX0_stepsBetween_5 : decode cX0_stepsBetween 5 = .ok (.if_icmp .ge 5, 3) := by decide +kernel
theorem dX0_stepsBetween_8 : decode cX0_stepsBetween 8 = .ok (.iconst 0, 1) := by decide +kernel
theorem dX0_stepsBetween_9 : decode cX0_stepsBetween 9 = .ok (.ireturn, 1) := by decide +kernel
theorem dX0_stepsBetween_10 : decode cX0_stepsBetween 10 = .ok (.iload_n 1, 1) := by decide +kernel
theorem dX0_stepsBetween_11 : decode cX0_stepsBetween 11 = .ok (.aload_n 0, 1) := by decide +kernel
theorem dX0_stepsBetween_12 : decode cX0_stepsBetween 12 = .ok (.getfield 24, 3) := by decide +kernel
theorem dX0_stepsBetween_15 : decode cX0_stepsBetween 15 = .ok (.idiv, 1) := by decide +kernel
theorem dX0_stepsBetween_16 : decode cX0_stepsBetween 16 = .ok (.iload_n 2, 1) := by decide +kernel
theorem dX0_stepsBetween_17 : decode cX0_stepsBetween 17 = .ok (.aload_n 0, 1) := by decide +kernel
theorem dX0_stepsBetween_18 : decode cX0_stepsBetween 18 = .ok (.getfield 24, 3) := by decide +kernel
theorem dX0_stepsBetween_21 : decode cX0_stepsBetween 21 = .ok (.idiv, 1) := by decide +kernel
theorem dX0_stepsBetween_22 : decode cX0_stepsBetween 22 = .ok (.isub, 1) := by decide +kernel
theorem dX0_stepsBetween_23 : decode cX0_stepsBetween 23 = .ok (.invokestatic 69, 3) := by decide +kernel
theorem dX0_stepsBetween_26 : decode cX0_stepsBetween 26 = .ok (.iload_n 1, 1) := by decide +kernel
theorem dX0_stepsBetween_27 : decode cX0_stepsBetween 27 = .ok (.aload_n 0, 1) := by decide +kernel
theorem dX0_stepsBetween_28 : decode cX0_stepsBetween 28 = .ok (.getfield 24, 3) := by decide +kernel
theorem dX0_stepsBetween_31 : decode cX0_stepsBetween 31 = .ok (.irem, 1) := by decide +kernel
theorem dX0_stepsBetween_32 : decode cX0_stepsBetween 32 = .ok (.iload_n 2, 1) := by decide +kernel
theorem dX0_stepsBetween_33 : decode cX0_stepsBetween 33 = .ok (.aload_n 0, 1) := by decide +kernel
theorem dX0_stepsBetween_34 : decode cX0_stepsBetween 34 = .ok (.getfield 24, 3) := by decide +kernel
theorem dX0_stepsBetween_37 : decode cX0_stepsBetween 37 = .ok (.irem, 1) := by decide +kernel
theorem dX0_stepsBetween_38 : decode cX0_stepsBetween 38 = .ok (.isub, 1) := by decide +kernel
theorem dX0_stepsBetween_39 : decode cX0_stepsBetween 39 = .ok (.invokestatic 69, 3) := by decide +kernel
theorem dX0_stepsBetween_42 : decode cX0_stepsBetween 42 = .ok (.iadd, 1) := by decide +kernel
theorem dX0_stepsBetween_43 : decode cX0_stepsBetween 43 = .ok (.ireturn, 1) := by decide +kernel
set_option maxRecDepth 20000 in
theorem ggX0_stepToColumn_X0_columnOf : GoodIn wsX0_stepToColumn wsX0_columnOf := goodIn_r _ [5, 6, 10, 11, 12, 13, 14, 15, 16, 17, 18, 19, 20, 21] (by decide +kernel) (by decide +kernel)
set_option maxRecDepth 20000 in
theorem gX0_stepToColumn_X0_columnOf : GoodIn wsX0_stepToColumn (wsV RX0 74 RX0 yX0_columnOf wsX0_columnOf) := goodIn_app (goodIn_of _ (by decide +kernel)) ggX0_stepToColumn_X0_columnOf
set_option maxRecDepth 20000 in
theorem ggX0_stepToColumn_X0_oneTowards : GoodIn wsX0_stepToColumn wsX0_oneTowards := goodIn_r _ [9] (by decide +kernel) (by decide +kernel)
set_option maxRecDepth 20000 in
theorem gX0_stepToColumn_X0_oneTowards : GoodIn wsX0_stepToColumn (va_wsS RX0 77 yX0_oneTowards wsX0_oneTowards) := goodIn_app (goodIn_of _ (by decide +kernel)) ggX0_stepToColumn_X0_oneTowards
theorem dX0_stepToColumn_0 : decode cX0_stepToColumn 0 = .ok (.iload_n 1, 1) := by decide +kernel
theorem dX0_stepToColumn_1 : decode cX0_stepToColumn 1 = .ok (.aload_n 0, 1) := by decide +kernel
theorem dX0_stepToColumn_2 : decode cX0_stepToColumn 2 = .ok (.iload_n 1, 1) := by decide +kernel
theorem dX0_stepToColumn_3 : decode cX0_stepToColumn 3 = .ok (.invokevirtual 74, 3) := by decide +kernel
theorem dX0_stepToColumn_6 : decode cX0_stepToColumn 6 = .ok (.iload_n 2, 1) := by decide +kernel
theorem dX0_stepToColumn_7 : decode cX0_stepToColumn 7 = .ok (.invokestatic 77, 3) := by decide +kernel
theorem dX0_stepToColumn_10 : decode cX0_stepToColumn 10 = .ok (.iadd, 1) := by decide +kernel
theorem dX0_stepToColumn_11 : decode cX0_stepToColumn 11 = .ok (.ireturn, 1) := by decide +kernel
set_option maxRecDepth 20000 in
theorem ggX0_stepTowards_X0_columnOf : GoodIn wsX0_stepTowards wsX0_columnOf := goodIn_r _ [6, 1, 10, 11, 12, 13, 14, 15, 16, 17, 18, 19, 20, 21] (by decide +kernel) (by decide +kernel)
set_option maxRecDepth 20000 in
theorem gX0_stepTowards_X0_columnOf : GoodIn wsX0_stepTowards (wsV RX0 74 RX0 yX0_columnOf wsX0_columnOf) := goodIn_app (goodIn_of _ (by decide +kernel)) ggX0_stepTowards_X0_columnOf
set_option maxRecDepth 20000 in
theorem ggX0_stepTowards_X0_oneTowards : GoodIn wsX0_stepTowards wsX0_oneTowards := goodIn_r _ [9] (by decide +kernel) (by decide +kernel)
set_option maxRecDepth 20000 in
theorem gX0_stepTowards_X0_oneTowards : GoodIn wsX0_stepTowards (va_wsS RX0 77 yX0_oneTowards wsX0_oneTowards) := goodIn_app (goodIn_of _ (by decide +kernel)) ggX0_stepTowards_X0_oneTowards
theorem dX0_stepTowards_0 : decode cX0_stepTowards 0 = .ok (.aload_n 0, 1) := by decide +kernel
theorem dX0_stepTowards_1 : decode cX0_stepTowards 1 = .ok (.iload_n 2, 1) := by decide +kernel
theorem dX0_stepTowards_2 : decode cX0_stepTowards 2 = .ok (.invokevirtual 74, 3) := by decide +kernel
theorem dX0_stepTowards_5 : decode cX0_stepTowards 5 = .ok (.istore_n 3, 1) := by decide +kernel
theorem dX0_stepTowards_6 : decode cX0_stepTowards 6 = .ok (.iload_n 3, 1) := by decide +kernel
theorem dX0_stepTowards_7 : decode cX0_stepTowards 7 = .ok (.aload_n 0, 1) := by decide +kernel
theorem dX0_stepTowards_8 : decode cX0_stepTowards 8 = .ok (.iload_n 1, 1) := by decide +kernel
theorem dX0_stepTowards_9 : decode cX0_stepTowards 9 = .ok (.invokevirtual 74, 3) := by decide +kernel
theorem dX0_stepTowards_12 : decode cX0_stepTowards 12 = .ok (.if_icmp .eq 15, 3) := by decide +kernel
theorem dX0_stepTowards_15 : decode cX0_stepTowards 15 = .ok (.iload_n 1, 1) := by decide +kernel
theorem dX0_stepTowards_16 : decode cX0_stepTowards 16 = .ok (.aload_n 0, 1) := by decide +kernel
theorem dX0_stepTowards_17 : decode cX0_stepTowards 17 = .ok (.iload_n 1, 1) := by decide +kernel
theorem dX0_stepTowards_18 : decode cX0_stepTowards 18 = .ok (.invokevirtual 74, 3) := by decide +kernel
theorem dX0_stepTowards_21 : decode cX0_stepTowards 21 = .ok (.iload_n 3, 1) := by decide +kernel
theorem dX0_stepTowards_22 : decode cX0_stepTowards 22 = .ok (.invokestatic 77, 3) := by decide +kernel
theorem dX0_stepTowards_25 : decode cX0_stepTowards 25 = .ok (.iadd, 1) := by decide +kernel
theorem dX0_stepTowards_26 : decode cX0_stepTowards 26 = .ok (.ireturn, 1) := by decide +kernel
theorem dX0_stepTowards_27 : decode cX0_stepTowards 27 = .ok (.iload_n 1, 1) := by decide +kernel
theorem dX0_stepTowards_28 : decode cX0_stepTowards 28 = .ok (.aload_n 0, 1) := by decide +kernel
theorem dX0_stepTowards_29 : decode cX0_stepTowards 29 = .ok (.getfield 24, 3) := by decide +kernel
theorem dX0_stepTowards_32 : decode cX0_stepTowards 32 = .ok (.iload_n 1, 1) := by decide +kernel
theorem dX0_stepTowards_33 : decode cX0_stepTowards 33 = .ok (.iload_n 2, 1) := by decide +kernel
theorem dX0_stepTowards_34 : decode cX0_stepTowards 34 = .ok (.invokestatic 77, 3) := by decide +kernel
theorem dX0_stepTowards_37 : decode cX0_stepTowards 37 = .ok (.imul, 1) := by decide +kernel
theorem dX0_stepTowards_38 : decode cX0_stepTowards 38 = .ok (.iadd, 1) := by decide +kernel
theorem dX0_stepTowards_39 : decode cX0_stepTowards 39 = .ok (.ireturn, 1) := by decide +kernel
theorem dX0_oneTowards_0 : decode cX0_oneTowards 0 = .ok (.iload_n 0, 1) := by decide +kernel
theorem dX0_oneTowards_1 : decode cX0_oneTowards 1 = .ok (.iload_n 1, 1) := by decide +kernel
theorem dX0_oneTowards_2 : decode cX0_oneTowards 2 = .ok (.if_icmp .ne 5, 3) := by decide +kernel
theorem dX0_oneTowards_5 : decode cX0_oneTowards 5 = .ok (.iconst 0, 1) := by decide +kernel
theorem dX0_oneTowards_6 : decode cX0_oneTowards 6 = .ok (.ireturn, 1) := by decide +kernel
theorem dX0_oneTowards_7 : decode cX0_oneTowards 7 = .ok (.iload_n 0, 1) := by decide +kernel
theorem dX0_oneTowards_8 : decode cX0_oneTowards 8 = .ok (.iload_n 1, 1) := by decide +kernel
theorem dX0_oneTowards_9 : decode cX0_oneTowards 9 = .ok (.if_icmp .ge 7, 3) := by decide +kernel
theorem dX0_oneTowards_12 : decode cX0_oneTowards 12 = .ok (.iconst 1, 1) := by decide +kernel
theorem dX0_oneTowards_13 : decode cX0_oneTowards 13 = .ok (.goto 4, 3) := by decide +kernel
theorem dX0_oneTowards_16 : decode cX0_oneTowards 16 = .ok (.iconst (-1), 1) := by decide +kernel
theorem dX0_oneTowards_17 : decode cX0_oneTowards 17 = .ok (.ireturn, 1) := by decide +kernel
set_option maxRecDepth 20000 in
theorem ggX0_cellBy_X0_columnOf : GoodIn wsX0_cellBy wsX0_columnOf := goodIn_r _ [6, 1, 12, 13, 14, 15, 16, 17, 18, 19, 20, 21, 22, 23] (by decide +kernel) (by decide +kernel)
set_option maxRecDepth 20000 in
theorem gX0_cellBy_X0_columnOf : GoodIn wsX0_cellBy (wsV RX0 74 RX0 yX0_columnOf wsX0_columnOf) := goodIn_app (goodIn_of _ (by decide +kernel)) ggX0_cellBy_X0_columnOf
set_option maxRecDepth 20000 in
theorem ggX0_cellBy_X0_cells : GoodIn wsX0_cellBy wsX0_cells := goodIn_r _ [10, 1, 11, 12, 13, 14, 15, 16, 17, 18, 19, 20, 21, 22, 23] (by decide +kernel) (by decide +kernel)
set_option maxRecDepth 20000 in
theorem gX0_cellBy_X0_cells : GoodIn wsX0_cellBy (wsV RX0 65 RX0 yX0_cells wsX0_cells) := goodIn_app (goodIn_of _ (by decide +kernel)) ggX0_cellBy_X0_cells
theorem dX0_cellBy_0 : decode cX0_cellBy 0 = .ok (.iload_n 2, 1) := by decide +kernel
theorem dX0_cellBy_1 : decode cX0_cellBy 1 = .ok (.tableswitch 117 0 3 #[31, 54, 75, 100], 31) := by decide +kernel
theorem dX0_cellBy_32 : decode cX0_cellBy 32 = .ok (.aload_n 0, 1) := by decide +kernel
theorem dX0_cellBy_33 : decode cX0_cellBy 33 = .ok (.iload_n 1, 1) := by decide +kernel
theorem dX0_cellBy_34 : decode cX0_cellBy 34 = .ok (.invokevirtual 74, 3) := by decide +kernel
theorem dX0_cellBy_37 : decode cX0_cellBy 37 = .ok (.iconst 1, 1) := by decide +kernel
theorem dX0_cellBy_38 : decode cX0_cellBy 38 = .ok (.iadd, 1) := by decide +kernel
theorem dX0_cellBy_39 : decode cX0_cellBy 39 = .ok (.aload_n 0, 1) := by decide +kernel
theorem dX0_cellBy_40 : decode cX0_cellBy 40 = .ok (.getfield 24, 3) := by decide +kernel
theorem dX0_cellBy_43 : decode cX0_cellBy 43 = .ok (.if_icmp .ge 9, 3) := by decide +kernel
theorem dX0_cellBy_46 : decode cX0_cellBy 46 = .ok (.iload_n 1, 1) := by decide +kernel
theorem dX0_cellBy_47 : decode cX0_cellBy 47 = .ok (.iconst 1, 1) := by decide +kernel
theorem dX0_cellBy_48 : decode cX0_cellBy 48 = .ok (.iadd, 1) := by decide +kernel
theorem dX0_cellBy_49 : decode cX0_cellBy 49 = .ok (.goto 5, 3) := by decide +kernel
theorem dX0_cellBy_52 : decode cX0_cellBy 52 = .ok (.bipush (-9), 2) := by decide +kernel
theorem dX0_cellBy_54 : decode cX0_cellBy 54 = .ok (.ireturn, 1) := by decide +kernel
theorem dX0_cellBy_55 : decode cX0_cellBy 55 = .ok (.iload_n 1, 1) := by decide +kernel
theorem dX0_cellBy_56 : decode cX0_cellBy 56 = .ok (.aload_n 0, 1) := by decide +kernel
theorem dX0_cellBy_57 : decode cX0_cellBy 57 = .ok (.getfield 24, 3) := by decide +kernel
theorem dX0_cellBy_60 : decode cX0_cellBy 60 = .ok (.isub, 1) := by decide +kernel
theorem dX0_cellBy_61 : decode cX0_cellBy 61 = .ok (.ifCond .lt 12, 3) := by decide +kernel
theorem dX0_cellBy_64 : decode cX0_cellBy 64 = .ok (.iload_n 1, 1) := by decide +kernel
theorem dX0_cellBy_65 : decode cX0_cellBy 65 = .ok (.aload_n 0, 1) := by decide +kernel
theorem dX0_cellBy_66 : decode cX0_cellBy 66 = .ok (.getfield 24, 3) := by decide +kernel
theorem dX0_cellBy_69 : decode cX0_cellBy 69 = .ok (.isub, 1) := by decide +kernel
theorem dX0_cellBy_70 : decode cX0_cellBy 70 = .ok (.goto 5, 3) := by decide +kernel
theorem dX0_cellBy_73 : decode cX0_cellBy 73 = .ok (.bipush (-9), 2) := by decide +kernel
theorem dX0_cellBy_75 : decode cX0_cellBy 75 = .ok (.ireturn, 1) := by decide +kernel
theorem dX0_cellBy_76 : decode cX0_cellBy 76 = .ok (.iload_n 1, 1) := by decide +kernel
theorem dX0_cellBy_77 : decode cX0_cellBy 77 = .ok (.aload_n 0, 1) := by decide +kernel
theorem dX0_cellBy_78 : decode cX0_cellBy 78 = .ok (.getfield 24, 3) := by decide +kernel
theorem dX0_cellBy_81 : decode cX0_cellBy 81 = .ok (.iadd, 1) := by decide +kernel
theorem dX0_cellBy_82 : decode cX0_cellBy 82 = .ok (.aload_n 0, 1) := by decide +kernel
theorem dX0_cellBy_83 : decode cX0_cellBy 83 = .ok (.invokevirtual 65, 3) := by decide +kernel
theorem dX0_cellBy_86 : decode cX0_cellBy 86 = .ok (.if_icmp .ge 12, 3) := by decide +kernel
theorem dX0_cellBy_89 : decode cX0_cellBy 89 = .ok (.iload_n 1, 1) := by decide +kernel
theorem dX0_cellBy_90 : decode cX0_cellBy 90 = .ok (.aload_n 0, 1) := by decide +kernel
theorem dX0_cellBy_91 : decode cX0_cellBy 91 = .ok (.getfield 24, 3) := by decide +kernel
theorem dX0_cellBy_94 : decode cX0_cellBy 94 = .ok (.iadd, 1) := by decide +kernel
theorem dX0_cellBy_95 : decode cX0_cellBy 95 = .ok (.goto 5, 3) := by decide +kernel
theorem dX0_cellBy_98 : decode cX0_cellBy 98 = .ok (.bipush (-9), 2) := by decide +kernel
theorem dX0_cellBy_100 : decode cX0_cellBy 100 = .ok (.ireturn, 1) := by decide +kernel
theorem dX0_cellBy_101 : decode cX0_cellBy 101 = .ok (.aload_n 0, 1) := by decide +kernel
theorem dX0_cellBy_102 : decode cX0_cellBy 102 = .ok (.iload_n 1, 1) := by decide +kernel
theorem dX0_cellBy_103 : decode cX0_cellBy 103 = .ok (.invokevirtual 74, 3) := by decide +kernel
theorem dX0_cellBy_106 : decode cX0_cellBy 106 = .ok (.ifCond .le 9, 3) := by decide +kernel
theorem dX0_cellBy_109 : decode cX0_cellBy 109 = .ok (.iload_n 1, 1) := by decide +kernel
theorem dX0_cellBy_110 : decode cX0_cellBy 110 = .ok (.iconst 1, 1) := by decide +kernel
theorem dX0_cellBy_111 : decode cX0_cellBy 111 = .ok (.isub, 1) := by decide +kernel
theorem dX0_cellBy_112 : decode cX0_cellBy 112 = .ok (.goto 5, 3) := by decide +kernel
theorem dX0_cellBy_115 : decode cX0_cellBy 115 = .ok (.bipush (-9), 2) := by decide +kernel
theorem dX0_cellBy_117 : decode cX0_cellBy 117 = .ok (.ireturn, 1) := by decide +kernel
theorem dX0_cellBy_118 : decode cX0_cellBy 118 = .ok (.iload_n 1, 1) := by decide +kernel
theorem dX0_cellBy_119 : decode cX0_cellBy 119 = .ok (.ireturn, 1) := by decide +kernel
set_option maxRecDepth 20000 in
theorem ggX0_spread_X0_columnCells : GoodIn wsX0_spread wsX0_columnCells := goodIn_r _ [6, 7, 1, 16, 17, 18, 19, 20, 21, 22, 23, 24, 25, 26, 27] (by decide +kernel) (by decide +kernel)
set_option maxRecDepth 20000 in
theorem gX0_spread_X0_columnCells : GoodIn wsX0_spread (wsV RX0 81 RX0 yX0_columnCells wsX0_columnCells) := goodIn_app (goodIn_of _ (by decide +kernel)) ggX0_spread_X0_columnCells
set_option maxRecDepth 20000 in
theorem ggX0_spread_X0_allCells : GoodIn wsX0_spread wsX0_allCells := goodIn_r _ [11, 12, 13, 14, 5, 15, 1, 7, 16, 17, 18, 19, 20, 21, 22, 23, 24, 25, 26, 27] (by decide +kernel) (by decide +kernel)
set_option maxRecDepth 20000 in
theorem gX0_spread_X0_allCells : GoodIn wsX0_spread (wsV RX0 84 RX0 yX0_allCells wsX0_allCells) := goodIn_app (goodIn_of _ (by decide +kernel)) ggX0_spread_X0_allCells
theorem dX0_spread_0 : decode cX0_spread 0 = .ok (.iload_n 1, 1) := by decide +kernel
theorem dX0_spread_1 : decode cX0_spread 1 = .ok (.aload_n 0, 1) := by decide +kernel
theorem dX0_spread_2 : decode cX0_spread 2 = .ok (.aload_n 0, 1) := by decide +kernel
theorem dX0_spread_3 : decode cX0_spread 3 = .ok (.getfield 24, 3) := by decide +kernel
theorem dX0_spread_6 : decode cX0_spread 6 = .ok (.iconst 1, 1) := by decide +kernel
theorem dX0_spread_7 : decode cX0_spread 7 = .ok (.isub, 1) := by decide +kernel
theorem dX0_spread_8 : decode cX0_spread 8 = .ok (.invokevirtual 81, 3) := by decide +kernel
theorem dX0_spread_11 : decode cX0_spread 11 = .ok (.iconst (-1), 1) := by decide +kernel
theorem dX0_spread_12 : decode cX0_spread 12 = .ok (.ixor, 1) := by decide +kernel
theorem dX0_spread_13 : decode cX0_spread 13 = .ok (.iand, 1) := by decide +kernel
theorem dX0_spread_14 : decode cX0_spread 14 = .ok (.iconst 1, 1) := by decide +kernel
theorem dX0_spread_15 : decode cX0_spread 15 = .ok (.ishl, 1) := by decide +kernel
theorem dX0_spread_16 : decode cX0_spread 16 = .ok (.istore_n 2, 1) := by decide +kernel
theorem dX0_spread_17 : decode cX0_spread 17 = .ok (.iload_n 1, 1) := by decide +kernel
theorem dX0_spread_18 : decode cX0_spread 18 = .ok (.aload_n 0, 1) := by decide +kernel
theorem dX0_spread_19 : decode cX0_spread 19 = .ok (.iconst 0, 1) := by decide +kernel
theorem dX0_spread_20 : decode cX0_spread 20 = .ok (.invokevirtual 81, 3) := by decide +kernel
theorem dX0_spread_23 : decode cX0_spread 23 = .ok (.iconst (-1), 1) := by decide +kernel
theorem dX0_spread_24 : decode cX0_spread 24 = .ok (.ixor, 1) := by decide +kernel
theorem dX0_spread_25 : decode cX0_spread 25 = .ok (.iand, 1) := by decide +kernel
theorem dX0_spread_26 : decode cX0_spread 26 = .ok (.iconst 1, 1) := by decide +kernel
theorem dX0_spread_27 : decode cX0_spread 27 = .ok (.iushr, 1) := by decide +kernel
theorem dX0_spread_28 : decode cX0_spread 28 = .ok (.istore_n 3, 1) := by decide +kernel
theorem dX0_spread_29 : decode cX0_spread 29 = .ok (.iload_n 1, 1) := by decide +kernel
theorem dX0_spread_30 : decode cX0_spread 30 = .ok (.iload_n 2, 1) := by decide +kernel
theorem dX0_spread_31 : decode cX0_spread 31 = .ok (.ior, 1) := by decide +kernel
theorem dX0_spread_32 : decode cX0_spread 32 = .ok (.iload_n 3, 1) := by decide +kernel
theorem dX0_spread_33 : decode cX0_spread 33 = .ok (.ior, 1) := by decide +kernel
theorem dX0_spread_34 : decode cX0_spread 34 = .ok (.iload_n 1, 1) := by decide +kernel
theorem dX0_spread_35 : decode cX0_spread 35 = .ok (.aload_n 0, 1) := by decide +kernel
theorem dX0_spread_36 : decode cX0_spread 36 = .ok (.getfield 24, 3) := by decide +kernel
theorem dX0_spread_39 : decode cX0_spread 39 = .ok (.ishl, 1) := by decide +kernel
theorem dX0_spread_40 : decode cX0_spread 40 = .ok (.ior, 1) := by decide +kernel
theorem dX0_spread_41 : decode cX0_spread 41 = .ok (.iload_n 1, 1) := by decide +kernel
theorem dX0_spread_42 : decode cX0_spread 42 = .ok (.aload_n 0, 1) := by decide +kernel
theorem dX0_spread_43 : decode cX0_spread 43 = .ok (.getfield 24, 3) := by decide +kernel
theorem dX0_spread_46 : decode cX0_spread 46 = .ok (.iushr, 1) := by decide +kernel
theorem dX0_spread_47 : decode cX0_spread 47 = .ok (.ior, 1) := by decide +kernel
theorem dX0_spread_48 : decode cX0_spread 48 = .ok (.aload_n 0, 1) := by decide +kernel
theorem dX0_spread_49 : decode cX0_spread 49 = .ok (.invokevirtual 84, 3) := by decide +kernel
theorem dX0_spread_52 : decode cX0_spread 52 = .ok (.iand, 1) := by decide +kernel
theorem dX0_spread_53 : decode cX0_spread 53 = .ok (.ireturn, 1) := by decide +kernel
