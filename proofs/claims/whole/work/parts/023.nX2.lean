theorem dX2_init_0 : decode cX2_init 0 = .ok (.aload_n 0, 1) := by decide +kernel
theorem dX2_init_1 : decode cX2_init 1 = .ok (.invokespecial 3, 3) := by decide +kernel
theorem dX2_init_4 : decode cX2_init 4 = .ok (.aload_n 0, 1) := by decide +kernel
theorem dX2_init_5 : decode cX2_init 5 = .ok (.bipush 8, 2) := by decide +kernel
theorem dX2_init_7 : decode cX2_init 7 = .ok (.newarray .int, 2) := by decide +kernel
theorem dX2_init_9 : decode cX2_init 9 = .ok (.putfield 9, 3) := by decide +kernel
theorem dX2_init_12 : decode cX2_init 12 = .ok (.aload_n 0, 1) := by decide +kernel
theorem dX2_init_13 : decode cX2_init 13 = .ok (.bipush 8, 2) := by decide +kernel
theorem dX2_init_15 : decode cX2_init 15 = .ok (.newarray .int, 2) := by decide +kernel
theorem dX2_init_17 : decode cX2_init 17 = .ok (.putfield 15, 3) := by decide +kernel
theorem dX2_init_20 : decode cX2_init 20 = .ok (.return_, 1) := by decide +kernel
set_option maxRecDepth 20000 in
theorem ggX2_startAs_X0_startOf : GoodIn wsX2_startAs wsX0_startOf := goodIn_r _ [12, 13, 14, 15, 16, 34, 35, 36, 37, 38, 39, 40, 41, 42, 43, 44, 45] (by decide +kernel) (by decide +kernel)
set_option maxRecDepth 20000 in
theorem gX2_startAs_X0_startOf : GoodIn wsX2_startAs (wsV RX2 40 RX0 yX0_startOf wsX0_startOf) := goodIn_app (goodIn_of _ (by decide +kernel)) ggX2_startAs_X0_startOf
set_option maxRecDepth 20000 in
theorem ggX2_startAs_X2_addCat : GoodIn wsX2_startAs wsX2_addCat := goodIn_r _ [21, 1, 22, 23, 2, 24, 15, 25, 26, 27, 28, 29, 30, 31, 32, 33] (by decide +kernel) (by decide +kernel)
set_option maxRecDepth 20000 in
theorem gX2_startAs_X2_addCat : GoodIn wsX2_startAs (wsV RX2 44 RX2 yX2_addCat wsX2_addCat) := goodIn_app (goodIn_of _ (by decide +kernel)) ggX2_startAs_X2_addCat
theorem dX2_startAs_0 : decode cX2_startAs 0 = .ok (.aload_n 0, 1) := by decide +kernel
theorem dX2_startAs_1 : decode cX2_startAs 1 = .ok (.iconst 0, 1) := by decide +kernel
theorem dX2_startAs_2 : decode cX2_startAs 2 = .ok (.putfield 18, 3) := by decide +kernel
theorem dX2_startAs_5 : decode cX2_startAs 5 = .ok (.aload_n 0, 1) := by decide +kernel
theorem dX2_startAs_6 : decode cX2_startAs 6 = .ok (.iconst 0, 1) := by decide +kernel
theorem dX2_startAs_7 : decode cX2_startAs 7 = .ok (.putfield 22, 3) := by decide +kernel
theorem dX2_startAs_10 : decode cX2_startAs 10 = .ok (.aload_n 0, 1) := by decide +kernel
theorem dX2_startAs_11 : decode cX2_startAs 11 = .ok (.iconst 0, 1) := by decide +kernel
theorem dX2_startAs_12 : decode cX2_startAs 12 = .ok (.putfield 25, 3) := by decide +kernel
theorem dX2_startAs_15 : decode cX2_startAs 15 = .ok (.aload_n 0, 1) := by decide +kernel
theorem dX2_startAs_16 : decode cX2_startAs 16 = .ok (.bipush (-9), 2) := by decide +kernel
theorem dX2_startAs_18 : decode cX2_startAs 18 = .ok (.putfield 28, 3) := by decide +kernel
theorem dX2_startAs_21 : decode cX2_startAs 21 = .ok (.aload_n 0, 1) := by decide +kernel
theorem dX2_startAs_22 : decode cX2_startAs 22 = .ok (.iconst 0, 1) := by decide +kernel
theorem dX2_startAs_23 : decode cX2_startAs 23 = .ok (.putfield 31, 3) := by decide +kernel
theorem dX2_startAs_26 : decode cX2_startAs 26 = .ok (.aload_n 0, 1) := by decide +kernel
theorem dX2_startAs_27 : decode cX2_startAs 27 = .ok (.iconst 0, 1) := by decide +kernel
theorem dX2_startAs_28 : decode cX2_startAs 28 = .ok (.putfield 34, 3) := by decide +kernel
theorem dX2_startAs_31 : decode cX2_startAs 31 = .ok (.iconst 0, 1) := by decide +kernel
theorem dX2_startAs_32 : decode cX2_startAs 32 = .ok (.istore_n 2, 1) := by decide +kernel
theorem dX2_startAs_33 : decode cX2_startAs 33 = .ok (.iload_n 2, 1) := by decide +kernel
theorem dX2_startAs_34 : decode cX2_startAs 34 = .ok (.aload_n 1, 1) := by decide +kernel
theorem dX2_startAs_35 : decode cX2_startAs 35 = .ok (.getfield 37, 3) := by decide +kernel
theorem dX2_startAs_38 : decode cX2_startAs 38 = .ok (.if_icmp .ge 18, 3) := by decide +kernel
theorem dX2_startAs_41 : decode cX2_startAs 41 = .ok (.aload_n 0, 1) := by decide +kernel
theorem dX2_startAs_42 : decode cX2_startAs 42 = .ok (.aload_n 1, 1) := by decide +kernel
theorem dX2_startAs_43 : decode cX2_startAs 43 = .ok (.iload_n 2, 1) := by decide +kernel
theorem dX2_startAs_44 : decode cX2_startAs 44 = .ok (.invokevirtual 40, 3) := by decide +kernel
theorem dX2_startAs_47 : decode cX2_startAs 47 = .ok (.invokevirtual 44, 3) := by decide +kernel
theorem dX2_startAs_50 : decode cX2_startAs 50 = .ok (.iinc 2 1, 3) := by decide +kernel
theorem dX2_startAs_53 : decode cX2_startAs 53 = .ok (.goto (-20), 3) := by decide +kernel
theorem dX2_startAs_56 : decode cX2_startAs 56 = .ok (.return_, 1) := by decide +kernel
set_option maxRecDepth 20000 in
theorem ggX2_addCat_X4_put : GoodIn wsX2_addCat wsX4_put := goodIn_r _ [7] (by decide +kernel) (by decide +kernel)
set_option maxRecDepth 20000 in
theorem gX2_addCat_X4_put_n48 : GoodIn wsX2_addCat (wsX4_put) := ggX2_addCat_X4_put
theorem dX2_addCat_0 : decode cX2_addCat 0 = .ok (.aload_n 0, 1) := by decide +kernel
theorem dX2_addCat_1 : decode cX2_addCat 1 = .ok (.getfield 18, 3) := by decide +kernel
theorem dX2_addCat_4 : decode cX2_addCat 4 = .ok (.aload_n 0, 1) := by decide +kernel
theorem dX2_addCat_5 : decode cX2_addCat 5 = .ok (.getfield 9, 3) := by decide +kernel
theorem dX2_addCat_8 : decode cX2_addCat 8 = .ok (.arraylength, 1) := by decide +kernel
theorem dX2_addCat_9 : decode cX2_addCat 9 = .ok (.if_icmp .ge 49, 3) := by decide +kernel
theorem dX2_addCat_12 : decode cX2_addCat 12 = .ok (.aload_n 0, 1) := by decide +kernel
theorem dX2_addCat_13 : decode cX2_addCat 13 = .ok (.getfield 9, 3) := by decide +kernel
theorem dX2_addCat_16 : decode cX2_addCat 16 = .ok (.aload_n 0, 1) := by decide +kernel
theorem dX2_addCat_17 : decode cX2_addCat 17 = .ok (.getfield 18, 3) := by decide +kernel
theorem dX2_addCat_20 : decode cX2_addCat 20 = .ok (.iload_n 1, 1) := by decide +kernel
theorem dX2_addCat_21 : decode cX2_addCat 21 = .ok (.invokestatic 48, 3) := by decide +kernel
theorem dX2_addCat_24 : decode cX2_addCat 24 = .ok (.aload_n 0, 1) := by decide +kernel
theorem dX2_addCat_25 : decode cX2_addCat 25 = .ok (.getfield 15, 3) := by decide +kernel
theorem dX2_addCat_28 : decode cX2_addCat 28 = .ok (.aload_n 0, 1) := by decide +kernel
theorem dX2_addCat_29 : decode cX2_addCat 29 = .ok (.getfield 18, 3) := by decide +kernel
theorem dX2_addCat_32 : decode cX2_addCat 32 = .ok (.iconst 0, 1) := by decide +kernel
theorem dX2_addCat_33 : decode cX2_addCat 33 = .ok (.invokestatic 48, 3) := by decide +kernel
theorem dX2_addCat_36 : decode cX2_addCat 36 = .ok (.aload_n 0, 1) := by decide +kernel
theorem dX2_addCat_37 : decode cX2_addCat 37 = .ok (.dup, 1) := by decide +kernel
theorem dX2_addCat_38 : decode cX2_addCat 38 = .ok (.getfield 22, 3) := by decide +kernel
theorem dX2_addCat_41 : decode cX2_addCat 41 = .ok (.iconst 1, 1) := by decide +kernel
theorem dX2_addCat_42 : decode cX2_addCat 42 = .ok (.iload_n 1, 1) := by decide +kernel
theorem dX2_addCat_43 : decode cX2_addCat 43 = .ok (.ishl, 1) := by decide +kernel
theorem dX2_addCat_44 : decode cX2_addCat 44 = .ok (.ior, 1) := by decide +kernel
theorem dX2_addCat_45 : decode cX2_addCat 45 = .ok (.putfield 22, 3) := by decide +kernel
theorem dX2_addCat_48 : decode cX2_addCat 48 = .ok (.aload_n 0, 1) := by decide +kernel
theorem dX2_addCat_49 : decode cX2_addCat 49 = .ok (.dup, 1) := by decide +kernel
theorem dX2_addCat_50 : decode cX2_addCat 50 = .ok (.getfield 18, 3) := by decide +kernel
theorem dX2_addCat_53 : decode cX2_addCat 53 = .ok (.iconst 1, 1) := by decide +kernel
theorem dX2_addCat_54 : decode cX2_addCat 54 = .ok (.iadd, 1) := by decide +kernel
theorem dX2_addCat_55 : decode cX2_addCat 55 = .ok (.putfield 18, 3) := by decide +kernel
theorem dX2_addCat_58 : decode cX2_addCat 58 = .ok (.return_, 1) := by decide +kernel
set_option maxRecDepth 20000 in
theorem ggX2_copyFrom_X2_cellOf : GoodIn wsX2_copyFrom wsX2_cellOf := goodIn_r _ [13, 7, 14, 15, 16, 23, 24, 25, 26, 27, 28, 29, 30] (by decide +kernel) (by decide +kernel)
set_option maxRecDepth 20000 in
theorem gX2_copyFrom_X2_cellOf : GoodIn wsX2_copyFrom (wsV RX2 52 RX2 yX2_cellOf wsX2_cellOf) := goodIn_app (goodIn_of _ (by decide +kernel)) ggX2_copyFrom_X2_cellOf
set_option maxRecDepth 20000 in
theorem ggX2_copyFrom_X4_put : GoodIn wsX2_copyFrom wsX4_put := goodIn_r _ [18] (by decide +kernel) (by decide +kernel)
set_option maxRecDepth 20000 in
theorem gX2_copyFrom_X4_put_n48 : GoodIn wsX2_copyFrom (wsX4_put) := ggX2_copyFrom_X4_put
set_option maxRecDepth 20000 in
theorem ggX2_copyFrom_X2_eatenBy : GoodIn wsX2_copyFrom wsX2_eatenBy := goodIn_r _ [22, 8, 14, 15, 16, 23, 24, 25, 26, 27, 28, 29, 30] (by decide +kernel) (by decide +kernel)
set_option maxRecDepth 20000 in
theorem gX2_copyFrom_X2_eatenBy : GoodIn wsX2_copyFrom (wsV RX2 55 RX2 yX2_eatenBy wsX2_eatenBy) := goodIn_app (goodIn_of _ (by decide +kernel)) ggX2_copyFrom_X2_eatenBy
theorem dX2_copyFrom_0 : decode cX2_copyFrom 0 = .ok (.aload_n 0, 1) := by decide +kernel
theorem dX2_copyFrom_1 : decode cX2_copyFrom 1 = .ok (.aload_n 1, 1) := by decide +kernel
theorem dX2_copyFrom_2 : decode cX2_copyFrom 2 = .ok (.getfield 18, 3) := by decide +kernel
theorem dX2_copyFrom_5 : decode cX2_copyFrom 5 = .ok (.putfield 18, 3) := by decide +kernel
theorem dX2_copyFrom_8 : decode cX2_copyFrom 8 = .ok (.aload_n 0, 1) := by decide +kernel
theorem dX2_copyFrom_9 : decode cX2_copyFrom 9 = .ok (.aload_n 1, 1) := by decide +kernel
theorem dX2_copyFrom_10 : decode cX2_copyFrom 10 = .ok (.getfield 22, 3) := by decide +kernel
theorem dX2_copyFrom_13 : decode cX2_copyFrom 13 = .ok (.putfield 22, 3) := by decide +kernel
theorem dX2_copyFrom_16 : decode cX2_copyFrom 16 = .ok (.aload_n 0, 1) := by decide +kernel
theorem dX2_copyFrom_17 : decode cX2_copyFrom 17 = .ok (.aload_n 1, 1) := by decide +kernel
theorem dX2_copyFrom_18 : decode cX2_copyFrom 18 = .ok (.getfield 25, 3) := by decide +kernel
theorem dX2_copyFrom_21 : decode cX2_copyFrom 21 = .ok (.putfield 25, 3) := by decide +kernel
theorem dX2_copyFrom_24 : decode cX2_copyFrom 24 = .ok (.aload_n 0, 1) := by decide +kernel
theorem dX2_copyFrom_25 : decode cX2_copyFrom 25 = .ok (.aload_n 1, 1) := by decide +kernel
theorem dX2_copyFrom_26 : decode cX2_copyFrom 26 = .ok (.getfield 28, 3) := by decide +kernel
theorem dX2_copyFrom_29 : decode cX2_copyFrom 29 = .ok (.putfield 28, 3) := by decide +kernel
theorem dX2_copyFrom_32 : decode cX2_copyFrom 32 = .ok (.aload_n 0, 1) := by decide +kernel
theorem dX2_copyFrom_33 : decode cX2_copyFrom 33 = .ok (.aload_n 1, 1) := by decide +kernel
theorem dX2_copyFrom_34 : decode cX2_copyFrom 34 = .ok (.getfield 31, 3) := by decide +kernel
theorem dX2_copyFrom_37 : decode cX2_copyFrom 37 = .ok (.putfield 31, 3) := by decide +kernel
theorem dX2_copyFrom_40 : decode cX2_copyFrom 40 = .ok (.aload_n 0, 1) := by decide +kernel
theorem dX2_copyFrom_41 : decode cX2_copyFrom 41 = .ok (.aload_n 1, 1) := by decide +kernel
theorem dX2_copyFrom_42 : decode cX2_copyFrom 42 = .ok (.getfield 34, 3) := by decide +kernel
theorem dX2_copyFrom_45 : decode cX2_copyFrom 45 = .ok (.putfield 34, 3) := by decide +kernel
theorem dX2_copyFrom_48 : decode cX2_copyFrom 48 = .ok (.iconst 0, 1) := by decide +kernel
theorem dX2_copyFrom_49 : decode cX2_copyFrom 49 = .ok (.istore_n 2, 1) := by decide +kernel
theorem dX2_copyFrom_50 : decode cX2_copyFrom 50 = .ok (.iload_n 2, 1) := by decide +kernel
theorem dX2_copyFrom_51 : decode cX2_copyFrom 51 = .ok (.aload_n 0, 1) := by decide +kernel
theorem dX2_copyFrom_52 : decode cX2_copyFrom 52 = .ok (.getfield 18, 3) := by decide +kernel
theorem dX2_copyFrom_55 : decode cX2_copyFrom 55 = .ok (.if_icmp .ge 35, 3) := by decide +kernel
theorem dX2_copyFrom_58 : decode cX2_copyFrom 58 = .ok (.aload_n 0, 1) := by decide +kernel
theorem dX2_copyFrom_59 : decode cX2_copyFrom 59 = .ok (.getfield 9, 3) := by decide +kernel
theorem dX2_copyFrom_62 : decode cX2_copyFrom 62 = .ok (.iload_n 2, 1) := by decide +kernel
theorem dX2_copyFrom_63 : decode cX2_copyFrom 63 = .ok (.aload_n 1, 1) := by decide +kernel
theorem dX2_copyFrom_64 : decode cX2_copyFrom 64 = .ok (.iload_n 2, 1) := by decide +kernel
theorem dX2_copyFrom_65 : decode cX2_copyFrom 65 = .ok (.invokevirtual 52, 3) := by decide +kernel
theorem dX2_copyFrom_68 : decode cX2_copyFrom 68 = .ok (.invokestatic 48, 3) := by decide +kernel
theorem dX2_copyFrom_71 : decode cX2_copyFrom 71 = .ok (.aload_n 0, 1) := by decide +kernel
theorem dX2_copyFrom_72 : decode cX2_copyFrom 72 = .ok (.getfield 15, 3) := by decide +kernel
theorem dX2_copyFrom_75 : decode cX2_copyFrom 75 = .ok (.iload_n 2, 1) := by decide +kernel
theorem dX2_copyFrom_76 : decode cX2_copyFrom 76 = .ok (.aload_n 1, 1) := by decide +kernel
theorem dX2_copyFrom_77 : decode cX2_copyFrom 77 = .ok (.iload_n 2, 1) := by decide +kernel
theorem dX2_copyFrom_78 : decode cX2_copyFrom 78 = .ok (.invokevirtual 55, 3) := by decide +kernel
theorem dX2_copyFrom_81 : decode cX2_copyFrom 81 = .ok (.invokestatic 48, 3) := by decide +kernel
theorem dX2_copyFrom_84 : decode cX2_copyFrom 84 = .ok (.iinc 2 1, 3) := by decide +kernel
theorem dX2_copyFrom_87 : decode cX2_copyFrom 87 = .ok (.goto (-37), 3) := by decide +kernel
theorem dX2_copyFrom_90 : decode cX2_copyFrom 90 = .ok (.return_, 1) := by decide +kernel
set_option maxRecDepth 20000 in
theorem ggX2_foresee_X2_copyFrom : GoodIn wsX2_foresee wsX2_copyFrom := goodIn_r _ [6, 7, 8, 9, 1, 10, 11, 12, 13, 14, 15, 16, 5, 17, 18, 19, 20, 21, 22, 23, 24, 25, 26, 33, 34, 35, 36, 37, 38, 39, 40] (by decide +kernel) (by decide +kernel)
set_option maxRecDepth 20000 in
theorem gX2_foresee_X2_copyFrom : GoodIn wsX2_foresee (wsV RX2 58 RX2 yX2_copyFrom wsX2_copyFrom) := goodIn_app (goodIn_of _ (by decide +kernel)) ggX2_foresee_X2_copyFrom
set_option maxRecDepth 20000 in
theorem ggX2_foresee_X4_hasBit : GoodIn wsX2_foresee wsX4_hasBit := goodIn_r _ [28] (by decide +kernel) (by decide +kernel)
set_option maxRecDepth 20000 in
theorem gX2_foresee_X4_hasBit_n62 : GoodIn wsX2_foresee (wsX4_hasBit) := ggX2_foresee_X4_hasBit
set_option maxRecDepth 20000 in
theorem ggX2_foresee_X2_addCat : GoodIn wsX2_foresee wsX2_addCat := goodIn_r _ [32, 7, 12, 13, 8, 21, 19, 22, 33, 34, 35, 36, 37, 38, 39, 40] (by decide +kernel) (by decide +kernel)
set_option maxRecDepth 20000 in
theorem gX2_foresee_X2_addCat : GoodIn wsX2_foresee (wsV RX2 44 RX2 yX2_addCat wsX2_addCat) := goodIn_app (goodIn_of _ (by decide +kernel)) ggX2_foresee_X2_addCat
theorem dX2_foresee_0 : decode cX2_foresee 0 = .ok (.aload_n 0, 1) := by decide +kernel
theorem dX2_foresee_1 : decode cX2_foresee 1 = .ok (.aload_n 1, 1) := by decide +kernel
theorem dX2_foresee_2 : decode cX2_foresee 2 = .ok (.invokevirtual 58, 3) := by decide +kernel
theorem dX2_foresee_5 : decode cX2_foresee 5 = .ok (.aload_n 0, 1) := by decide +kernel
theorem dX2_foresee_6 : decode cX2_foresee 6 = .ok (.bipush (-9), 2) := by decide +kernel
theorem dX2_foresee_8 : decode cX2_foresee 8 = .ok (.putfield 28, 3) := by decide +kernel
theorem dX2_foresee_11 : decode cX2_foresee 11 = .ok (.iconst 0, 1) := by decide +kernel
theorem dX2_foresee_12 : decode cX2_foresee 12 = .ok (.istore_n 3, 1) := by decide +kernel
theorem dX2_foresee_13 : decode cX2_foresee 13 = .ok (.iload_n 3, 1) := by decide +kernel
theorem dX2_foresee_14 : decode cX2_foresee 14 = .ok (.bipush 24, 2) := by decide +kernel
theorem dX2_foresee_16 : decode cX2_foresee 16 = .ok (.if_icmp .ge 26, 3) := by decide +kernel
theorem dX2_foresee_19 : decode cX2_foresee 19 = .ok (.iload_n 2, 1) := by decide +kernel
theorem dX2_foresee_20 : decode cX2_foresee 20 = .ok (.ifCond .eq 22, 3) := by decide +kernel
theorem dX2_foresee_23 : decode cX2_foresee 23 = .ok (.iload_n 2, 1) := by decide +kernel
theorem dX2_foresee_24 : decode cX2_foresee 24 = .ok (.iload_n 3, 1) := by decide +kernel
theorem dX2_foresee_25 : decode cX2_foresee 25 = .ok (.invokestatic 62, 3) := by decide +kernel
theorem dX2_foresee_28 : decode cX2_foresee 28 = .ok (.ifCond .eq 8, 3) := by decide +kernel
theorem dX2_foresee_31 : decode cX2_foresee 31 = .ok (.aload_n 0, 1) := by decide +kernel
theorem dX2_foresee_32 : decode cX2_foresee 32 = .ok (.iload_n 3, 1) := by decide +kernel
theorem dX2_foresee_33 : decode cX2_foresee 33 = .ok (.invokevirtual 44, 3) := by decide +kernel
theorem dX2_foresee_36 : decode cX2_foresee 36 = .ok (.iinc 3 1, 3) := by decide +kernel
theorem dX2_foresee_39 : decode cX2_foresee 39 = .ok (.goto (-26), 3) := by decide +kernel
theorem dX2_foresee_42 : decode cX2_foresee 42 = .ok (.return_, 1) := by decide +kernel
set_option maxRecDepth 20000 in
theorem ggX2_cellOf_X4_entry : GoodIn wsX2_cellOf wsX4_entry := goodIn_r _ [4] (by decide +kernel) (by decide +kernel)
set_option maxRecDepth 20000 in
theorem gX2_cellOf_X4_entry_n66 : GoodIn wsX2_cellOf (wsX4_entry) := ggX2_cellOf_X4_entry
theorem dX2_cellOf_0 : decode cX2_cellOf 0 = .ok (.aload_n 0, 1) := by decide +kernel
theorem dX2_cellOf_1 : decode cX2_cellOf 1 = .ok (.getfield 9, 3) := by decide +kernel
theorem dX2_cellOf_4 : decode cX2_cellOf 4 = .ok (.iload_n 1, 1) := by decide +kernel
theorem dX2_cellOf_5 : decode cX2_cellOf 5 = .ok (.invokestatic 66, 3) := by decide +kernel
theorem dX2_cellOf_8 : decode cX2_cellOf 8 = .ok (.ireturn, 1) := by decide +kernel
set_option maxRecDepth 20000 in
theorem ggX2_eatenBy_X4_entry : GoodIn wsX2_eatenBy wsX4_entry := goodIn_r _ [4] (by decide +kernel) (by decide +kernel)
set_option maxRecDepth 20000 in
theorem gX2_eatenBy_X4_entry_n66 : GoodIn wsX2_eatenBy (wsX4_entry) := ggX2_eatenBy_X4_entry
theorem dX2_eatenBy_0 : decode cX2_eatenBy 0 = .ok (.aload_n 0, 1) := by decide +kernel
theorem dX2_eatenBy_1 : decode cX2_eatenBy 1 = .ok (.getfield 15, 3) := by decide +kernel
theorem dX2_eatenBy_4 : decode cX2_eatenBy 4 = .ok (.iload_n 1, 1) := by decide +kernel
theorem dX2_eatenBy_5 : decode cX2_eatenBy 5 = .ok (.invokestatic 66, 3) := by decide +kernel
theorem dX2_eatenBy_8 : decode cX2_eatenBy 8 = .ok (.ireturn, 1) := by decide +kernel
set_option maxRecDepth 20000 in
theorem ggX2_catIn_X2_cellOf : GoodIn wsX2_catIn wsX2_cellOf := goodIn_r _ [6, 7, 8, 9, 10, 11, 12, 13, 14, 15, 16, 17, 18] (by decide +kernel) (by decide +kernel)
set_option maxRecDepth 20000 in
theorem gX2_catIn_X2_cellOf : GoodIn wsX2_catIn (wsV RX2 52 RX2 yX2_cellOf wsX2_cellOf) := goodIn_app (goodIn_of _ (by decide +kernel)) ggX2_catIn_X2_cellOf
theorem dX2_catIn_0 : decode cX2_catIn 0 = .ok (.iconst 0, 1) := by decide +kernel
theorem dX2_catIn_1 : decode cX2_catIn 1 = .ok (.istore_n 2, 1) := by decide +kernel
theorem dX2_catIn_2 : decode cX2_catIn 2 = .ok (.iload_n 2, 1) := by decide +kernel
theorem dX2_catIn_3 : decode cX2_catIn 3 = .ok (.aload_n 0, 1) := by decide +kernel
theorem dX2_catIn_4 : decode cX2_catIn 4 = .ok (.getfield 18, 3) := by decide +kernel
theorem dX2_catIn_7 : decode cX2_catIn 7 = .ok (.if_icmp .ge 20, 3) := by decide +kernel
theorem dX2_catIn_10 : decode cX2_catIn 10 = .ok (.aload_n 0, 1) := by decide +kernel
theorem dX2_catIn_11 : decode cX2_catIn 11 = .ok (.iload_n 2, 1) := by decide +kernel
theorem dX2_catIn_12 : decode cX2_catIn 12 = .ok (.invokevirtual 52, 3) := by decide +kernel
theorem dX2_catIn_15 : decode cX2_catIn 15 = .ok (.iload_n 1, 1) := by decide +kernel
theorem dX2_catIn_16 : decode cX2_catIn 16 = .ok (.if_icmp .ne 5, 3) := by decide +kernel
theorem dX2_catIn_19 : decode cX2_catIn 19 = .ok (.iload_n 2, 1) := by decide +kernel
theorem dX2_catIn_20 : decode cX2_catIn 20 = .ok (.ireturn, 1) := by decide +kernel
theorem dX2_catIn_21 : decode cX2_catIn 21 = .ok (.iinc 2 1, 3) := by decide +kernel
theorem dX2_catIn_24 : decode cX2_catIn 24 = .ok (.goto (-22), 3) := by decide +kernel
theorem dX2_catIn_27 : decode cX2_catIn 27 = .ok (.bipush (-9), 2) := by decide +kernel
theorem dX2_catIn_29 : decode cX2_catIn 29 = .ok (.ireturn, 1) := by decide +kernel
set_option maxRecDepth 20000 in
theorem ggX2_passMinute_X2_cellOf : GoodIn wsX2_passMinute wsX2_cellOf := goodIn_r _ [10, 4, 11, 12, 13, 79, 80, 81, 82, 83, 84, 85, 86] (by decide +kernel) (by decide +kernel)
set_option maxRecDepth 20000 in
theorem gX2_passMinute_X2_cellOf : GoodIn wsX2_passMinute (wsV RX2 52 RX2 yX2_cellOf wsX2_cellOf) := goodIn_app (goodIn_of _ (by decide +kernel)) ggX2_passMinute_X2_cellOf
set_option maxRecDepth 20000 in
theorem ggX2_passMinute_X2_wantedCell : GoodIn wsX2_passMinute wsX2_wantedCell := goodIn_r _ [17, 5, 18, 19, 20, 21, 22, 23, 24, 11, 12, 13, 25, 26, 27, 28, 29, 30, 31, 32, 33, 34, 35, 36, 37, 38, 39, 40, 41, 42, 43, 44, 45, 9, 46, 47, 48, 49, 50, 51, 52, 53, 54, 55, 56, 57, 58, 59, 60, 61, 62, 63, 64, 65, 66, 67, 6, 7, 8, 10, 4, 79, 80, 81, 82, 83, 84, 85, 86, 87, 88, 89, 90, 91, 92, 93, 94, 95, 96, 97, 98] (by decide +kernel) (by decide +kernel)
set_option maxRecDepth 20000 in
theorem gX2_passMinute_X2_wantedCell : GoodIn wsX2_passMinute (wsV RX2 70 RX2 yX2_wantedCell wsX2_wantedCell) := goodIn_app (goodIn_of _ (by decide +kernel)) ggX2_passMinute_X2_wantedCell
set_option maxRecDepth 20000 in
theorem ggX2_passMinute_X4_hasBit : GoodIn wsX2_passMinute wsX4_hasBit := goodIn_r _ [50] (by decide +kernel) (by decide +kernel)
set_option maxRecDepth 20000 in
theorem gX2_passMinute_X4_hasBit_n62 : GoodIn wsX2_passMinute (wsX4_hasBit) := ggX2_passMinute_X4_hasBit
set_option maxRecDepth 20000 in
theorem ggX2_passMinute_X4_put : GoodIn wsX2_passMinute wsX4_put := goodIn_r _ [69] (by decide +kernel) (by decide +kernel)
set_option maxRecDepth 20000 in
theorem gX2_passMinute_X4_put_n48 : GoodIn wsX2_passMinute (wsX4_put) := ggX2_passMinute_X4_put
set_option maxRecDepth 20000 in
theorem ggX2_passMinute_X2_eatFish : GoodIn wsX2_passMinute wsX2_eatFish := goodIn_r _ [73, 1, 48, 74, 6, 7, 8, 9, 10, 4, 11, 12, 13, 49, 50, 75, 76, 77, 78, 68, 69, 79, 80, 81, 82, 83, 84, 85, 86] (by decide +kernel) (by decide +kernel)
set_option maxRecDepth 20000 in
theorem gX2_passMinute_X2_eatFish : GoodIn wsX2_passMinute (wsV RX2 74 RX2 yX2_eatFish wsX2_eatFish) := goodIn_app (goodIn_of _ (by decide +kernel)) ggX2_passMinute_X2_eatFish
theorem dX2_passMinute_0 : decode cX2_passMinute 0 = .ok (.iconst 0, 1) := by decide +kernel
theorem dX2_passMinute_1 : decode cX2_passMinute 1 = .ok (.istore_n 2, 1) := by decide +kernel
theorem dX2_passMinute_2 : decode cX2_passMinute 2 = .ok (.iload_n 2, 1) := by decide +kernel
theorem dX2_passMinute_3 : decode cX2_passMinute 3 = .ok (.aload_n 0, 1) := by decide +kernel
theorem dX2_passMinute_4 : decode cX2_passMinute 4 = .ok (.getfield 18, 3) := by decide +kernel
theorem dX2_passMinute_7 : decode cX2_passMinute 7 = .ok (.if_icmp .ge 78, 3) := by decide +kernel
theorem dX2_passMinute_10 : decode cX2_passMinute 10 = .ok (.aload_n 0, 1) := by decide +kernel
theorem dX2_passMinute_11 : decode cX2_passMinute 11 = .ok (.iload_n 2, 1) := by decide +kernel
theorem dX2_passMinute_12 : decode cX2_passMinute 12 = .ok (.invokevirtual 52, 3) := by decide +kernel
theorem dX2_passMinute_15 : decode cX2_passMinute 15 = .ok (.istore_n 3, 1) := by decide +kernel
theorem dX2_passMinute_16 : decode cX2_passMinute 16 = .ok (.aload_n 0, 1) := by decide +kernel
theorem dX2_passMinute_17 : decode cX2_passMinute 17 = .ok (.aload_n 1, 1) := by decide +kernel
theorem dX2_passMinute_18 : decode cX2_passMinute 18 = .ok (.iload_n 2, 1) := by decide +kernel
theorem dX2_passMinute_19 : decode cX2_passMinute 19 = .ok (.iload_n 3, 1) := by decide +kernel
theorem dX2_passMinute_20 : decode cX2_passMinute 20 = .ok (.invokevirtual 70, 3) := by decide +kernel
theorem dX2_passMinute_23 : decode cX2_passMinute 23 = .ok (.istore 4, 2) := by decide +kernel
theorem dX2_passMinute_25 : decode cX2_passMinute 25 = .ok (.iload 4, 2) := by decide +kernel
theorem dX2_passMinute_27 : decode cX2_passMinute 27 = .ok (.iload_n 3, 1) := by decide +kernel
theorem dX2_passMinute_28 : decode cX2_passMinute 28 = .ok (.if_icmp .eq 51, 3) := by decide +kernel
theorem dX2_passMinute_31 : decode cX2_passMinute 31 = .ok (.iload 4, 2) := by decide +kernel
theorem dX2_passMinute_33 : decode cX2_passMinute 33 = .ok (.aload_n 0, 1) := by decide +kernel
theorem dX2_passMinute_34 : decode cX2_passMinute 34 = .ok (.getfield 28, 3) := by decide +kernel
theorem dX2_passMinute_37 : decode cX2_passMinute 37 = .ok (.if_icmp .eq 42, 3) := by decide +kernel
theorem dX2_passMinute_40 : decode cX2_passMinute 40 = .ok (.aload_n 0, 1) := by decide +kernel
theorem dX2_passMinute_41 : decode cX2_passMinute 41 = .ok (.getfield 22, 3) := by decide +kernel
theorem dX2_passMinute_44 : decode cX2_passMinute 44 = .ok (.iload 4, 2) := by decide +kernel
theorem dX2_passMinute_46 : decode cX2_passMinute 46 = .ok (.invokestatic 62, 3) := by decide +kernel
theorem dX2_passMinute_49 : decode cX2_passMinute 49 = .ok (.ifCond .ne 30, 3) := by decide +kernel
theorem dX2_passMinute_52 : decode cX2_passMinute 52 = .ok (.aload_n 0, 1) := by decide +kernel
theorem dX2_passMinute_53 : decode cX2_passMinute 53 = .ok (.dup, 1) := by decide +kernel
theorem dX2_passMinute_54 : decode cX2_passMinute 54 = .ok (.getfield 22, 3) := by decide +kernel
theorem dX2_passMinute_57 : decode cX2_passMinute 57 = .ok (.iconst 1, 1) := by decide +kernel
theorem dX2_passMinute_58 : decode cX2_passMinute 58 = .ok (.iload_n 3, 1) := by decide +kernel
theorem dX2_passMinute_59 : decode cX2_passMinute 59 = .ok (.ishl, 1) := by decide +kernel
theorem dX2_passMinute_60 : decode cX2_passMinute 60 = .ok (.iconst 1, 1) := by decide +kernel
theorem dX2_passMinute_61 : decode cX2_passMinute 61 = .ok (.iload 4, 2) := by decide +kernel
theorem dX2_passMinute_63 : decode cX2_passMinute 63 = .ok (.ishl, 1) := by decide +kernel
theorem dX2_passMinute_64 : decode cX2_passMinute 64 = .ok (.ior, 1) := by decide +kernel
theorem dX2_passMinute_65 : decode cX2_passMinute 65 = .ok (.ixor, 1) := by decide +kernel
theorem dX2_passMinute_66 : decode cX2_passMinute 66 = .ok (.putfield 22, 3) := by decide +kernel
theorem dX2_passMinute_69 : decode cX2_passMinute 69 = .ok (.aload_n 0, 1) := by decide +kernel
theorem dX2_passMinute_70 : decode cX2_passMinute 70 = .ok (.getfield 9, 3) := by decide +kernel
theorem dX2_passMinute_73 : decode cX2_passMinute 73 = .ok (.iload_n 2, 1) := by decide +kernel
theorem dX2_passMinute_74 : decode cX2_passMinute 74 = .ok (.iload 4, 2) := by decide +kernel
theorem dX2_passMinute_76 : decode cX2_passMinute 76 = .ok (.invokestatic 48, 3) := by decide +kernel
theorem dX2_passMinute_79 : decode cX2_passMinute 79 = .ok (.iinc 2 1, 3) := by decide +kernel
theorem dX2_passMinute_82 : decode cX2_passMinute 82 = .ok (.goto (-80), 3) := by decide +kernel
theorem dX2_passMinute_85 : decode cX2_passMinute 85 = .ok (.aload_n 0, 1) := by decide +kernel
theorem dX2_passMinute_86 : decode cX2_passMinute 86 = .ok (.dup, 1) := by decide +kernel
theorem dX2_passMinute_87 : decode cX2_passMinute 87 = .ok (.getfield 31, 3) := by decide +kernel
theorem dX2_passMinute_90 : decode cX2_passMinute 90 = .ok (.iconst 1, 1) := by decide +kernel
theorem dX2_passMinute_91 : decode cX2_passMinute 91 = .ok (.iadd, 1) := by decide +kernel
theorem dX2_passMinute_92 : decode cX2_passMinute 92 = .ok (.putfield 31, 3) := by decide +kernel
theorem dX2_passMinute_95 : decode cX2_passMinute 95 = .ok (.aload_n 0, 1) := by decide +kernel
theorem dX2_passMinute_96 : decode cX2_passMinute 96 = .ok (.invokevirtual 74, 3) := by decide +kernel
theorem dX2_passMinute_99 : decode cX2_passMinute 99 = .ok (.ireturn, 1) := by decide +kernel
set_option maxRecDepth 20000 in
theorem ggX2_wantedCell_X0_habitOf : GoodIn wsX2_wantedCell wsX0_habitOf := goodIn_r _ [6, 7, 8, 9, 10, 11, 69, 70, 71, 72, 73, 74, 75, 76, 77, 78, 79, 80] (by decide +kernel) (by decide +kernel)
set_option maxRecDepth 20000 in
theorem gX2_wantedCell_X0_habitOf : GoodIn wsX2_wantedCell (wsV RX2 78 RX0 yX0_habitOf wsX0_habitOf) := goodIn_app (goodIn_of _ (by decide +kernel)) ggX2_wantedCell_X0_habitOf
set_option maxRecDepth 20000 in
theorem ggX2_wantedCell_X0_sunColumn : GoodIn wsX2_wantedCell wsX0_sunColumn := goodIn_r _ [15, 16, 17, 18, 69, 70, 71, 72, 73, 74, 75, 76, 77, 78, 79, 80] (by decide +kernel) (by decide +kernel)
set_option maxRecDepth 20000 in
theorem gX2_wantedCell_X0_sunColumn : GoodIn wsX2_wantedCell (wsV RX2 81 RX0 yX0_sunColumn wsX0_sunColumn) := goodIn_app (goodIn_of _ (by decide +kernel)) ggX2_wantedCell_X0_sunColumn
set_option maxRecDepth 20000 in
theorem ggX2_wantedCell_X0_stepToColumn : GoodIn wsX2_wantedCell wsX0_stepToColumn := goodIn_r _ [22, 23, 24, 25, 5, 26, 16, 27, 28, 29, 69, 70, 71, 72, 73, 74, 75, 76, 77, 78, 79, 80] (by decide +kernel) (by decide +kernel)
set_option maxRecDepth 20000 in
theorem gX2_wantedCell_X0_stepToColumn : GoodIn wsX2_wantedCell (wsV RX2 84 RX0 yX0_stepToColumn wsX0_stepToColumn) := goodIn_app (goodIn_of _ (by decide +kernel)) ggX2_wantedCell_X0_stepToColumn
set_option maxRecDepth 20000 in
theorem ggX2_wantedCell_X2_nearestFish : GoodIn wsX2_wantedCell wsX2_nearestFish := goodIn_r _ [34, 35, 36, 37, 10, 38, 39, 40, 41, 5, 42, 16, 43, 44, 45, 46, 69, 70, 71, 72, 73, 74, 75, 76, 77, 78, 79, 80, 61, 62, 63, 64, 65, 66, 67, 68] (by decide +kernel) (by decide +kernel)
set_option maxRecDepth 20000 in
theorem gX2_wantedCell_X2_nearestFish : GoodIn wsX2_wantedCell (wsV RX2 88 RX2 yX2_nearestFish wsX2_nearestFish) := goodIn_app (goodIn_of _ (by decide +kernel)) ggX2_wantedCell_X2_nearestFish
set_option maxRecDepth 20000 in
theorem ggX2_wantedCell_X0_stepTowards : GoodIn wsX2_wantedCell wsX0_stepTowards := goodIn_r _ [50, 16, 23, 24, 25, 5, 26, 27, 28, 29, 69, 70, 71, 72, 73, 74, 75, 76, 77, 78, 79, 80] (by decide +kernel) (by decide +kernel)
set_option maxRecDepth 20000 in
theorem gX2_wantedCell_X0_stepTowards : GoodIn wsX2_wantedCell (wsV RX2 92 RX0 yX0_stepTowards wsX0_stepTowards) := goodIn_app (goodIn_of _ (by decide +kernel)) ggX2_wantedCell_X0_stepTowards
set_option maxRecDepth 20000 in
theorem ggX2_wantedCell_X0_leaderOf : GoodIn wsX2_wantedCell wsX0_leaderOf := goodIn_r _ [54, 55, 9, 10, 11, 69, 70, 71, 72, 73, 74, 75, 76, 77, 78, 79, 80] (by decide +kernel) (by decide +kernel)
set_option maxRecDepth 20000 in
theorem gX2_wantedCell_X0_leaderOf : GoodIn wsX2_wantedCell (wsV RX2 95 RX0 yX0_leaderOf wsX0_leaderOf) := goodIn_app (goodIn_of _ (by decide +kernel)) ggX2_wantedCell_X0_leaderOf
set_option maxRecDepth 20000 in
theorem ggX2_wantedCell_X2_cellOf : GoodIn wsX2_wantedCell wsX2_cellOf := goodIn_r _ [59, 60, 9, 10, 11, 61, 62, 63, 64, 65, 66, 67, 68] (by decide +kernel) (by decide +kernel)
set_option maxRecDepth 20000 in
theorem gX2_wantedCell_X2_cellOf : GoodIn wsX2_wantedCell (wsV RX2 52 RX2 yX2_cellOf wsX2_cellOf) := goodIn_app (goodIn_of _ (by decide +kernel)) ggX2_wantedCell_X2_cellOf
theorem dX2_wantedCell_0 : decode cX2_wantedCell 0 = .ok (.aload_n 1, 1) := by decide +kernel
theorem dX2_wantedCell_1 : decode cX2_wantedCell 1 = .ok (.iload_n 2, 1) := by decide +kernel
theorem dX2_wantedCell_2 : decode cX2_wantedCell 2 = .ok (.invokevirtual 78, 3) := by decide +kernel
theorem dX2_wantedCell_5 : decode cX2_wantedCell 5 = .ok (.tableswitch 68 1 3 #[27, 41, 53], 27) := by decide +kernel
theorem dX2_wantedCell_32 : decode cX2_wantedCell 32 = .ok (.aload_n 1, 1) := by decide +kernel
theorem dX2_wantedCell_33 : decode cX2_wantedCell 33 = .ok (.iload_n 3, 1) := by decide +kernel
theorem dX2_wantedCell_34 : decode cX2_wantedCell 34 = .ok (.aload_n 1, 1) := by decide +kernel
theorem dX2_wantedCell_35 : decode cX2_wantedCell 35 = .ok (.aload_n 0, 1) := by decide +kernel
theorem dX2_wantedCell_36 : decode cX2_wantedCell 36 = .ok (.getfield 31, 3) := by decide +kernel
theorem dX2_wantedCell_39 : decode cX2_wantedCell 39 = .ok (.invokevirtual 81, 3) := by decide +kernel
theorem dX2_wantedCell_42 : decode cX2_wantedCell 42 = .ok (.invokevirtual 84, 3) := by decide +kernel
theorem dX2_wantedCell_45 : decode cX2_wantedCell 45 = .ok (.ireturn, 1) := by decide +kernel
theorem dX2_wantedCell_46 : decode cX2_wantedCell 46 = .ok (.aload_n 1, 1) := by decide +kernel
theorem dX2_wantedCell_47 : decode cX2_wantedCell 47 = .ok (.iload_n 3, 1) := by decide +kernel
theorem dX2_wantedCell_48 : decode cX2_wantedCell 48 = .ok (.aload_n 0, 1) := by decide +kernel
theorem dX2_wantedCell_49 : decode cX2_wantedCell 49 = .ok (.aload_n 1, 1) := by decide +kernel
theorem dX2_wantedCell_50 : decode cX2_wantedCell 50 = .ok (.iload_n 3, 1) := by decide +kernel
theorem dX2_wantedCell_51 : decode cX2_wantedCell 51 = .ok (.invokevirtual 88, 3) := by decide +kernel
theorem dX2_wantedCell_54 : decode cX2_wantedCell 54 = .ok (.invokevirtual 92, 3) := by decide +kernel
theorem dX2_wantedCell_57 : decode cX2_wantedCell 57 = .ok (.ireturn, 1) := by decide +kernel
theorem dX2_wantedCell_58 : decode cX2_wantedCell 58 = .ok (.aload_n 1, 1) := by decide +kernel
theorem dX2_wantedCell_59 : decode cX2_wantedCell 59 = .ok (.iload_n 3, 1) := by decide +kernel
theorem dX2_wantedCell_60 : decode cX2_wantedCell 60 = .ok (.aload_n 0, 1) := by decide +kernel
theorem dX2_wantedCell_61 : decode cX2_wantedCell 61 = .ok (.aload_n 1, 1) := by decide +kernel
theorem dX2_wantedCell_62 : decode cX2_wantedCell 62 = .ok (.iload_n 2, 1) := by decide +kernel
theorem dX2_wantedCell_63 : decode cX2_wantedCell 63 = .ok (.invokevirtual 95, 3) := by decide +kernel
theorem dX2_wantedCell_66 : decode cX2_wantedCell 66 = .ok (.invokevirtual 52, 3) := by decide +kernel
theorem dX2_wantedCell_69 : decode cX2_wantedCell 69 = .ok (.invokevirtual 92, 3) := by decide +kernel
theorem dX2_wantedCell_72 : decode cX2_wantedCell 72 = .ok (.ireturn, 1) := by decide +kernel
theorem dX2_wantedCell_73 : decode cX2_wantedCell 73 = .ok (.iload_n 3, 1) := by decide +kernel
theorem dX2_wantedCell_74 : decode cX2_wantedCell 74 = .ok (.ireturn, 1) := by decide +kernel
set_option maxRecDepth 20000 in
theorem ggX2_nearestFish_X4_hasBit : GoodIn wsX2_nearestFish wsX4_hasBit := goodIn_r _ [5] (by decide +kernel) (by decide +kernel)
set_option maxRecDepth 20000 in
theorem gX2_nearestFish_X4_hasBit_n62 : GoodIn wsX2_nearestFish (wsX4_hasBit) := ggX2_nearestFish_X4_hasBit
set_option maxRecDepth 20000 in
theorem ggX2_nearestFish_X0_stepsBetween : GoodIn wsX2_nearestFish wsX0_stepsBetween := goodIn_r _ [10, 11, 12, 13, 14, 15, 16, 17, 18, 19, 20, 21, 22, 23, 24, 25, 26, 27] (by decide +kernel) (by decide +kernel)
set_option maxRecDepth 20000 in
theorem gX2_nearestFish_X0_stepsBetween : GoodIn wsX2_nearestFish (wsV RX2 101 RX0 yX0_stepsBetween wsX0_stepsBetween) := goodIn_app (goodIn_of _ (by decide +kernel)) ggX2_nearestFish_X0_stepsBetween
theorem dX2_nearestFish_0 : decode cX2_nearestFish 0 = .ok (.iload_n 2, 1) := by decide +kernel
theorem dX2_nearestFish_1 : decode cX2_nearestFish 1 = .ok (.istore_n 3, 1) := by decide +kernel
theorem dX2_nearestFish_2 : decode cX2_nearestFish 2 = .ok (.aload_n 1, 1) := by decide +kernel
theorem dX2_nearestFish_3 : decode cX2_nearestFish 3 = .ok (.getfield 98, 3) := by decide +kernel
theorem dX2_nearestFish_6 : decode cX2_nearestFish 6 = .ok (.iconst 1, 1) := by decide +kernel
theorem dX2_nearestFish_7 : decode cX2_nearestFish 7 = .ok (.iadd, 1) := by decide +kernel
theorem dX2_nearestFish_8 : decode cX2_nearestFish 8 = .ok (.istore 4, 2) := by decide +kernel
theorem dX2_nearestFish_10 : decode cX2_nearestFish 10 = .ok (.iconst 0, 1) := by decide +kernel
theorem dX2_nearestFish_11 : decode cX2_nearestFish 11 = .ok (.istore 5, 2) := by decide +kernel
theorem dX2_nearestFish_13 : decode cX2_nearestFish 13 = .ok (.iload 5, 2) := by decide +kernel
theorem dX2_nearestFish_15 : decode cX2_nearestFish 15 = .ok (.bipush 24, 2) := by decide +kernel
theorem dX2_nearestFish_17 : decode cX2_nearestFish 17 = .ok (.if_icmp .ge 51, 3) := by decide +kernel
theorem dX2_nearestFish_20 : decode cX2_nearestFish 20 = .ok (.aload_n 0, 1) := by decide +kernel
theorem dX2_nearestFish_21 : decode cX2_nearestFish 21 = .ok (.getfield 25, 3) := by decide +kernel
theorem dX2_nearestFish_24 : decode cX2_nearestFish 24 = .ok (.ifCond .eq 44, 3) := by decide +kernel
theorem dX2_nearestFish_27 : decode cX2_nearestFish 27 = .ok (.aload_n 0, 1) := by decide +kernel
theorem dX2_nearestFish_28 : decode cX2_nearestFish 28 = .ok (.getfield 25, 3) := by decide +kernel
theorem dX2_nearestFish_31 : decode cX2_nearestFish 31 = .ok (.iload 5, 2) := by decide +kernel
theorem dX2_nearestFish_33 : decode cX2_nearestFish 33 = .ok (.invokestatic 62, 3) := by decide +kernel
theorem dX2_nearestFish_36 : decode cX2_nearestFish 36 = .ok (.ifCond .eq 26, 3) := by decide +kernel
theorem dX2_nearestFish_39 : decode cX2_nearestFish 39 = .ok (.aload_n 1, 1) := by decide +kernel
theorem dX2_nearestFish_40 : decode cX2_nearestFish 40 = .ok (.iload_n 2, 1) := by decide +kernel
theorem dX2_nearestFish_41 : decode cX2_nearestFish 41 = .ok (.iload 5, 2) := by decide +kernel
theorem dX2_nearestFish_43 : decode cX2_nearestFish 43 = .ok (.invokevirtual 101, 3) := by decide +kernel
theorem dX2_nearestFish_46 : decode cX2_nearestFish 46 = .ok (.istore 6, 2) := by decide +kernel
theorem dX2_nearestFish_48 : decode cX2_nearestFish 48 = .ok (.iload 6, 2) := by decide +kernel
theorem dX2_nearestFish_50 : decode cX2_nearestFish 50 = .ok (.iload 4, 2) := by decide +kernel
theorem dX2_nearestFish_52 : decode cX2_nearestFish 52 = .ok (.if_icmp .ge 10, 3) := by decide +kernel
theorem dX2_nearestFish_55 : decode cX2_nearestFish 55 = .ok (.iload 6, 2) := by decide +kernel
theorem dX2_nearestFish_57 : decode cX2_nearestFish 57 = .ok (.istore 4, 2) := by decide +kernel
theorem dX2_nearestFish_59 : decode cX2_nearestFish 59 = .ok (.iload 5, 2) := by decide +kernel
theorem dX2_nearestFish_61 : decode cX2_nearestFish 61 = .ok (.istore_n 3, 1) := by decide +kernel
theorem dX2_nearestFish_62 : decode cX2_nearestFish 62 = .ok (.iinc 5 1, 3) := by decide +kernel
theorem dX2_nearestFish_65 : decode cX2_nearestFish 65 = .ok (.goto (-52), 3) := by decide +kernel
theorem dX2_nearestFish_68 : decode cX2_nearestFish 68 = .ok (.iload_n 3, 1) := by decide +kernel
theorem dX2_nearestFish_69 : decode cX2_nearestFish 69 = .ok (.ireturn, 1) := by decide +kernel
set_option maxRecDepth 20000 in
theorem ggX2_eatFish_X2_cellOf : GoodIn wsX2_eatFish wsX2_cellOf := goodIn_r _ [8, 9, 10, 11, 12, 21, 22, 23, 24, 25, 26, 27, 28] (by decide +kernel) (by decide +kernel)
set_option maxRecDepth 20000 in
theorem gX2_eatFish_X2_cellOf : GoodIn wsX2_eatFish (wsV RX2 52 RX2 yX2_cellOf wsX2_cellOf) := goodIn_app (goodIn_of _ (by decide +kernel)) ggX2_eatFish_X2_cellOf
set_option maxRecDepth 20000 in
theorem ggX2_eatFish_X4_hasBit : GoodIn wsX2_eatFish wsX4_hasBit := goodIn_r _ [14] (by decide +kernel) (by decide +kernel)
set_option maxRecDepth 20000 in
theorem gX2_eatFish_X4_hasBit_n62 : GoodIn wsX2_eatFish (wsX4_hasBit) := ggX2_eatFish_X4_hasBit
set_option maxRecDepth 20000 in
theorem ggX2_eatFish_X2_eatenBy : GoodIn wsX2_eatFish wsX2_eatenBy := goodIn_r _ [18, 3, 10, 11, 12, 21, 22, 23, 24, 25, 26, 27, 28] (by decide +kernel) (by decide +kernel)
set_option maxRecDepth 20000 in
theorem gX2_eatFish_X2_eatenBy : GoodIn wsX2_eatFish (wsV RX2 55 RX2 yX2_eatenBy wsX2_eatenBy) := goodIn_app (goodIn_of _ (by decide +kernel)) ggX2_eatFish_X2_eatenBy
set_option maxRecDepth 20000 in
theorem ggX2_eatFish_X4_put : GoodIn wsX2_eatFish wsX4_put := goodIn_r _ [20] (by decide +kernel) (by decide +kernel)
set_option maxRecDepth 20000 in
theorem gX2_eatFish_X4_put_n48 : GoodIn wsX2_eatFish (wsX4_put) := ggX2_eatFish_X4_put
theorem dX2_eatFish_0 : decode cX2_eatFish 0 = .ok (.iconst 0, 1) := by decide +kernel
theorem dX2_eatFish_1 : decode cX2_eatFish 1 = .ok (.istore_n 1, 1) := by decide +kernel
theorem dX2_eatFish_2 : decode cX2_eatFish 2 = .ok (.iconst 0, 1) := by decide +kernel
theorem dX2_eatFish_3 : decode cX2_eatFish 3 = .ok (.istore_n 2, 1) := by decide +kernel
theorem dX2_eatFish_4 : decode cX2_eatFish 4 = .ok (.iload_n 2, 1) := by decide +kernel
theorem dX2_eatFish_5 : decode cX2_eatFish 5 = .ok (.aload_n 0, 1) := by decide +kernel
theorem dX2_eatFish_6 : decode cX2_eatFish 6 = .ok (.getfield 18, 3) := by decide +kernel
theorem dX2_eatFish_9 : decode cX2_eatFish 9 = .ok (.if_icmp .ge 63, 3) := by decide +kernel
theorem dX2_eatFish_12 : decode cX2_eatFish 12 = .ok (.aload_n 0, 1) := by decide +kernel
theorem dX2_eatFish_13 : decode cX2_eatFish 13 = .ok (.getfield 25, 3) := by decide +kernel
theorem dX2_eatFish_16 : decode cX2_eatFish 16 = .ok (.ifCond .eq 56, 3) := by decide +kernel
theorem dX2_eatFish_19 : decode cX2_eatFish 19 = .ok (.aload_n 0, 1) := by decide +kernel
theorem dX2_eatFish_20 : decode cX2_eatFish 20 = .ok (.iload_n 2, 1) := by decide +kernel
theorem dX2_eatFish_21 : decode cX2_eatFish 21 = .ok (.invokevirtual 52, 3) := by decide +kernel
theorem dX2_eatFish_24 : decode cX2_eatFish 24 = .ok (.istore_n 3, 1) := by decide +kernel
theorem dX2_eatFish_25 : decode cX2_eatFish 25 = .ok (.aload_n 0, 1) := by decide +kernel
theorem dX2_eatFish_26 : decode cX2_eatFish 26 = .ok (.getfield 25, 3) := by decide +kernel
theorem dX2_eatFish_29 : decode cX2_eatFish 29 = .ok (.iload_n 3, 1) := by decide +kernel
theorem dX2_eatFish_30 : decode cX2_eatFish 30 = .ok (.invokestatic 62, 3) := by decide +kernel
theorem dX2_eatFish_33 : decode cX2_eatFish 33 = .ok (.ifCond .eq 33, 3) := by decide +kernel
theorem dX2_eatFish_36 : decode cX2_eatFish 36 = .ok (.aload_n 0, 1) := by decide +kernel
theorem dX2_eatFish_37 : decode cX2_eatFish 37 = .ok (.dup, 1) := by decide +kernel
theorem dX2_eatFish_38 : decode cX2_eatFish 38 = .ok (.getfield 25, 3) := by decide +kernel
theorem dX2_eatFish_41 : decode cX2_eatFish 41 = .ok (.iconst 1, 1) := by decide +kernel
theorem dX2_eatFish_42 : decode cX2_eatFish 42 = .ok (.iload_n 3, 1) := by decide +kernel
theorem dX2_eatFish_43 : decode cX2_eatFish 43 = .ok (.ishl, 1) := by decide +kernel
theorem dX2_eatFish_44 : decode cX2_eatFish 44 = .ok (.ixor, 1) := by decide +kernel
theorem dX2_eatFish_45 : decode cX2_eatFish 45 = .ok (.putfield 25, 3) := by decide +kernel
theorem dX2_eatFish_48 : decode cX2_eatFish 48 = .ok (.aload_n 0, 1) := by decide +kernel
theorem dX2_eatFish_49 : decode cX2_eatFish 49 = .ok (.getfield 15, 3) := by decide +kernel
theorem dX2_eatFish_52 : decode cX2_eatFish 52 = .ok (.iload_n 2, 1) := by decide +kernel
theorem dX2_eatFish_53 : decode cX2_eatFish 53 = .ok (.aload_n 0, 1) := by decide +kernel
theorem dX2_eatFish_54 : decode cX2_eatFish 54 = .ok (.iload_n 2, 1) := by decide +kernel
theorem dX2_eatFish_55 : decode cX2_eatFish 55 = .ok (.invokevirtual 55, 3) := by decide +kernel
theorem dX2_eatFish_58 : decode cX2_eatFish 58 = .ok (.iconst 1, 1) := by decide +kernel
theorem dX2_eatFish_59 : decode cX2_eatFish 59 = .ok (.iadd, 1) := by decide +kernel
theorem dX2_eatFish_60 : decode cX2_eatFish 60 = .ok (.invokestatic 48, 3) := by decide +kernel
theorem dX2_eatFish_63 : decode cX2_eatFish 63 = .ok (.iinc 1 1, 3) := by decide +kernel
theorem dX2_eatFish_66 : decode cX2_eatFish 66 = .ok (.iinc 2 1, 3) := by decide +kernel
theorem dX2_eatFish_69 : decode cX2_eatFish 69 = .ok (.goto (-65), 3) := by decide +kernel
theorem dX2_eatFish_72 : decode cX2_eatFish 72 = .ok (.iload_n 1, 1) := by decide +kernel
theorem dX2_eatFish_73 : decode cX2_eatFish 73 = .ok (.ireturn, 1) := by decide +kernel
